/-! back on machine A: calls by contract, the steps of the law -/
theorem a_ct {G : Int → Nat} {m : Nat} {as ls : List dsU} {M : dsMem} {g : dsMem → List dsU} {R : dsMem → Prop} {K : dsQT} (hL : Lay G M) (hV : Vs G as) (hn : (bFl as).length ≤ dsMx m) (hls : bIn m as = ls) (c : bCt m ls M g R)
    (hK : ∀ M', Lay G M' → R M' → K ((g M').map er) M') : dsA m 0 (dsIn m (as.map er)) [] (0, 0) M K := by
  subst hls
  refine dsA_mono ?_ (bB_sound (Q := fun r M' => r = g M' ∧ R M') hL hV hn (c _ (fun M1 r => ⟨rfl, r⟩)))
  rintro r M' ⟨r', e, _, hL', e2, hR⟩
  rw [e, e2]
  exact hK M' hL' hR
section
variable {m pc nx tg : Nat} {ls st r : List dsV} {u : Nat × Nat} {M : dsMem} {Q : dsQT}
theorem a_iconst {n : Int} (hd : dcd m pc (.iconst n) (pc + 1) tg) (hn : -100 ≤ n ∧ n ≤ 100) (k : dsA m (pc + 1) ls (vI n :: st) u M Q) : dsA m pc ls st u M Q := by
  obtain ⟨len, h1, h2, _, _⟩ := hd
  refine dsA_st h1 h2 ?_
  show (if -100 ≤ n ∧ n ≤ 100 then dsA m (pc + 1) ls (vI n :: st) u M Q else False)
  rw [if_pos hn]; exact k
end
