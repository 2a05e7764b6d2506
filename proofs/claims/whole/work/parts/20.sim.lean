/-! what machine B shows, machine A shows, where the layout is as the kinds say -/
def Vs (G : Int → Nat) : List dsU → Prop
  | [] => True
  | v :: r => Vd G v ∧ Vs G r
theorem Vs_mem {G : Int → Nat} {a : List dsU} : Vs G a ↔ ∀ v ∈ a, Vd G v := by
  induction a with
  | nil => exact ⟨fun _ v h => (by cases h), fun _ => trivial⟩
  | cons v r ih =>
    refine ⟨fun h w hw => ?_, fun h => ⟨h v List.mem_cons_self, ih.mpr fun w hw => h w (List.mem_cons_of_mem _ hw)⟩⟩
    rcases List.mem_cons.mp hw with rfl | hw
    · exact h.1
    · exact ih.mp h.2 w hw
theorem Vs_app {G : Int → Nat} {a b : List dsU} : Vs G (a ++ b) ↔ Vs G a ∧ Vs G b := by
  induction a with
  | nil => exact ⟨fun h => ⟨trivial, h⟩, fun h => h.2⟩
  | cons v r ih => exact ⟨fun h => ⟨⟨h.1, (ih.mp h.2).1⟩, (ih.mp h.2).2⟩, fun h => ⟨h.1.1, ih.mpr ⟨h.1.2, h.2⟩⟩⟩
theorem Vs_rev {G : Int → Nat} {a : List dsU} (h : Vs G a) : Vs G a.reverse := Vs_mem.mpr fun v hv => Vs_mem.mp h v (List.mem_reverse.mp hv)
/-- locals -/
def bLr (G : Int → Nat) (n : Nat) (ls : List dsU) (la : List dsV) : Prop := la.length = n ∧ (∀ i, bg ls i = uX 0 ∨ dsg la i = er (bg ls i)) ∧ ∀ i, Vd G (bg ls i)
theorem bg_out : ∀ (l : List dsU) (j : Nat), l.length ≤ j → bg l j = uX 0 := by
  intro l
  induction l with
  | nil => intro j _; rfl
  | cons a r ih =>
    intro j hj
    cases j with
    | zero => simp at hj
    | succ j => exact ih j (by simpa using hj)
theorem bg_bp (ls : List dsU) : ∀ (i j : Nat) (v : dsU), bg (bp ls i v) j = if j = i ∧ i < ls.length then v else bg ls j := by
  induction ls with
  | nil => intro i j v; simp [bp, bg]
  | cons a r ih =>
    intro i j v
    cases i with
    | zero =>
      cases j with
      | zero => simp [bp, bg]
      | succ j => simp [bp, bg]
    | succ i =>
      cases j with
      | zero => simp [bp, bg]
      | succ j => simp [bp, bg, ih]
theorem bp_len (ls : List dsU) : ∀ (i : Nat) (v : dsU), (bp ls i v).length = ls.length := by
  induction ls with
  | nil => intro i v; rfl
  | cons a r ih =>
    intro i v
    cases i with
    | zero => rfl
    | succ i => simp [bp, ih]
theorem dspc_len (ls : List dsV) (i : Nat) : (dspc ls i).length = ls.length := by
  cases i with
  | zero => rfl
  | succ j =>
    simp only [dspc]
    split
    · exact dsp_len _ _ _
    · rfl
theorem bpc_rel {ls : List dsU} {la : List dsV} (h : ∀ i, bg ls i = uX 0 ∨ dsg la i = er (bg ls i)) (i : Nat) : ∀ j, bg (bpc ls i) j = uX 0 ∨ (dsg (dspc la i) j = er (bg (bpc ls i) j) ∧ bg (bpc ls i) j = bg ls j) := by
  intro j
  cases i with
  | zero =>
    rcases h j with q | q
    · exact Or.inl q
    · exact Or.inr ⟨q, rfl⟩
  | succ k =>
    simp only [bpc]
    split
    · rename_i x hx
      rw [bg_bp]
      by_cases hj : j = k ∧ k < ls.length
      · rw [if_pos hj]; exact Or.inl rfl
      · rw [if_neg hj]
        by_cases hjk : j = k
        · subst hjk
          rw [bg_out ls j (by omega)]
          exact Or.inl rfl
        · rcases h j with q | q
          · exact Or.inl q
          · right
            refine ⟨?_, rfl⟩
            simp only [dspc]
            split
            · rw [dsg_dsp, if_neg (fun z => hjk z.1)]; exact q
            · exact q
    · rename_i hn
      rcases h j with q | q
      · exact Or.inl q
      · by_cases hz : bg ls j = uX 0
        · exact Or.inl hz
        · right
          refine ⟨?_, rfl⟩
          simp only [dspc]
          split
          · rename_i y hy
            rw [dsg_dsp]
            by_cases hj : j = k ∧ k < la.length
            · exfalso
              rw [hj.1] at q
              rw [hy] at q
              rcases hd : bg ls k with x | x | ⟨t, x⟩ | n
              · rw [hd] at q; cases q
              · exact hn x hd
              · rw [hd] at q; cases q
              · rw [hd] at q; cases q
            · rw [if_neg hj]; exact q
          · exact q
theorem bpc_v {G : Int → Nat} {ls : List dsU} (h : ∀ i, Vd G (bg ls i)) (i : Nat) : ∀ j, Vd G (bg (bpc ls i) j) := by
  intro j
  cases i with
  | zero => exact h j
  | succ k =>
    simp only [bpc]
    split
    · rw [bg_bp]
      split
      · trivial
      · exact h j
    · exact h j
theorem bLr.st1 {G : Int → Nat} {n : Nat} {ls : List dsU} {la : List dsV} {i : Nat} {v : dsU} (h : bLr G n ls la) (hi : i < n) (hv : Vd G v) : bLr G n (bp1 ls i v) (dsp1 la i (er v)) := by
  obtain ⟨h1, h2, h3⟩ := h
  refine ⟨by unfold dsp1; rw [dsp_len, dspc_len]; exact h1, fun j => ?_, fun j => ?_⟩
  · unfold bp1 dsp1
    rw [bg_bp, dsg_dsp]
    by_cases hj : j = i
    · rw [if_pos (show j = i ∧ i < (dspc la i).length from ⟨hj, by rw [dspc_len]; omega⟩)]
      by_cases hl : i < (bpc ls i).length
      · rw [if_pos (show j = i ∧ i < (bpc ls i).length from ⟨hj, hl⟩)]; exact Or.inr rfl
      · rw [if_neg (show ¬ (j = i ∧ i < (bpc ls i).length) from fun z => hl z.2), bg_out _ j (by omega)]; exact Or.inl rfl
    · rw [if_neg (fun z => hj z.1), if_neg (fun z => hj z.1)]
      rcases bpc_rel h2 i j with q | ⟨q, -⟩
      · exact Or.inl q
      · exact Or.inr q
  · unfold bp1
    rw [bg_bp]
    split
    · exact hv
    · exact bpc_v h3 i j
theorem bLr.st2 {G : Int → Nat} {n : Nat} {ls : List dsU} {la : List dsV} {i : Nat} {v : dsU} (h : bLr G n ls la) (hi : i + 1 < n) (hv : Vd G v) : bLr G n (bp2 ls i v) (dsp2 la i (er v)) := by
  obtain ⟨h1, h2, h3⟩ := h
  refine ⟨by unfold dsp2; rw [dsp_len, dsp_len, dspc_len]; exact h1, fun j => ?_, fun j => ?_⟩
  · unfold bp2 dsp2
    rw [bg_bp, dsg_dsp]
    by_cases hj1 : j = i + 1
    · by_cases hl : i + 1 < (bp (bpc ls i) i v).length
      · rw [if_pos (show j = i + 1 ∧ i + 1 < (bp (bpc ls i) i v).length from ⟨hj1, hl⟩)]; exact Or.inl rfl
      · rw [if_neg (show ¬ (j = i + 1 ∧ i + 1 < (bp (bpc ls i) i v).length) from fun z => hl z.2), bg_bp, if_neg (by omega)]
        rw [bp_len] at hl
        rw [bg_out _ j (by omega)]
        exact Or.inl rfl
    · rw [if_neg (fun z => hj1 z.1), if_neg (fun z => hj1 z.1), bg_bp, dsg_dsp]
      by_cases hj : j = i
      · rw [if_pos (show j = i ∧ i < (dspc la i).length from ⟨hj, by rw [dspc_len]; omega⟩)]
        by_cases hl : i < (bpc ls i).length
        · rw [if_pos (show j = i ∧ i < (bpc ls i).length from ⟨hj, hl⟩)]; exact Or.inr rfl
        · rw [if_neg (show ¬ (j = i ∧ i < (bpc ls i).length) from fun z => hl z.2), bg_out _ j (by omega)]; exact Or.inl rfl
      · rw [if_neg (fun z => hj z.1), if_neg (fun z => hj z.1)]
        rcases bpc_rel h2 i j with q | ⟨q, -⟩
        · exact Or.inl q
        · exact Or.inr q
  · unfold bp2
    rw [bg_bp]
    split
    · trivial
    · rw [bg_bp]
      split
      · exact hv
      · exact bpc_v h3 i j
theorem dsg_map (l : List dsU) : ∀ i, dsg (l.map er) i = er (bg l i) := by
  induction l with
  | nil => intro i; rfl
  | cons a r ih =>
    intro i
    cases i with
    | zero => rfl
    | succ i => exact ih i
theorem dsFl_map (as : List dsU) : dsFl (as.map er) = (bFl as).map er := by
  induction as with
  | nil => rfl
  | cons v r ih =>
    rcases v with x | x | ⟨t, x⟩ | n
    · show vI x :: dsFl (r.map er) = _; rw [ih]; rfl
    · show vJ x :: vX 0 :: dsFl (r.map er) = _; rw [ih]; rfl
    · show vR x :: dsFl (r.map er) = _; rw [ih]; rfl
    · show vX n :: dsFl (r.map er) = _; rw [ih]; rfl
theorem dsCs_map (st : List dsU) : dsCs (st.map er) = bCs st := by
  induction st with
  | nil => rfl
  | cons v r ih =>
    show dsC (er v) + dsCs (r.map er) = bC v + bCs r
    rw [ih]
    congr 1
    rcases v with x | x | ⟨t, x⟩ | n <;> rfl
theorem dsC_er (v : dsU) : dsC (er v) = bC v := by
  rcases v with x | x | ⟨t, x⟩ | n <;> rfl
theorem dsIn_map (m : Nat) (as : List dsU) : dsIn m (as.map er) = (bIn m as).map er := by
  unfold dsIn bIn
  rw [dsFl_map, List.map_append, List.length_map]
  congr 1
  rw [List.map_replicate]
  rfl
theorem bPop_map : ∀ (n : Nat) (st acc as rest : List dsU), bPop n st acc = some (as, rest) → dsPop n (st.map er) (acc.map er) = some (as.map er, rest.map er) := by
  intro n
  induction n with
  | zero => intro st acc as rest h; cases h; rfl
  | succ n ih =>
    intro st acc as rest h
    cases st with
    | nil => cases h
    | cons v st => exact ih st (v :: acc) as rest h
theorem bPop_v {G : Int → Nat} : ∀ (n : Nat) (st acc as rest : List dsU), bPop n st acc = some (as, rest) → Vs G st → Vs G acc → Vs G as ∧ Vs G rest := by
  intro n
  induction n with
  | zero => intro st acc as rest h h1 h2; cases h; exact ⟨h2, h1⟩
  | succ n ih =>
    intro st acc as rest h h1 h2
    cases st with
    | nil => cases h
    | cons v st => exact ih st (v :: acc) as rest h h1.2 ⟨h1.1, h2⟩
theorem bFl_v {G : Int → Nat} {as : List dsU} (h : Vs G as) (tl : List dsU) (ht : ∀ i, bg tl i = uX 0) : ∀ i, Vd G (bg (bFl as ++ tl) i) := by
  induction as with
  | nil => intro i; show Vd G (bg tl i); rw [ht i]; trivial
  | cons v r ih =>
    intro i
    rcases v with x | x | ⟨t, x⟩ | n
    · cases i with
      | zero => trivial
      | succ i => exact ih h.2 i
    · match i with
      | 0 => trivial
      | 1 => trivial
      | i + 2 => exact ih h.2 i
    · cases i with
      | zero => exact h.1
      | succ i => exact ih h.2 i
    · cases i with
      | zero => trivial
      | succ i => exact ih h.2 i
theorem bg_rep (n j : Nat) : bg (List.replicate n (uX 0)) j = uX 0 := by
  induction n generalizing j with
  | zero => rfl
  | succ n ih =>
    cases j with
    | zero => rfl
    | succ j => exact ih j
theorem bLr_in {G : Int → Nat} {t : Nat} {as : List dsU} (h : Vs G as) (hn : (bFl as).length ≤ dsMx t) : bLr G (dsMx t) (bIn t as) (dsIn t (as.map er)) := by
  refine ⟨by rw [dsIn_map]; unfold bIn; simp; omega, fun i => Or.inr (by rw [dsIn_map, dsg_map]), fun i => bFl_v h _ (bg_rep _) i⟩
/-- a number put where no reference lies -/
theorem Lay.set {G : Int → Nat} {M : dsMem} {a i x : Int} (h : Lay G M) (hi : 0 ≤ i) (ha : G a < 90) (hf : ∀ k : Nat, (k : Int) = i → bkF (G a) k = none) (h4 : bkC (G a) ≠ 104) (h5 : bkC (G a) ≠ 105) : Lay G (dsSet M a i x) := by
  refine ⟨fun b hb => ?_, fun b hb => ?_⟩
  · by_cases e : b = a
    · subst e
      obtain ⟨h1, h2, h3⟩ := h.1 b hb
      refine ⟨⟨by rw [dsSet_at, if_neg (by omega)]; exact h1.1, h1.2⟩, fun q => by rw [dsSet_at, if_neg (by omega)]; exact h2 q, fun k t ab o hk => ?_⟩
      rw [dsSet_at, if_neg (fun q => by rw [hf k q] at hk; cases hk)]
      exact h3 k t ab o hk
    · rw [dsSet_ne e]
      exact h.1 b hb
  · by_cases e : b = a
    · subst e
      exact ⟨fun q => absurd q h4, fun q => absurd q h5⟩
    · rw [dsSet_ne e]
      exact h.2 b hb
theorem Lay.cpy {G : Int → Nat} {M : dsMem} {a sp b dp n : Int} (h : Lay G M) (hd : 0 ≤ dp) (ha : G b < 90) (hf : ∀ k : Nat, bkF (G b) k = none) (h4 : bkC (G b) ≠ 104) (h5 : bkC (G b) ≠ 105) : Lay G (dsCpy M a sp b dp n) := by
  refine ⟨fun c hc => ?_, fun c hc => ?_⟩
  · by_cases e : c = b
    · subst e
      obtain ⟨h1, h2, h3⟩ := h.1 c hc
      refine ⟨⟨by rw [dsCpy_at, if_neg (by omega)]; exact h1.1, h1.2⟩, fun q => by rw [dsCpy_at, if_neg (by omega)]; exact h2 q, fun k t ab o hk => ?_⟩
      rw [hf k] at hk; cases hk
    · rw [dsCpy_ne e]
      exact h.1 c hc
  · by_cases e : c = b
    · subst e
      exact ⟨fun q => absurd q h4, fun q => absurd q h5⟩
    · rw [dsCpy_ne e]
      exact h.2 c hc
/-- rows hold no references by fields; a field of numbers is none -/
theorem bkF_row : ∀ t, t < 90 → 100 ≤ bkC t → ∀ k, bkF t k = none := by
  intro t ht h k
  have h1 : ∀ t, t < 90 → 100 ≤ bkC t → ∀ k, k < 60 → bkF t k = none := by decide +kernel
  have h2 : 12 ≤ t := by
    have h3 : ∀ t, t < 12 → ¬ 100 ≤ bkC t := by decide +kernel
    rcases Nat.lt_or_ge t 12 with q | q
    · exact absurd h (h3 t q)
    · exact q
  unfold bkF
  split <;> first | rfl | omega
def bNum (t : FieldType) : Bool := match t with
  | .int | .long | .boolean => true
  | _ => false
theorem bkF_num : ∀ t : Nat, t < 90 → ∀ c : Nat, c < 10 → bkC t = (c : Int) → ∀ k, k < dsN c → bNum (dsY c k) = true → bkF t k = none := by decide +kernel
theorem bkB_C : ∀ t, t < 90 → bkC (bkB t) = bkC t ∧ bkB t < 90 ∧ bkN (bkB t) = false ∧ (bkN t = false → bkB t = t) := by decide +kernel
theorem bNn_inv {G : Int → Nat} {t : Nat} {a : Int} {K : Prop} (h : bNn t a K) (hv : Vd G (uR t a)) : G a = bkB t ∧ t < 90 ∧ K := by
  obtain ⟨h1, h2⟩ := hv
  unfold bNn at h
  by_cases hn : bkN t = true
  · rw [if_pos hn] at h h2
    exact ⟨h2.resolve_left (by omega), h1, h.2⟩
  · rw [if_neg hn] at h h2
    exact ⟨by rw [((bkB_C t h1).2.2.2 (by simpa using hn))]; exact h2, h1, h⟩
theorem bRow {G : Int → Nat} {t : Nat} {a : Int} (hc : 100 ≤ bkC t) (hv : Vd G (uR t a)) : G a = t ∧ t < 90 := by
  obtain ⟨h1, h2⟩ := hv
  by_cases hn : bkN t = true
  · exfalso
    have : ∀ t, t < 90 → bkN t = true → ¬ 100 ≤ bkC t := by decide +kernel
    exact this t h1 hn hc
  · rw [if_neg hn] at h2
    exact ⟨h2, h1⟩
def bSim (G : Int → Nat) : bPT := fun m pc ls st M Q => ∀ la : List dsV, Lay G M → Vs G st → bLr G (dsMx m) ls la → dsA m pc la (st.map er) (0, 0) M (fun r M' => ∃ r', r = r'.map er ∧ Vs G r' ∧ Lay G M' ∧ Q r' M')
set_option maxHeartbeats 8000000 in
theorem bSim_clo (G : Int → Nat) : bClo (bSim G) := by
  refine ⟨fun m pc ls st M Q Q' hq h la h1 h2 h3 => ?_, fun m pc ls ls' st M Q hle h la h1 h2 h3 => ?_, fun m pc ls st M Q ins len hd hl h la hL hV hR => ?_, fun m pc ls st M Q h la hL hV hR => dsA_gr (fun g => h G hL g hR.2.2 la hL hV hR)⟩
  · exact dsA_mono (fun r M' ⟨r', a1, a2, a3, a4⟩ => ⟨r', a1, a2, a3, hq _ _ a4⟩) (h la h1 h2 h3)
  · refine h la h1 h2 ⟨h3.1, fun i => ?_, fun i => ?_⟩
    · rcases hle i with q | q
      · exact Or.inl q
      · rw [q]; exact h3.2.1 i
    · rcases hle i with q | q
      · rw [q]; trivial
      · rw [q]; exact h3.2.2 i
  · refine dsA_st hd hl ?_
    have go : ∀ {pc' : Nat} {st' : List dsU}, bSim G m pc' ls st' M Q → Vs G st' → dsA m pc' la (st'.map er) (0, 0) M (fun r M' => ∃ r', r = r'.map er ∧ Vs G r' ∧ Lay G M' ∧ Q r' M') := fun h v => h la hL v hR
    have gM : ∀ {pc' : Nat} {st' : List dsU} {M' : dsMem}, bSim G m pc' ls st' M' Q → Lay G M' → Vs G st' → dsA m pc' la (st'.map er) (0, 0) M' (fun r M' => ∃ r', r = r'.map er ∧ Vs G r' ∧ Lay G M' ∧ Q r' M') := fun h l v => h la l v hR
    have gC : ∀ {rest as : List dsU} {t : Nat}, bCa m pc ls rest M (bCallOf (bSim G)) (fun pc' ls' st' M' => bSim G m pc' ls' st' M' Q) t as → Vs G rest → Vs G as → dsCa m pc la (rest.map er) (0, 0) M (dsCallOf dsA) (fun pc' ls' st' u' M' => dsA m pc' ls' st' u' M' (fun r M' => ∃ r', r = r'.map er ∧ Vs G r' ∧ Lay G M' ∧ Q r' M')) t (as.map er) := by
      intro rest as t h hr ha
      unfold bCa at h
      unfold dsCa
      split at h
      · rename_i hst
        rw [if_pos (by rw [dsCs_map, dsFl_map, List.length_map]; exact ⟨hst.1, hst.2.1, hst.2.2.1⟩), hst.2.2.2.1, hst.2.2.2.2]
        refine ⟨⟨Nat.zero_le _, Nat.zero_le _⟩, ?_⟩
        refine dsA_mono ?_ (h (dsIn t (as.map er)) hL trivial (bLr_in ha hst.2.2.1))
        rintro r M' ⟨r', rfl, v', l', k'⟩
        have := k' la l' (Vs_app.mpr ⟨v', hr⟩) hR
        rw [List.map_append] at this
        exact this
      · exact h.elim
    cases ins with
    | iconst n =>
      simp only [bI] at h
      split at h
      · rename_i hn
        simp only [dsI]
        rw [if_pos hn]
        exact go h ⟨trivial, hV⟩
      · exact h.elim
    | bipush n =>
      simp only [bI] at h
      split at h
      · rename_i hn
        simp only [dsI]
        rw [if_pos hn]
        exact go h ⟨trivial, hV⟩
      · exact h.elim
    | sipush n =>
      simp only [bI] at h
      split at h
      · rename_i hn
        simp only [dsI]
        rw [if_pos hn]
        exact go h ⟨trivial, hV⟩
      · exact h.elim
    | lconst n =>
      exact go h ⟨trivial, hV⟩
    | iload i =>
      simp only [bI] at h
      split at h
      · rename_i x hi
        have ha := (hR.2.1 i).resolve_left (by rw [hi]; exact fun q => by cases q)
        rw [hi] at ha
        simp only [dsI, ha, er]
        exact go h ⟨trivial, hV⟩
      · exact h.elim
    | iload_n i =>
      simp only [bI] at h
      split at h
      · rename_i x hi
        have ha := (hR.2.1 (i : Nat)).resolve_left (by rw [hi]; exact fun q => by cases q)
        rw [hi] at ha
        simp only [dsI, ha, er]
        exact go h ⟨trivial, hV⟩
      · exact h.elim
    | lload i =>
      simp only [bI] at h
      split at h
      · rename_i x hi
        have ha := (hR.2.1 i).resolve_left (by rw [hi]; exact fun q => by cases q)
        rw [hi] at ha
        simp only [dsI, ha, er]
        exact go h ⟨trivial, hV⟩
      · exact h.elim
    | lload_n i =>
      simp only [bI] at h
      split at h
      · rename_i x hi
        have ha := (hR.2.1 (i : Nat)).resolve_left (by rw [hi]; exact fun q => by cases q)
        rw [hi] at ha
        simp only [dsI, ha, er]
        exact go h ⟨trivial, hV⟩
      · exact h.elim
    | aload i =>
      simp only [bI] at h
      split at h
      · rename_i t x hi
        have ha := (hR.2.1 i).resolve_left (by rw [hi]; exact fun q => by cases q)
        have hv := hR.2.2 i
        rw [hi] at ha hv
        simp only [dsI, ha, er]
        exact go h ⟨hv, hV⟩
      · rename_i n hi
        have ha := (hR.2.1 i).resolve_left (by rw [hi]; exact fun q => by cases q)
        rw [hi] at ha
        simp only [dsI, ha, er]
        exact go h ⟨trivial, hV⟩
      · exact h.elim
    | aload_n i =>
      simp only [bI] at h
      split at h
      · rename_i t x hi
        have ha := (hR.2.1 (i : Nat)).resolve_left (by rw [hi]; exact fun q => by cases q)
        have hv := hR.2.2 (i : Nat)
        rw [hi] at ha hv
        simp only [dsI, ha, er]
        exact go h ⟨hv, hV⟩
      · rename_i n hi
        have ha := (hR.2.1 (i : Nat)).resolve_left (by rw [hi]; exact fun q => by cases q)
        rw [hi] at ha
        simp only [dsI, ha, er]
        exact go h ⟨trivial, hV⟩
      · exact h.elim
    | istore i =>
      simp only [bI] at h
      split at h
      · rename_i x r
        split at h
        · rename_i hi
          simp only [List.map_cons, er, dsI]
          rw [if_pos hi]
          exact h _ hL hV.2 (hR.st1 (v := uI x) hi trivial)
        · exact h.elim
      · exact h.elim
    | istore_n i =>
      simp only [bI] at h
      split at h
      · rename_i x r
        split at h
        · rename_i hi
          simp only [List.map_cons, er, dsI]
          rw [if_pos hi]
          exact h _ hL hV.2 (hR.st1 (v := uI x) hi trivial)
        · exact h.elim
      · exact h.elim
    | lstore i =>
      simp only [bI] at h
      split at h
      · rename_i x r
        split at h
        · rename_i hi
          simp only [List.map_cons, er, dsI]
          rw [if_pos hi]
          exact h _ hL hV.2 (hR.st2 (v := uJ x) hi trivial)
        · exact h.elim
      · exact h.elim
    | lstore_n i =>
      simp only [bI] at h
      split at h
      · rename_i x r
        split at h
        · rename_i hi
          simp only [List.map_cons, er, dsI]
          rw [if_pos hi]
          exact h _ hL hV.2 (hR.st2 (v := uJ x) hi trivial)
        · exact h.elim
      · exact h.elim
    | astore i =>
      simp only [bI] at h
      split at h
      · rename_i t x r
        split at h
        · rename_i hi
          simp only [List.map_cons, er, dsI]
          rw [if_pos hi]
          exact h _ hL hV.2 (hR.st1 (v := uR t x) hi hV.1)
        · exact h.elim
      · exact h.elim
    | astore_n i =>
      simp only [bI] at h
      split at h
      · rename_i t x r
        split at h
        · rename_i hi
          simp only [List.map_cons, er, dsI]
          rw [if_pos hi]
          exact h _ hL hV.2 (hR.st1 (v := uR t x) hi hV.1)
        · exact h.elim
      · exact h.elim
    | iinc i n =>
      simp only [bI] at h
      split at h
      · rename_i x hi
        split at h
        · rename_i hin
          have ha := (hR.2.1 i).resolve_left (by rw [hi]; exact fun q => by cases q)
          rw [hi] at ha
          simp only [dsI, ha, er]
          rw [if_pos hin]
          exact h _ hL hV (hR.st1 (v := uI (dsw (x + n))) hin trivial)
        · exact h.elim
      · exact h.elim
    | iadd =>
      simp only [bI] at h
      split at h
      · exact go h ⟨trivial, hV.2.2⟩
      · exact h.elim
    | isub =>
      simp only [bI] at h
      split at h
      · exact go h ⟨trivial, hV.2.2⟩
      · exact h.elim
    | imul =>
      simp only [bI] at h
      split at h
      · exact go h ⟨trivial, hV.2.2⟩
      · exact h.elim
    | iand =>
      simp only [bI] at h
      split at h
      · exact go h ⟨trivial, hV.2.2⟩
      · exact h.elim
    | ior =>
      simp only [bI] at h
      split at h
      · exact go h ⟨trivial, hV.2.2⟩
      · exact h.elim
    | ixor =>
      simp only [bI] at h
      split at h
      · exact go h ⟨trivial, hV.2.2⟩
      · exact h.elim
    | ishl =>
      simp only [bI] at h
      split at h
      · exact go h ⟨trivial, hV.2.2⟩
      · exact h.elim
    | ishr =>
      simp only [bI] at h
      split at h
      · exact go h ⟨trivial, hV.2.2⟩
      · exact h.elim
    | iushr =>
      simp only [bI] at h
      split at h
      · exact go h ⟨trivial, hV.2.2⟩
      · exact h.elim
    | ladd =>
      simp only [bI] at h
      split at h
      · exact go h ⟨trivial, hV.2.2⟩
      · exact h.elim
    | lmul =>
      simp only [bI] at h
      split at h
      · exact go h ⟨trivial, hV.2.2⟩
      · exact h.elim
    | land =>
      simp only [bI] at h
      split at h
      · exact go h ⟨trivial, hV.2.2⟩
      · exact h.elim
    | lor =>
      simp only [bI] at h
      split at h
      · exact go h ⟨trivial, hV.2.2⟩
      · exact h.elim
    | lshl =>
      simp only [bI] at h
      split at h
      · exact go h ⟨trivial, hV.2.2⟩
      · exact h.elim
    | lshr =>
      simp only [bI] at h
      split at h
      · exact go h ⟨trivial, hV.2.2⟩
      · exact h.elim
    | lcmp =>
      simp only [bI] at h
      split at h
      · exact go h ⟨trivial, hV.2.2⟩
      · exact h.elim
    | idiv =>
      simp only [bI] at h
      split at h
      · exact ⟨h.1, go h.2 ⟨trivial, hV.2.2⟩⟩
      · exact h.elim
    | irem =>
      simp only [bI] at h
      split at h
      · exact ⟨h.1, go h.2 ⟨trivial, hV.2.2⟩⟩
      · exact h.elim
    | ldiv =>
      simp only [bI] at h
      split at h
      · exact ⟨h.1, go h.2 ⟨trivial, hV.2.2⟩⟩
      · exact h.elim
    | lrem =>
      simp only [bI] at h
      split at h
      · exact ⟨h.1, go h.2 ⟨trivial, hV.2.2⟩⟩
      · exact h.elim
    | i2l =>
      simp only [bI] at h
      split at h
      · exact go h ⟨trivial, hV.2⟩
      · exact h.elim
    | l2i =>
      simp only [bI] at h
      split at h
      · exact go h ⟨trivial, hV.2⟩
      · exact h.elim
    | i2b =>
      simp only [bI] at h
      split at h
      · exact go h ⟨trivial, hV.2⟩
      · exact h.elim
    | dup =>
      simp only [bI] at h
      split at h
      · rename_i v r
        split at h
        · rename_i hc
          simp only [List.map_cons, dsI]
          rw [if_pos (by rw [dsC_er]; exact hc)]
          exact go h ⟨hV.1, hV.1, hV.2⟩
        · exact h.elim
      · exact h.elim
    | pop =>
      simp only [bI] at h
      split at h
      · rename_i v r
        split at h
        · rename_i hc
          simp only [List.map_cons, dsI]
          rw [if_pos (by rw [dsC_er]; exact hc)]
          exact go h hV.2
        · exact h.elim
      · exact h.elim
    | dup2 =>
      simp only [bI] at h
      split at h
      · exact go h ⟨hV.1, hV.1, hV.2⟩
      · rename_i v w r hnl
        split at h
        · rename_i hc
          have k := go h ⟨hV.1, hV.2.1, hV.1, hV.2.1, hV.2.2⟩
          have key : ∀ w0 : dsV, (∀ x, w0 ≠ vJ x) → dsC w0 = 1 → dsA m (pc + 1) la (w0 :: er w :: w0 :: er w :: r.map er) (0, 0) M (fun r M' => ∃ r', r = r'.map er ∧ Vs G r' ∧ Lay G M' ∧ Q r' M') → dsI m pc .dup2 la (w0 :: er w :: r.map er) (0, 0) M (dsCallOf dsA) (fun pc' ls' st' u' M' => dsA m pc' ls' st' u' M' (fun r M' => ∃ r', r = r'.map er ∧ Vs G r' ∧ Lay G M' ∧ Q r' M')) (fun r M' => ∃ r', r = r'.map er ∧ Vs G r' ∧ Lay G M' ∧ Q r' M') := by
            intro w0 hw0 hc0 kk
            rcases w0 with x | x | x | n
            · simp only [dsI]
              rw [if_pos ⟨hc0, by rw [dsC_er]; exact hc.2⟩]
              exact kk
            · exact absurd rfl (hw0 x)
            · simp only [dsI]
              rw [if_pos ⟨hc0, by rw [dsC_er]; exact hc.2⟩]
              exact kk
            · simp only [dsI]
              rw [if_pos ⟨hc0, by rw [dsC_er]; exact hc.2⟩]
              exact kk
          refine key (er v) (fun x q => ?_) (by rw [dsC_er]; exact hc.1) k
          rcases v with x | x | ⟨t, x⟩ | n
          · cases q
          · exact hnl x rfl
          · cases q
          · cases q
        · exact h.elim
      · exact h.elim
    | ifCond c off =>
      simp only [bI] at h
      split at h
      · simp only [List.map_cons, er, dsI]
        exact dsTg_mono (fun t h => ⟨fun q => go (h.1 q) hV.2, fun q => go (h.2 q) hV.2⟩) h
      · exact h.elim
    | if_icmp c off =>
      simp only [bI] at h
      split at h
      · simp only [List.map_cons, er, dsI]
        exact dsTg_mono (fun t h => ⟨fun q => go (h.1 q) hV.2.2, fun q => go (h.2 q) hV.2.2⟩) h
      · exact h.elim
    | ifnull off =>
      simp only [bI] at h
      split at h
      · refine ⟨fun q => dsTg_mono (fun t h => go (h.1 q) hV.2) h, fun q => ?_⟩
        unfold dsTg at h
        split at h
        · exact go (h.2 q) hV.2
        · exact h.elim
      · exact h.elim
    | ifnonnull off =>
      simp only [bI] at h
      split at h
      · refine ⟨fun q => dsTg_mono (fun t h => go (h.1 q) hV.2) h, fun q => ?_⟩
        unfold dsTg at h
        split at h
        · exact go (h.2 q) hV.2
        · exact h.elim
      · exact h.elim
    | goto off =>
      exact dsTg_mono (fun t h => go h hV) h
    | tableswitch d lo hi offs =>
      simp only [bI] at h
      split at h
      · simp only [List.map_cons, er, dsI]
        refine ⟨fun q => dsTg_mono (fun t h => go h hV.2) (h.1 q), fun q => ?_⟩
        have h2 := h.2 q
        split at h2
        · rename_i off ho
          simp only [ho]
          exact dsTg_mono (fun t h => go h hV.2) h2
        · exact h2.elim
      · exact h.elim
    | getfield i =>
      simp only [bI] at h
      split at h
      · rename_i c k z hk
        split at h
        · rename_i t a r
          split at h
          · rename_i hc
            obtain ⟨hg, ht, h⟩ := bNn_inv h hV.1
            have hb := bkB_C t ht
            obtain ⟨⟨l1, l2⟩, l3, l4⟩ := hL.1 a (by rw [hg]; exact hb.2.1)
            rw [hg, hb.1, hc] at l1
            simp only [List.map_cons, er, dsI, hk]
            refine ⟨l1, ?_⟩
            have hF := dsOkF_ok _ _ (dsLk_in hk)
            split at h
            · rename_i t2 ab o hf
              obtain ⟨l5, l6, l7⟩ := l4 k t2 ab o (by rw [hg]; exact hf)
              have hrf : dsMk (dsY c k) (M a k) = vR (if ab = true then o else a + o) := by
                rw [l5]
                have hn : bNum (dsY c k) = false := by
                  cases hq : bNum (dsY c k) with
                  | false => rfl
                  | true =>
                    have := bkF_num (bkB t) hb.2.1 c hF.1.1 (by rw [hb.1]; exact hc) k hF.1.2 hq
                    rw [this] at hf; cases hf
                have htk := dsTk_ok c hF.1.1 k hF.1.2
                revert hn htk
                cases dsY c k <;> intro hn htk <;> first | rfl | (cases htk; done) | (cases hn; done)
              rw [hrf]
              refine go (st' := uR t2 (if ab = true then o else a + o) :: r) h ⟨⟨l7, ?_⟩, hV.2⟩
              rw [if_neg (by rw [← l6, (hL.1 _ (by rw [l6]; exact l7)).1.2]; decide)]
              exact l6
            · have e : bMk (dsY c k) (M a k) (fun v => bSim G m (pc + 3) ls (v :: r) M Q) → dsA m (pc + 3) la (dsMk (dsY c k) (M a k) :: r.map er) (0, 0) M (fun r M' => ∃ r', r = r'.map er ∧ Vs G r' ∧ Lay G M' ∧ Q r' M') := by
                unfold bMk dsMk
                cases dsY c k <;> intro hh <;> first | exact hh.elim | exact go hh ⟨trivial, hV.2⟩
              exact e h
          · exact h.elim
        · exact h.elim
      · exact h.elim
    | putfield i =>
      simp only [bI] at h
      split at h
      · rename_i c k z hk
        split at h
        · rename_i v t a r
          split at h
          · rename_i hc
            obtain ⟨hg, ht, h⟩ := bNn_inv h hV.2.1
            have hb := bkB_C t ht
            obtain ⟨⟨l1, l2⟩, l3, l4⟩ := hL.1 a (by rw [hg]; exact hb.2.1)
            rw [hg, hb.1, hc.1] at l1
            have hF := dsOkF_ok _ _ (dsLk_in hk)
            have hCn : bkC (G a) = (c : Int) := by rw [hg, hb.1]; exact hc.1
            have hc10 : (c : Int) < 10 := by have := hF.1.1; simp only at this; omega
            have lay : bNum (dsY c k) = true → ∀ x, Lay G (dsSet M a k x) := fun hq x => hL.set (by omega) (by rw [hg]; exact hb.2.1) (fun k' hk' => by
              have : k' = k := by omega
              subst this
              rw [hg]
              exact bkF_num (bkB t) hb.2.1 c hF.1.1 (by rw [hb.1]; exact hc.1) k' hF.1.2 hq) (by rw [hCn]; omega) (by rw [hCn]; omega)
            have fin : dsPv (dsY c k) (er v) (fun x => dsA m (pc + 3) la (r.map er) (0, 0) (dsSet M a k x) (fun r M' => ∃ r', r = r'.map er ∧ Vs G r' ∧ Lay G M' ∧ Q r' M')) := by
              revert h lay
              unfold bPv dsPv
              cases dsY c k <;> intro h lay <;> first | exact h.elim | (rcases v with x | x | ⟨t', x⟩ | n <;> first | exact h.elim | exact ⟨h.1, gM h.2 (lay rfl _) hV.2.2⟩ | exact gM h (lay rfl _) hV.2.2)
            have goal : dsI m pc (.putfield i) la (er v :: vR a :: r.map er) (0, 0) M (dsCallOf dsA) (fun pc' ls' st' u' M' => dsA m pc' ls' st' u' M' (fun r M' => ∃ r', r = r'.map er ∧ Vs G r' ∧ Lay G M' ∧ Q r' M')) (fun r M' => ∃ r', r = r'.map er ∧ Vs G r' ∧ Lay G M' ∧ Q r' M') := by
              simp only [dsI, hk]
              rw [if_pos (Or.inl hc.2)]
              exact ⟨l1, fin⟩
            exact goal
          · exact h.elim
        · exact h.elim
      · exact h.elim
    | iaload =>
      simp only [bI] at h
      split at h
      · rename_i i t a r
        split at h
        · rename_i hc
          obtain ⟨hg, ht⟩ := bRow (t := t) (a := a) (by omega) hV.2.1
          obtain ⟨⟨l1, l2⟩, l3, l4⟩ := hL.1 a (by rw [hg]; exact ht)
          rw [hg] at l1 l3
          have l3 := l3 (by omega)
          simp only [List.map_cons, er, dsI]
          refine ⟨⟨by rw [l1]; exact hc, h.1.1, by rw [l3]; exact h.1.2⟩, go h.2 ⟨trivial, hV.2.2⟩⟩
        · exact h.elim
      · exact h.elim
    | baload =>
      simp only [bI] at h
      split at h
      · rename_i i t a r
        split at h
        · rename_i hc
          obtain ⟨hg, ht⟩ := bRow (t := t) (a := a) (by omega) hV.2.1
          obtain ⟨⟨l1, l2⟩, l3, l4⟩ := hL.1 a (by rw [hg]; exact ht)
          rw [hg] at l1 l3
          have l3 := l3 (by omega)
          simp only [List.map_cons, er, dsI]
          refine ⟨⟨by rw [l1]; exact hc, h.1.1, by rw [l3]; exact h.1.2⟩, go h.2 ⟨trivial, hV.2.2⟩⟩
        · exact h.elim
      · exact h.elim
    | laload =>
      simp only [bI] at h
      split at h
      · rename_i i t a r
        split at h
        · rename_i hc
          obtain ⟨hg, ht⟩ := bRow (t := t) (a := a) (by omega) hV.2.1
          obtain ⟨⟨l1, l2⟩, l3, l4⟩ := hL.1 a (by rw [hg]; exact ht)
          rw [hg] at l1 l3
          have l3 := l3 (by omega)
          simp only [List.map_cons, er, dsI]
          refine ⟨⟨by rw [l1]; exact hc, h.1.1, by rw [l3]; exact h.1.2⟩, go h.2 ⟨trivial, hV.2.2⟩⟩
        · exact h.elim
      · exact h.elim
    | aaload =>
      simp only [bI] at h
      split at h
      · rename_i i t a r
        have key : ∀ (cc : Int) (tn : Nat), (cc = 104 ∧ tn = 12 ∨ cc = 105 ∧ tn = 13) → bkC t = cc → (0 ≤ i ∧ i < bkL t) ∧ bSim G m (pc + 1) ls (uR tn (M a i) :: r) M Q → dsI m pc .aaload la (vI i :: vR a :: r.map er) (0, 0) M (dsCallOf dsA) (fun pc' ls' st' u' M' => dsA m pc' ls' st' u' M' (fun r M' => ∃ r', r = r'.map er ∧ Vs G r' ∧ Lay G M' ∧ Q r' M')) (fun r M' => ∃ r', r = r'.map er ∧ Vs G r' ∧ Lay G M' ∧ Q r' M') := by
          intro cc tn hcc hc h
          obtain ⟨hg, ht⟩ := bRow (t := t) (a := a) (by omega) hV.2.1
          obtain ⟨⟨l1, l2⟩, l3, l4⟩ := hL.1 a (by rw [hg]; exact ht)
          obtain ⟨m4, m5⟩ := hL.2 a (by rw [hg]; exact ht)
          rw [hg] at l1 l3 m4 m5
          have l3 := l3 (by omega)
          simp only [dsI]
          refine ⟨⟨by omega, h.1.1, by rw [l3]; exact h.1.2⟩, ?_⟩
          refine go (st' := uR tn (M a i) :: r) h.2 ⟨?_, hV.2.2⟩
          rcases hcc with ⟨q1, q2⟩ | ⟨q1, q2⟩
          · subst q2
            exact ⟨by decide, by rw [if_pos (by decide)]; exact m4 (by omega) i h.1.1 h.1.2⟩
          · subst q2
            exact ⟨by decide, by rw [if_pos (by decide)]; exact m5 (by omega) i h.1.1 h.1.2⟩
        split at h
        · exact key 104 12 (Or.inl ⟨rfl, rfl⟩) ‹_› h
        · split at h
          · exact key 105 13 (Or.inr ⟨rfl, rfl⟩) ‹_› h
          · exact h.elim
      · exact h.elim
    | iastore =>
      simp only [bI] at h
      split at h
      · rename_i x i t a r
        split at h
        · rename_i hc
          obtain ⟨hg, ht⟩ := bRow (t := t) (a := a) (by omega) hV.2.2.1
          obtain ⟨⟨l1, l2⟩, l3, l4⟩ := hL.1 a (by rw [hg]; exact ht)
          rw [hg] at l1 l3
          have l3 := l3 (by omega)
          simp only [List.map_cons, er, dsI]
          exact ⟨⟨by rw [l1]; exact hc, h.1.1, by rw [l3]; exact h.1.2⟩, gM h.2 (hL.set h.1.1 (by rw [hg]; exact ht) (fun k _ => by rw [hg]; exact bkF_row t ht (by omega) k) (by rw [hg]; omega) (by rw [hg]; omega)) hV.2.2.2⟩
        · exact h.elim
      · exact h.elim
    | lastore =>
      simp only [bI] at h
      split at h
      · rename_i x i t a r
        split at h
        · rename_i hc
          obtain ⟨hg, ht⟩ := bRow (t := t) (a := a) (by omega) hV.2.2.1
          obtain ⟨⟨l1, l2⟩, l3, l4⟩ := hL.1 a (by rw [hg]; exact ht)
          rw [hg] at l1 l3
          have l3 := l3 (by omega)
          simp only [List.map_cons, er, dsI]
          exact ⟨⟨by rw [l1]; exact hc, h.1.1, by rw [l3]; exact h.1.2⟩, gM h.2 (hL.set h.1.1 (by rw [hg]; exact ht) (fun k _ => by rw [hg]; exact bkF_row t ht (by omega) k) (by rw [hg]; omega) (by rw [hg]; omega)) hV.2.2.2⟩
        · exact h.elim
      · exact h.elim
    | bastore =>
      simp only [bI] at h
      split at h
      · rename_i x i t a r
        by_cases hc : bkC t = 101
        · rw [if_pos hc] at h
          obtain ⟨hg, ht⟩ := bRow (t := t) (a := a) (by omega) hV.2.2.1
          obtain ⟨⟨l1, l2⟩, l3, l4⟩ := hL.1 a (by rw [hg]; exact ht)
          rw [hg] at l1 l3
          have l3 := l3 (by omega)
          simp only [List.map_cons, er, dsI]
          exact ⟨⟨Or.inl ⟨by rw [l1]; exact hc, h.1.1⟩, h.1.2.1, by rw [l3]; exact h.1.2.2⟩, gM h.2 (hL.set h.1.2.1 (by rw [hg]; exact ht) (fun k _ => by rw [hg]; exact bkF_row t ht (by omega) k) (by rw [hg]; omega) (by rw [hg]; omega)) hV.2.2.2⟩
        · rw [if_neg hc] at h
          split at h
          · rename_i hc2
            obtain ⟨hg, ht⟩ := bRow (t := t) (a := a) (by omega) hV.2.2.1
            obtain ⟨⟨l1, l2⟩, l3, l4⟩ := hL.1 a (by rw [hg]; exact ht)
            rw [hg] at l1 l3
            have l3 := l3 (by omega)
            simp only [List.map_cons, er, dsI]
            exact ⟨⟨Or.inr ⟨by rw [l1]; exact hc2, h.1.1⟩, h.1.2.1, by rw [l3]; exact h.1.2.2⟩, gM h.2 (hL.set h.1.2.1 (by rw [hg]; exact ht) (fun k _ => by rw [hg]; exact bkF_row t ht (by omega) k) (by rw [hg]; omega) (by rw [hg]; omega)) hV.2.2.2⟩
          · exact h.elim
      · exact h.elim
    | arraylength =>
      simp only [bI] at h
      split at h
      · rename_i t a r
        split at h
        · rename_i hc
          obtain ⟨hg, ht⟩ := bRow (t := t) (a := a) (by omega) hV.1
          obtain ⟨⟨l1, l2⟩, l3, l4⟩ := hL.1 a (by rw [hg]; exact ht)
          rw [hg] at l1 l3
          have l3 := l3 (by omega)
          simp only [List.map_cons, er, dsI]
          rw [l3]
          exact ⟨by rw [l1]; exact hc, go h ⟨trivial, hV.2⟩⟩
        · exact h.elim
      · exact h.elim
    | ldc i =>
      simp only [bI] at h
      simp only [dsI]
      split at h
      · rename_i v z hk
        simp only [hk]
        exact go h ⟨trivial, hV⟩
      · rename_i hk
        split at h
        · rename_i k z hk2
          simp only [hk, hk2]
          exact go h ⟨trivial, hV⟩
        · exact h.elim
    | ldc_w i =>
      simp only [bI] at h
      simp only [dsI]
      split at h
      · rename_i v z hk
        simp only [hk]
        exact go h ⟨trivial, hV⟩
      · exact h.elim
    | ldc2_w i =>
      simp only [bI] at h
      simp only [dsI]
      split at h
      · rename_i v z hk
        simp only [hk]
        exact go h ⟨trivial, hV⟩
      · exact h.elim
    | invokevirtual i =>
      simp only [bI] at h
      simp only [dsI]
      split at h
      · rename_i t z hk
        simp only [hk]
        split at h
        · rename_i tk a as rest hpop
          split at h
          · rename_i hc
            have hpm := bPop_map _ _ _ _ _ hpop
            obtain ⟨v1, v2⟩ := bPop_v (G := G) _ _ _ _ _ hpop hV trivial
            obtain ⟨hg, ht, h⟩ := bNn_inv h v1.1
            have hb := bkB_C tk ht
            obtain ⟨⟨l1, l2⟩, l3, l4⟩ := hL.1 a (by rw [hg]; exact hb.2.1)
            rw [hg, hb.1, hc] at l1
            simp only [List.map_nil, List.map_cons] at hpm
            rw [hpm]
            exact ⟨l1, gC (as := uR (bkB tk) a :: as) h v2 ⟨⟨hb.2.1, by rw [if_neg (by rw [hb.2.2.1]; decide)]; exact hg⟩, v1.2⟩⟩
          · exact h.elim
        · exact h.elim
      · rename_i z1 z2 hk
        simp only [hk]
        split at h
        · split at h
          · rename_i hst
            simp only [List.map_cons, er]
            rw [if_pos ⟨hst.1, by rw [dsCs_map]; exact hst.2⟩]
            exact ⟨h.1, go h.2 ⟨trivial, hV.2⟩⟩
          · exact h.elim
        · exact h.elim
      · rename_i z1 z2 hk
        simp only [hk]
        split at h
        · split at h
          · rename_i hst
            simp only [List.map_cons, er]
            rw [if_pos ⟨hst.1, by rw [dsCs_map]; exact hst.2⟩]
            exact ⟨h.1, go h.2 ⟨trivial, hV.2.2⟩⟩
          · exact h.elim
        · exact h.elim
      · exact h.elim
    | invokestatic i =>
      simp only [bI] at h
      simp only [dsI]
      split at h
      · rename_i t z hk
        simp only [hk]
        split at h
        · rename_i as rest hpop
          have hpm := bPop_map _ _ _ _ _ hpop
          obtain ⟨v1, v2⟩ := bPop_v (G := G) _ _ _ _ _ hpop hV trivial
          simp only [List.map_nil] at hpm
          rw [hpm]
          exact gC h v2 v1
        · exact h.elim
      · rename_i t z hk
        simp only [hk]
        split at h
        · rename_i as rest hpop
          have hpm := bPop_map _ _ _ _ _ hpop
          obtain ⟨v1, v2⟩ := bPop_v (G := G) _ _ _ _ _ hpop hV trivial
          simp only [List.map_nil] at hpm
          rw [hpm]
          exact gC h v2 v1
        · exact h.elim
      · rename_i z1 z2 hk
        simp only [hk]
        split at h
        · split at h
          · rename_i hst
            simp only [List.map_cons, er]
            rw [if_pos ⟨hst.1, by rw [dsCs_map]; exact hst.2⟩]
            exact go h ⟨trivial, hV.2.2⟩
          · exact h.elim
        · exact h.elim
      · rename_i z1 z2 hk
        simp only [hk]
        split at h
        · split at h
          · rename_i hst
            simp only [List.map_cons, er]
            rw [if_pos ⟨hst.1, by rw [dsCs_map]; exact hst.2⟩]
            exact go h ⟨trivial, hV.2.2⟩
          · exact h.elim
        · exact h.elim
      · rename_i z1 z2 hk
        simp only [hk]
        split at h
        · split at h
          · rename_i hst
            simp only [List.map_cons, er]
            rw [if_pos ⟨hst.1, by rw [dsCs_map]; exact hst.2⟩]
            exact go h ⟨trivial, hV.2⟩
          · exact h.elim
        · exact h.elim
      · rename_i z1 z2 hk
        simp only [hk]
        split at h
        · rename_i n dp tb b sp ta a r
          split at h
          · rename_i hst
            obtain ⟨⟨hs1, hs2⟩, hs3⟩ := hst
            simp only [List.map_cons, er]
            rw [if_pos ⟨hs1, by rw [dsCs_map]; exact hs2⟩]
            obtain ⟨hga, hta⟩ := bRow (t := ta) (a := a) (by omega) hV.2.2.2.2.1
            obtain ⟨hgb, htb⟩ := bRow (t := tb) (a := b) (by omega) hV.2.2.1
            obtain ⟨⟨l1, -⟩, l3, -⟩ := hL.1 a (by rw [hga]; exact hta)
            obtain ⟨⟨k1, -⟩, k3, -⟩ := hL.1 b (by rw [hgb]; exact htb)
            rw [hga] at l1 l3
            rw [hgb] at k1 k3
            have l3 := l3 (by omega)
            have k3 := k3 (by omega)
            exact ⟨⟨by omega, h.1.1, h.1.2.1, h.1.2.2.1, by rw [l3]; exact h.1.2.2.2.1, by rw [k3]; exact h.1.2.2.2.2⟩, gM h.2 (hL.cpy h.1.2.2.1 (by rw [hgb]; exact htb) (fun k => by rw [hgb]; exact bkF_row tb htb (by omega) k) (by rw [hgb]; omega) (by rw [hgb]; omega)) hV.2.2.2.2.2⟩
          · exact h.elim
        · exact h.elim
      · exact h.elim
    | ireturn =>
      simp only [bI] at h
      split at h
      · rename_i x
        simp only [List.map_cons, List.map_nil, er, dsI]
        split at h
        · rename_i hq
          simp only [hq]
          exact ⟨[uI x], rfl, ⟨trivial, trivial⟩, hL, h⟩
        · rename_i hq
          simp only [hq]
          exact ⟨h.1, [uI x], rfl, ⟨trivial, trivial⟩, hL, h.2⟩
        · exact h.elim
      · exact h.elim
    | lreturn =>
      simp only [bI] at h
      split at h
      · rename_i x
        simp only [List.map_cons, List.map_nil, er, dsI]
        split at h
        · rename_i hq
          simp only [hq]
          exact ⟨[uJ x], rfl, ⟨trivial, trivial⟩, hL, h⟩
        · exact h.elim
      · exact h.elim
    | areturn =>
      simp only [bI] at h
      split at h
      · rename_i t x
        simp only [List.map_cons, List.map_nil, er, dsI]
        split at h
        · rename_i hq
          simp only [hq]
          exact ⟨[uR t x], rfl, ⟨hV.1, trivial⟩, hL, h⟩
        · exact h.elim
      · exact h.elim
    | return_ =>
      simp only [bI] at h
      split at h
      · simp only [List.map_nil, dsI]
        split at h
        · rename_i hq
          simp only [hq]
          exact ⟨[], rfl, trivial, hL, h⟩
        · exact h.elim
      · exact h.elim
    | _ => simp only [bI] at h
/-- machine B's words are machine A's -/
theorem bB_sound {G : Int → Nat} {m : Nat} {as : List dsU} {M : dsMem} {Q : bQT} (hL : Lay G M) (hV : Vs G as) (hn : (bFl as).length ≤ dsMx m) (h : bB m 0 (bIn m as) [] M Q) :
    dsA m 0 (dsIn m (as.map er)) [] (0, 0) M (fun r M' => ∃ r', r = r'.map er ∧ Vs G r' ∧ Lay G M' ∧ Q r' M') :=
  h _ (bSim_clo G) _ hL trivial (bLr_in hV hn)
