/-! both sides, each at its own state; cells that come -/
theorem CI_e2 {M M' : dsMem} {W : dsW} (h : CI M W) (e : ∀ a j, 0 ≤ a → a ≤ 83 → a ≠ 45 → a ≠ 46 → M' a j = M a j) : CI M' W := by
  obtain ⟨a, b, c, d, f, g⟩ := h
  refine ⟨a, C24_e b (fun a j q1 q2 => e a j (by omega) (by omega) (by omega) (by omega)), Dfl_e c (fun j => e _ _ (by omega) (by omega) (by omega) (by omega)), ?_, ?_, ?_⟩
  · rw [e 0 10 (by omega) (by omega) (by omega) (by omega)]
    rcases d with d | d
    · exact Or.inl d
    · exact Or.inr ⟨d.1, FR_e (P0_ok a) d.2 (fun a j q1 q2 => e a j (by omega) (by omega) (by omega) (by omega))⟩
  · rw [e 0 11 (by omega) (by omega) (by omega) (by omega)]
    simp only [e 83 _ (by omega) (by omega) (by omega) (by omega)]; exact f
  · rw [e 81 0 (by omega) (by omega) (by omega) (by omega), e 81 1 (by omega) (by omega) (by omega) (by omega), e 81 2 (by omega) (by omega) (by omega) (by omega)]
    simp only [e 82 _ (by omega) (by omega) (by omega) (by omega)]; exact g
theorem CI_e3 {M M' : dsMem} {W : dsW} (h : CI M W) (e : ∀ a j, (0 ≤ a ∧ a ≤ 83) → a ≠ 1 → a ≠ 2 → M' a j = M a j) : CI M' W := by
  obtain ⟨a, b, c, d, f, g⟩ := h
  refine ⟨a, C24_e b (fun a j q1 q2 => e a j (by omega) (by omega) (by omega)), Dfl_e c (fun j => e _ _ (by omega) (by omega) (by omega)), ?_, ?_, ?_⟩
  · rw [e 0 10 (by omega) (by omega) (by omega)]
    rcases d with d | d
    · exact Or.inl d
    · exact Or.inr ⟨d.1, FR_e (P0_ok a) d.2 (fun a j q1 q2 => e a j (by omega) (by omega) (by omega))⟩
  · rw [e 0 11 (by omega) (by omega) (by omega)]
    simp only [e 83 _ (by omega) (by omega) (by omega)]; exact f
  · rw [e 81 0 (by omega) (by omega) (by omega), e 81 1 (by omega) (by omega) (by omega), e 81 2 (by omega) (by omega) (by omega)]
    simp only [e 82 _ (by omega) (by omega) (by omega)]; exact g
def zCS (M : dsMem) (s : gST) : Prop := CI M (gW s) ∧ CSl M (gS s) ∧ CIm M (gS s) (gI s) ∧ CTt M (gNn s) (gB s) (gFl s) (gPl s)
def zRS (M : dsMem) (s : gST) : Prop := RI0 M (gW s) ∧ RSl M (gS s) ∧ RIm M (gI s) ∧ RTt M (gNn s) (gB s) (gFl s) (gPl s)
def zAL (G : Int → Nat) (M : dsMem) (S : slT) (I : imT) : Prop := AL G M S I ∧ ∀ a : Int, a < 0 → G a = 99
theorem zAL_e {G : Int → Nat} {M M' : dsMem} {S : slT} {I : imT} (h : zAL G M S I) (e : ∀ a j, a = -1 ∨ a = 45 ∨ a = 46 → M' a j = M a j) : zAL G M' S I := ⟨AL_e h.1 e, h.2⟩
def JN (G : Int → Nat) (M : dsMem) (F : Int → Int) (s r : gST) : Prop := Lay G M ∧ zAL G M (gS s) (gI s) ∧ zCS M s ∧ zRS M r ∧ ∀ j, M (-2) j = F j
theorem JN_c {G G' : Int → Nat} {M M' : dsMem} {F : Int → Int} {s s' r : gST} (h : JN G M F s r) (hL : Lay G' M') (hA : zAL G' M' (gS s') (gI s')) (hC : zCS M' s') (e : ∀ a j, a = -2 ∨ (84 ≤ a ∧ a ≤ 114) → M' a j = M a j) : JN G' M' F s' r :=
  ⟨hL, hA, hC, RS_e h.2.2.2.1 (fun a j q1 q2 => e a j (by omega)), fun j => by rw [e _ _ (by omega)]; exact h.2.2.2.2 j⟩
theorem JN_r {G : Int → Nat} {M M' : dsMem} {F : Int → Int} {s r r' : gST} (h : JN G M F s r) (hL : Lay G M') (hR : zRS M' r') (e : ∀ a j, a ≤ 83 ∨ 115 ≤ a → M' a j = M a j) : JN G M' F s r' :=
  ⟨hL, zAL_e h.2.1 (fun a j q => e a j (by omega)), CS_e h.2.2.1 (fun a j q => e a j (by omega)), hR, fun j => by rw [e _ _ (by omega)]; exact h.2.2.2.2 j⟩
section
variable {G : Int → Nat} {M M' : dsMem} {F : Int → Int} {s r : gST}
/-- the class's questions -/
theorem JN_cq (h : JN G M F s r) (hL : Lay G M') (q : CI M' (gW s) ∧ Fr CQ M M') : JN G M' F s r := by
  have e : ∀ x j, (x < 0 ∨ (1 ≤ x ∧ x ≤ 46) ∨ 84 ≤ x) → M' x j = M x j := fun x j w => q.2 x j (by unfold CQ; omega)
  obtain ⟨-, a, c, d, f⟩ := id h
  exact JN_c h hL (zAL_e a (fun x j w => e x j (by omega))) ⟨q.1, CSl_e c.2.1 (fun x j w => e x j (by omega)), CIm_e c.2.2.1 (fun x j w => e x j (by omega)), CTt_e c.2.2.2 (fun x j w => e x j (by omega))⟩ (fun x j w => e x j (by omega))
/-- the class's world changes -/
theorem JN_cw {W' : dsW} (h : JN G M F s r) (hL : Lay G M') (q : CI M' W' ∧ Fr CQ4 M M') : JN G M' F (W', s.2) r := by
  have e : ∀ x j, (x < 0 ∨ (1 ≤ x ∧ x ≤ 23) ∨ x = 45 ∨ x = 46 ∨ 84 ≤ x) → M' x j = M x j := fun x j w => q.2 x j (by unfold CQ4 CQ; omega)
  obtain ⟨-, a, c, d, f⟩ := id h
  exact JN_c h hL (zAL_e a (fun x j w => e x j (by omega))) ⟨q.1, CSl_e c.2.1 (fun x j w => e x j (by omega)), CIm_e c.2.2.1 (fun x j w => e x j (by omega)), CTt_e c.2.2.2 (fun x j w => e x j (by omega))⟩ (fun x j w => e x j (by omega))
/-- the class's tape changes -/
theorem JN_ct {n' : Int} {b' : Int → Int} (h : JN G M F s r) (hL : Lay G M') (q : CTt M' n' b' (gFl s) (gPl s) ∧ Fr FTp M M') : JN G M' F (gW s, gS s, gI s, (n', b'), (gFl s, gPl s)) r := by
  have e : ∀ x j, (x ≤ 0 ∨ 3 ≤ x) → M' x j = M x j := fun x j w => q.2 x j (by unfold FTp; omega)
  obtain ⟨-, a, c, d, f⟩ := id h
  refine JN_c h hL (zAL_e a (fun x j w => e x j (by omega))) ⟨?_, CSl_e c.2.1 (fun x j w => e x j (by omega)), CIm_e c.2.2.1 (fun x j w => e x j (by omega)), q.1⟩ (fun x j w => e x j (by omega))
  exact CI_e3 c.1 (fun x j w1 w2 w3 => e x j (by omega))
/-- the class reads its tape -/
theorem JN_cc {W' : dsW} {b' : Int → Int} {f' p' : Int} (h : JN G M F s r) (hL : Lay G M') (q : CI M' W' ∧ CTt M' 0 b' f' p' ∧ Fr CQ6 M M') : JN G M' F (W', gS s, gI s, (0, b'), (f', p')) r := by
  have e : ∀ x j, (x < 0 ∨ x = 2 ∨ x = 45 ∨ x = 46 ∨ 84 ≤ x) → M' x j = M x j := fun x j w => q.2.2 x j (by unfold CQ6 CQ4 CQ; omega)
  obtain ⟨-, a, c, d, f⟩ := id h
  exact JN_c h hL (zAL_e a (fun x j w => e x j (by omega))) ⟨q.1, CSl_e c.2.1 (fun x j w => e x j (by omega)), CIm_e c.2.2.1 (fun x j w => e x j (by omega)), q.2.1⟩ (fun x j w => e x j (by omega))
/-- a number of the class's rows changes -/
theorem JN_cs {S' : slT} {t : Int} (h : JN G M F s r) (hL : Lay G M') (hn : ∀ u, slN S' u = slN (gS s) u) (q : CSl M' S' ∧ Fr (fun a _ => (0 ≤ t ∧ t ≤ 3 ∧ 0 ≤ slN (gS s) t) ∧ a = M 46 t + 1) M M') : JN G M' F (gW s, S', s.2.2) r := by
  obtain ⟨-, a, c, d, f⟩ := id h
  have hge : (0 ≤ t ∧ t ≤ 3 ∧ 0 ≤ slN (gS s) t) → 115 ≤ M 46 t := fun w => by
    rcases c.2.1.1 t w.1 (by omega) with z | z
    · omega
    · exact z.2.2.2.2.1
  have e : ∀ x j, x ≤ 115 → M' x j = M x j := fun x j w => q.2 x j (fun z => by have := hge z.1; have := z.2; omega)
  refine JN_c h hL ?_ ⟨CI_e c.1 (fun x j w1 w2 => e x j (by omega)), q.1, ?_, CTt_e c.2.2.2 (fun x j w => e x j (by omega))⟩ (fun x j w => e x j (by omega))
  · obtain ⟨⟨a1, a2, a3, a4, a5, a6⟩, a7⟩ := a
    refine ⟨⟨by rw [e _ _ (by omega)]; exact a1, fun x hx => a2 x (by rw [e _ _ (by omega)] at hx; exact hx), a3, a4, fun u u0 u1 n0 => ?_, fun k k0 k1 i0 => ?_⟩, a7⟩
    · rw [e _ _ (by omega), e (-1) _ (by omega)]; exact a5 u u0 u1 (by rw [← hn u]; exact n0)
    · rw [e _ _ (by omega), e (-1) _ (by omega)]; exact a6 k k0 k1 i0
  · obtain ⟨b1, b2, b3⟩ := c.2.2.1
    refine ⟨fun k k0 k1 => ?_, fun k l k0 k1 l0 l1 w i1 i2 => ?_, fun k u k0 k1 u0 u1 i1 i2 => ?_⟩
    · rw [e 45 k (by omega)]
      rcases b1 k k0 k1 with z | z
      · exact Or.inl z
      · refine Or.inr ⟨z.1, z.2.1, z.2.2.1, CWd_e z.2.2.2 (fun x j w1 w2 => q.2 x j (fun y => ?_))⟩
        have := b3 k t k0 k1 y.1.1 (by omega) z.1 y.1.2.2
        have := y.2
        omega
    · rw [e 45 k (by omega), e 45 l (by omega)]; exact b2 k l k0 k1 l0 l1 w i1 i2
    · rw [e 45 k (by omega), e 46 u (by omega)]; exact b3 k u k0 k1 u0 u1 i1 (by rw [← hn u]; exact i2)
/-- the reference's questions -/
theorem JN_rq (h : JN G M F s r) (hL : Lay G M') (q : RI0 M' (gW r) ∧ Fr RQ M M') : JN G M' F s r := by
  have e : ∀ x j, (x ≤ 83 ∨ (85 ≤ x ∧ x ≤ 90) ∨ 111 ≤ x ∨ (x = 84 ∧ j ≤ 16)) → M' x j = M x j := fun x j w => q.2 x j (by unfold RQ; omega)
  obtain ⟨-, a, c, d, f⟩ := id h
  exact JN_r h hL ⟨q.1, RSl_e d.2.1 (fun x j q1 q2 => e x j (by omega)), RIm_e d.2.2.1 (fun x j w => e x j (by omega)), RTt_e d.2.2.2 (fun x j w => e x j (by omega))⟩ (fun x j w => e x j (by omega))
theorem JN_rw {W' : dsW} (h : JN G M F s r) (hL : Lay G M') (q : RI0 M' W' ∧ Fr RQ4 M M') : JN G M' F s (W', r.2) := by
  have e : ∀ x j, (x ≤ 83 ∨ (86 ≤ x ∧ x ≤ 90) ∨ 111 ≤ x ∨ (x = 84 ∧ j ≤ 16)) → M' x j = M x j := fun x j w => q.2 x j (by unfold RQ4 RQ; omega)
  obtain ⟨-, a, c, d, f⟩ := id h
  exact JN_r h hL ⟨q.1, RSl_e d.2.1 (fun x j q1 q2 => e x j (by omega)), RIm_e d.2.2.1 (fun x j w => e x j (by omega)), RTt_e d.2.2.2 (fun x j w => e x j (by omega))⟩ (fun x j w => e x j (by omega))
theorem JN_rt {n' : Int} {b' : Int → Int} (h : JN G M F s r) (hL : Lay G M') (q : RTt M' n' b' (gFl r) (gPl r) ∧ Fr FRp M M') : JN G M' F s (gW r, gS r, gI r, (n', b'), (gFl r, gPl r)) := by
  have e : ∀ x j, (x ≤ 83 ∨ (85 ≤ x ∧ x ≤ 87) ∨ 90 ≤ x) → M' x j = M x j := fun x j w => q.2 x j (by unfold FRp; omega)
  obtain ⟨-, a, c, d, f⟩ := id h
  exact JN_r h hL ⟨RI0_e d.1 (fun j => e _ _ (by omega)), RSl_e d.2.1 (fun x j q1 q2 => e x j (by omega)), RIm_e d.2.2.1 (fun x j w => e x j (by omega)), q.1⟩ (fun x j w => e x j (by omega))
theorem JN_rc {W' : dsW} {b' : Int → Int} {f' p' : Int} (h : JN G M F s r) (hL : Lay G M') (q : RI0 M' W' ∧ RTt M' 0 b' f' p' ∧ Fr RQ7 M M') : JN G M' F s (W', gS r, gI r, (0, b'), (f', p')) := by
  have e : ∀ x j, (x ≤ 83 ∨ (86 ≤ x ∧ x ≤ 89) ∨ 91 ≤ x) → M' x j = M x j := fun x j w => q.2.2 x j (by unfold RQ7; omega)
  obtain ⟨-, a, c, d, f⟩ := id h
  exact JN_r h hL ⟨q.1, RSl_e d.2.1 (fun x j q1 q2 => e x j (by omega)), RIm_e d.2.2.1 (fun x j w => e x j (by omega)), q.2.1⟩ (fun x j w => e x j (by omega))
theorem JN_rs {S' : slT} (h : JN G M F s r) (hL : Lay G M') (q : RSl M' S' ∧ Fr RSQ M M') : JN G M' F s (gW r, S', r.2.2) := by
  have e : ∀ x j, (x ≤ 110 ∨ 115 ≤ x) → M' x j = M x j := fun x j w => q.2 x j (by unfold RSQ; omega)
  obtain ⟨-, a, c, d, f⟩ := id h
  exact JN_r h hL ⟨RI0_e d.1 (fun j => e _ _ (by omega)), q.1, RIm_e d.2.2.1 (fun x j w => e x j (by omega)), RTt_e d.2.2.2 (fun x j w => e x j (by omega))⟩ (fun x j w => e x j (by omega))
theorem JN_ri {I' : imT} (h : JN G M F s r) (hL : Lay G M') (q : RIm M' I' ∧ Fr RIQ M M') : JN G M' F s (gW r, gS r, I', r.2.2.2) := by
  have e : ∀ x j, (x ≤ 85 ∨ 88 ≤ x) → M' x j = M x j := fun x j w => q.2 x j (by unfold RIQ; omega)
  obtain ⟨-, a, c, d, f⟩ := id h
  exact JN_r h hL ⟨RI0_e d.1 (fun j => e _ _ (by omega)), RSl_e d.2.1 (fun x j q1 q2 => e x j (by omega)), q.1, RTt_e d.2.2.2 (fun x j w => e x j (by omega))⟩ (fun x j w => e x j (by omega))
end
theorem cq142b {M : dsMem} {S : slT} {t i v : Int} (hs : CSl M S) : bCt 142 [uR 10 0, uI t, uI i, uJ v, uX 0, uX 0] M (fun _ => [uI (aWr S t i)]) (fun M' => CSl M' (nWr S t i v) ∧ Fr (fun a _ => (0 ≤ t ∧ t ≤ 3 ∧ 0 ≤ slN S t) ∧ a = M 46 t + 1) M M') := by
  intro Q hQ
  refine r142_0 (s1 := fun q => by omega) (s2 := fun q q2 => by omega) (s3 := fun q q2 => by have := CSl_at hs q q2; omega) (s4 := fun q q2 q3 => by have a := CSl_at hs q q2; rw [a.2.2.2.2.2.1]; have := shl8 ⟨a.2.2.1, a.2.2.2.1⟩; omega) (s5 := fun q q2 q3 => by have := CSl_at hs q q2; omega) (k1 := fun q q2 q3 => ?_) (k2 := fun q q2 q3 => ?_) (k3 := fun q q2 => ?_) (k4 := fun q => ?_)
  · have a := CSl_at hs q q2
    have ok : okWr S t i := ⟨q, by omega, by omega⟩
    refine q_eq ?_ (hQ _ ⟨?_, Fr_set Fr_refl ⟨⟨q.1, q.2, a.1⟩, rfl⟩⟩)
    · unfold aWr; rw [if_pos q, if_neg (by omega), if_pos (by omega)]
    · unfold nWr; rw [if_pos ok]
      refine CSl_num hs q q2 (fun a j u => by rw [ds_gn (by omega)]) (fun j j0 j1 => ?_)
      by_cases hj : j = i
      · subst hj; rw [ds_ge ⟨rfl, rfl⟩, upd_e]; unfold v41 cutV; rw [a.2.2.2.2.2.1]
      · rw [ds_gn (Or.inr hj), upd_n _ _ hj]; exact a.2.2.2.2.2.2.2 j j0 j1
  · have a := CSl_at hs q q2
    refine q_eq ?_ (hQ M ⟨by unfold nWr; rw [if_neg (fun u => by have := u.2.2; omega)]; exact hs, Fr_refl⟩)
    unfold aWr; rw [if_pos q, if_neg (by omega), if_neg (by omega)]
  · have a := CSl_no hs q q2
    refine q_eq ?_ (hQ M ⟨by unfold nWr; rw [if_neg (fun u => u.2.1 a)]; exact hs, Fr_refl⟩)
    unfold aWr; rw [if_pos q, if_pos a]
  · refine q_eq ?_ (hQ M ⟨by unfold nWr; rw [if_neg (fun u => q u.1)]; exact hs, Fr_refl⟩)
    unfold aWr; rw [if_neg q]
theorem cq143b {M : dsMem} {S : slT} {t i u k n : Int} (hs : CSl M S) (hr : -2147483648 ≤ n ∧ n < 2147483648) : bCt 143 [uR 10 0, uI t, uI i, uI u, uI k, uI n, uX 0, uX 0] M (fun _ => [uI (aPa S t i u k n)]) (fun M' => CSl M' (nPa S t i u k n) ∧ Fr (fun a _ => (0 ≤ u ∧ u ≤ 3 ∧ 0 ≤ slN S u) ∧ a = M 46 u + 1) M M') := by
  intro Q hQ
  have no : ¬ okPa S t i u k n → ∀ v, aPa S t i u k n = v → Q [uI v] M := fun q v e => q_eq e.symm (hQ M ⟨by unfold nPa; rw [if_neg q]; exact hs, Fr_refl⟩)
  refine r143_0 (k1 := fun q => no (fun w => q w.1.1) _ (by unfold aPa; rw [if_neg (fun w => q w.1)])) (s1 := fun q q2 => by omega) (s2 := fun q q2 => by omega) (k2 := fun q q2 q3 => ?_) (s3 := fun q q2 q3 q4 => by omega) (s4 := fun q q2 q3 q4 => by omega) (s5 := fun q q2 q3 q4 q5 q6 q7 q8 => by have := CSl_at hs q q3; omega) (k3 := fun q q2 q3 q4 q5 q6 => ?_) (s6 := fun q q2 q3 q4 q5 q6 q7 q8 q9 => by have := CSl_at hs q2 q4; omega) (s7 := fun q q2 q3 q4 q5 q6 q7 => by have := CSl_at hs q q3; have := CSl_at hs q2 q4; omega) (k4 := fun q q2 q3 q4 q5 q6 q7 => ?_) (k5 := fun q q2 q3 q4 q5 q6 q7 => ?_) (k6 := fun q q2 q3 q4 q5 => ?_) (k7 := fun q q2 q3 q4 => ?_) (k8 := fun q q2 => no (fun w => q2 w.1.2) _ (by unfold aPa; rw [if_neg (fun w => q2 w.2)]))
  · have a := CSl_no hs q q3
    exact no (fun w => w.2.1.1 a) _ (by unfold aPa; rw [if_pos ⟨q, q2⟩, if_pos (Or.inl a)])
  · have a := CSl_at hs q q3
    have b := CSl_at hs q2 q4
    exact no (fun w => by have := w.2.2.2; omega) _ (by unfold aPa; rw [if_pos ⟨q, q2⟩, if_neg (by omega), if_pos (by omega), if_neg (by omega)])
  · have a := CSl_at hs q q3
    have b := CSl_at hs q2 q4
    have ok : okPa S t i u k n := ⟨⟨q, q2⟩, ⟨by omega, by omega⟩, by omega, by omega, by omega⟩
    refine q_eq ?_ (hQ _ ⟨?_, ?_⟩)
    · unfold aPa; rw [if_pos ⟨q, q2⟩, if_neg (by omega), if_pos (by omega), if_pos (by omega)]
    · unfold nPa; rw [if_pos ok]
      refine CSl_num hs q2 q4 (fun c j w => by rw [dsCpy_ne w]) (fun j j0 j1 => ?_)
      rw [dsCpy_at]
      unfold pasF
      by_cases hj : k ≤ j ∧ j < k + n
      · rw [if_pos hj, if_pos hj]; exact a.2.2.2.2.2.2.2 _ (by omega) (by omega)
      · rw [if_neg hj, if_neg hj]; exact b.2.2.2.2.2.2.2 _ (by omega) (by omega)
    · intro c j w
      rw [dsCpy_ne (fun e => w ⟨⟨q2.1, q2.2, b.1⟩, e⟩)]
  · have a := CSl_at hs q q3
    have b := CSl_at hs q2 q4
    exact no (fun w => by have := w.2.2.2; omega) _ (by unfold aPa; rw [if_pos ⟨q, q2⟩, if_neg (by omega), if_pos (by omega), if_neg (by omega)])
  · have a := CSl_at hs q q3
    have b := CSl_at hs q2 q4
    exact no (fun w => by have := w.2.2.1; omega) _ (by unfold aPa; rw [if_pos ⟨q, q2⟩, if_neg (by omega), if_neg (by omega)])
  · have a := CSl_no hs q2 q4
    exact no (fun w => w.2.1.2 a) _ (by unfold aPa; rw [if_pos ⟨q, q2⟩, if_pos (Or.inr a)])
/-! the layout grows -/
abbrev zBt := List (Int × Int × Int × List (Bool × Int))
def zAbs (N : Int) (bt : zBt) : List zCl := bt.map (fun q => (q.1, q.2.1, q.2.2.1, q.2.2.2.map (fun e => if e.1 = true then N + e.2 else e.2)))
def zChk (z : Bool) (bt : zBt) (ks : List Nat) : Bool := (List.range ks.length).all (fun i =>
  let q := bt.getD i (0, 0, 0, [])
  let t := ks.getD i 99
  decide (t < 90) && decide (q.1 = bkC t) && decide (bkN t = false) && (decide (bkC t < 100) || decide (q.2.1 = bkL t)) && (decide (bkC t ≠ 104 ∧ bkC t ≠ 105) || (decide (q.2.2.2.length = 0) && decide (q.2.2.1 = -1))) &&
  (List.range 60).all (fun k => match bkF t k with
    | none => true
    | some (t', ab, o) => decide (k < q.2.2.2.length) && decide (t' < 90) && (if ab = true then z && decide (q.2.2.2.getD k (false, 0) = (false, o)) && decide (0 ≤ o) && decide (ks.getD o.toNat 99 = t') && decide (o.toNat < ks.length) else decide (q.2.2.2.getD k (false, 0) = (true, (i : Int) + o)) && decide (0 ≤ (i : Int) + o) && decide (ks.getD ((i : Int) + o).toNat 99 = t') && decide (((i : Int) + o).toNat < ks.length))))
def zG (G : Int → Nat) (N : Int) (ks : List Nat) : Int → Nat := fun a => if N ≤ a ∧ a < N + (ks.length : Int) then ks.getD (a - N).toNat 99 else G a
set_option maxHeartbeats 1000000 in
theorem bkF_lt {t k : Nat} {x : Nat × Bool × Int} (h : bkF t k = some x) : k < 60 := by
  unfold bkF at h
  repeat' split at h
  all_goals first | omega | (exfalso; cases h; done)
theorem zmap_get {f : Bool × Int → Int} {L : List (Bool × Int)} {k : Nat} (h : k < L.length) : (L.map f).getD k 0 = f (L.getD k (false, 0)) := by
  rw [List.getD_eq_getElem?_getD, List.getElem?_map, List.getElem?_eq_getElem h, List.getD_eq_getElem?_getD, List.getElem?_eq_getElem h]
  rfl
theorem Lay_ext {G : Int → Nat} {M M' : dsMem} {N : Int} {bt : zBt} {ks : List Nat} {z : Bool} {cs : List zCl} (hL : Lay G M) (hG : ∀ a, N ≤ a → G a = 99) (hN : 0 ≤ N) (hz : z = true → N = 0) (hcs : zAbs N bt = cs) (hB : zB M N cs M') (hl : ks.length = bt.length) (hG1 : G (-1) = 99) (hc : zChk z bt ks = true) : Lay (zG G N ks) M' := by
  subst hcs
  have hlen : (zAbs N bt).length = ks.length := by unfold zAbs; rw [List.length_map, hl]
  have ho : ∀ x j : Int, ¬ (N ≤ x ∧ x < N + (ks.length : Int)) → ¬ (x = -1 ∧ j = 0) → M' x j = M x j := fun x j q1 q2 => hB.2.2 x j (by rw [hlen]; exact q1) q2
  have hin : ∀ a : Int, N ≤ a ∧ a < N + (ks.length : Int) → ∃ i : Nat, a = N + (i : Int) ∧ i < ks.length ∧ zG G N ks a = ks.getD i 99 := by
    intro a ha
    refine ⟨(a - N).toNat, by omega, by omega, ?_⟩
    unfold zG
    rw [if_pos ha]
  have hat : ∀ i : Nat, i < ks.length → zG G N ks (N + (i : Int)) = ks.getD i 99 := by
    intro i hi
    unfold zG
    rw [if_pos ⟨by omega, by omega⟩, show (N + (i : Int) - N).toNat = i by omega]
  have hout : ∀ a : Int, ¬ (N ≤ a ∧ a < N + (ks.length : Int)) → zG G N ks a = G a := by
    intro a ha
    unfold zG
    rw [if_neg ha]
  have hold : ∀ a : Int, G a < 90 → ¬ (N ≤ a ∧ a < N + (ks.length : Int)) ∧ a ≠ -1 := by
    intro a ha
    refine ⟨fun q => ?_, fun q => ?_⟩
    · rw [hG a q.1] at ha; omega
    · rw [q, hG1] at ha; omega
  have hold2 : ∀ a : Int, G a < 90 → zG G N ks a = G a := fun a ha => hout a (hold a ha).1
  have hM : ∀ a : Int, G a < 90 → ∀ j, M' a j = M a j := fun a ha j => ho a j (hold a ha).1 (fun q => (hold a ha).2 q.1)
  have hcell : ∀ i : Nat, i < ks.length → zCd ((bt.getD i (0, 0, 0, [])).1, (bt.getD i (0, 0, 0, [])).2.1, (bt.getD i (0, 0, 0, [])).2.2.1, (bt.getD i (0, 0, 0, [])).2.2.2.map (fun e => if e.1 = true then N + e.2 else e.2)) (M' (N + (i : Int))) := by
    intro i hi
    have hi2 : i < bt.length := by omega
    refine hB.2.1 i _ ?_
    unfold zAbs
    rw [List.getElem?_map, List.getElem?_eq_getElem hi2, List.getD_eq_getElem?_getD, List.getElem?_eq_getElem hi2]
    rfl
  have hck : ∀ i : Nat, i < ks.length → (ks.getD i 99 < 90 ∧ (bt.getD i (0, 0, 0, [])).1 = bkC (ks.getD i 99) ∧ bkN (ks.getD i 99) = false ∧ (bkC (ks.getD i 99) < 100 ∨ (bt.getD i (0, 0, 0, [])).2.1 = bkL (ks.getD i 99)) ∧ ((bkC (ks.getD i 99) ≠ 104 ∧ bkC (ks.getD i 99) ≠ 105) ∨ ((bt.getD i (0, 0, 0, [])).2.2.2.length = 0 ∧ (bt.getD i (0, 0, 0, [])).2.2.1 = -1)) ∧
      ∀ k t' ab o, bkF (ks.getD i 99) k = some (t', ab, o) → k < (bt.getD i (0, 0, 0, [])).2.2.2.length ∧ t' < 90 ∧ (ab = true → z = true ∧ (bt.getD i (0, 0, 0, [])).2.2.2.getD k (false, 0) = (false, o) ∧ 0 ≤ o ∧ ks.getD o.toNat 99 = t' ∧ o.toNat < ks.length) ∧ (¬ ab = true → (bt.getD i (0, 0, 0, [])).2.2.2.getD k (false, 0) = (true, (i : Int) + o) ∧ 0 ≤ (i : Int) + o ∧ ks.getD ((i : Int) + o).toNat 99 = t' ∧ ((i : Int) + o).toNat < ks.length)) := by
    intro i hi
    have h0 := List.all_eq_true.mp hc i (List.mem_range.mpr hi)
    simp only [Bool.and_eq_true, Bool.or_eq_true, decide_eq_true_eq] at h0
    obtain ⟨⟨⟨⟨⟨c1, c2⟩, c3⟩, c4⟩, c5⟩, c6⟩ := h0
    refine ⟨c1, c2, c3, c4, c5, fun k t' ab o hk => ?_⟩
    have h1 := List.all_eq_true.mp c6 k (List.mem_range.mpr (bkF_lt hk))
    rw [hk] at h1
    simp only [Bool.and_eq_true, decide_eq_true_eq] at h1
    obtain ⟨⟨e1, e2⟩, e3⟩ := h1
    refine ⟨e1, e2, fun q => ?_, fun q => ?_⟩
    · rw [if_pos q] at e3
      simp only [Bool.and_eq_true, decide_eq_true_eq] at e3
      exact ⟨e3.1.1.1.1, e3.1.1.1.2, e3.1.1.2, e3.1.2, e3.2⟩
    · rw [if_neg q] at e3
      simp only [Bool.and_eq_true, decide_eq_true_eq] at e3
      exact ⟨e3.1.1.1, e3.1.1.2, e3.1.2, e3.2⟩
  refine ⟨fun a ha => ?_, fun a ha => ?_⟩
  · by_cases hr : N ≤ a ∧ a < N + (ks.length : Int)
    · obtain ⟨i, rfl, hi, hg⟩ := hin a hr
      rw [hg]
      obtain ⟨c1, c2, c3, c4, c5, c6⟩ := hck i hi
      have hd := hcell i hi
      refine ⟨⟨hd.1.trans c2, c3⟩, fun q => ?_, fun k t' ab o hk => ?_⟩
      · rw [(hd.2.1 (by show (100 : Int) ≤ (bt.getD i (0, 0, 0, [])).1; rw [c2]; exact q)).1]
        rcases c4 with c4 | c4
        · omega
        · exact c4
      · obtain ⟨e1, e2, e3, e4⟩ := c6 k t' ab o hk
        have hv := hd.2.2 k (by show k < (List.map _ _).length; rw [List.length_map]; exact e1)
        have hv2 : M' (N + (i : Int)) (k : Int) = (fun e : Bool × Int => if e.1 = true then N + e.2 else e.2) ((bt.getD i (0, 0, 0, [])).2.2.2.getD k (false, 0)) := by
          rw [hv]
          exact zmap_get e1
        by_cases hab : ab = true
        · obtain ⟨f1, f2, f3, f4, f5⟩ := e3 hab
          have hN0 := hz f1
          rw [if_pos hab]
          refine ⟨by rw [hv2, f2]; exact if_neg Bool.false_ne_true, ?_, e2⟩
          have := hat o.toNat f5
          rw [show N + ((o.toNat : Nat) : Int) = o by omega] at this
          rw [this, f4]
        · obtain ⟨f2, f3, f4, f5⟩ := e4 hab
          rw [if_neg hab]
          refine ⟨by rw [hv2, f2]; show (if true = true then N + ((i : Int) + o) else _) = _; rw [if_pos rfl]; omega, ?_, e2⟩
          have := hat ((i : Int) + o).toNat f5
          rw [show N + ((((i : Int) + o).toNat : Nat) : Int) = N + (i : Int) + o by omega] at this
          rw [this, f4]
    · have hg := hout a hr
      rw [hg] at ha ⊢
      obtain ⟨h1, h2, h3⟩ := hL.1 a ha
      refine ⟨by rw [hM a ha]; exact h1, fun q => by rw [hM a ha]; exact h2 q, fun k t ab o hk => ?_⟩
      obtain ⟨g1, g2, g3⟩ := h3 k t ab o hk
      exact ⟨by rw [hM a ha]; exact g1, by rw [hold2 _ (by rw [g2]; exact g3)]; exact g2, g3⟩
  · by_cases hr : N ≤ a ∧ a < N + (ks.length : Int)
    · obtain ⟨i, rfl, hi, hg⟩ := hin a hr
      rw [hg]
      obtain ⟨c1, c2, c3, c4, c5, c6⟩ := hck i hi
      have hd := hcell i hi
      have key : (bkC (ks.getD i 99) = 104 ∨ bkC (ks.getD i 99) = 105) → ∀ j : Int, 0 ≤ j → M' (N + (i : Int)) j < 0 := by
        intro q j j0
        rcases c5 with c5 | ⟨c5, c7⟩
        · exact absurd q (by omega)
        · rw [(hd.2.1 (by show (100 : Int) ≤ (bt.getD i (0, 0, 0, [])).1; omega)).2 j (by show (((List.map _ _).length : Nat) : Int) ≤ j; rw [List.length_map, c5]; omega)]
          show (bt.getD i (0, 0, 0, [])).2.2.1 < 0
          omega
      exact ⟨fun q j j0 _ => Or.inl (key (Or.inl q) j j0), fun q j j0 _ => Or.inl (key (Or.inr q) j j0)⟩
    · have hg := hout a hr
      rw [hg] at ha ⊢
      obtain ⟨h1, h2⟩ := hL.2 a ha
      refine ⟨fun q i i0 i1 => ?_, fun q i i0 i1 => ?_⟩
      · rw [hM a ha]
        rcases h1 q i i0 i1 with z | z
        · exact Or.inl z
        · exact Or.inr (by rw [hold2 _ (by omega)]; exact z)
      · rw [hM a ha]
        rcases h2 q i i0 i1 with z | z
        · exact Or.inl z
        · exact Or.inr (by rw [hold2 _ (by omega)]; exact z)
