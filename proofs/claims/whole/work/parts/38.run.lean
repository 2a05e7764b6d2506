/-! the flow's year: what is heard; a year, and all years -/
theorem hear_ct {M0 M : dsMem} {x0 y b s n : Int} {P : dsP} {S : dsS} (hP : POK P) (hx : x0 = 47 ∨ x0 = 62) (hy : 0 ≤ y ∧ y < 12) (hs : 0 ≤ s ∧ s < pN P) (hn : 1 ≤ n ∧ n ≤ 60) (h : CS M0 x0 y P b M S) :
    bCt 20 [uR 5 x0, uI y, uI s, uI n, uX 0] M (fun _ => []) (fun M' => CS M0 x0 y P b M' (dsTap s n S)) := by
  intro Q hQ
  have hN := hP.1
  have hst := hP.2.1 s hs.1 hs.2
  have hw := h.2.1 s hs.1 hs.2
  have hc : 0 ≤ (y + 1) * 6 + s ∧ (y + 1) * 6 + s < 78 := by omega
  refine r20_0 (hA1 := drain_ct hc (h.1.1 s hs.1 hs.2) hw.1 (by omega) (by omega)) (k1 := fun M1 r1 => ?_)
  have hf1 := r1.2.2
  have hdk := r1.2.1
  refine b_forM 6 (fun k => [uR 5 x0, uX 0, uI s, uX 0, uI k])
    (fun k M2 => 1 ≤ k ∧ k ≤ 6 ∧ (∀ j, 1 ≤ j → j < k → M2 (x0 + 10) j = dsw (sA S j + dyDrs (sL S s) n j)) ∧ (∀ j, k ≤ j → j ≤ 5 → M2 (x0 + 10) j = dsw (sA S j)) ∧
      dsIter (fun k b => if 0 < dyDrs (sL S s) n k then dsOr b (dsShl 1 k) else b) k 6 (M2 (x0 + 11) s) = dsIter (fun k b => if 0 < dyDrs (sL S s) n k then dsOr b (dsShl 1 k) else b) 1 6 (sF S s) ∧
      Fr (fun a j => a = x0 + 10 ∨ (a = x0 + 11 ∧ j = s)) (dsSet M1 (x0 + 9) y (dsw (M (x0 + 9) y + dyAm (sL S s) n))) M2) ?_ ?_ 1 _ ⟨by omega, by omega, fun j _ _ => by omega, ?_, ?_, Fr_refl⟩
  · rintro k M2 ⟨k0, k1, g1, g2, g3, g4⟩ k2 ih
    have ed : M2 (x0 + 13) k = dyDrs (sL S s) n k := by
      rw [g4 _ _ (by omega), ds_get_ne (by omega)]; exact hdk k (by omega) (by omega)
    have e10 := g2 k (by omega) (by omega)
    rw [dsIter_step k2] at g3
    refine r20_24 (k1 := fun q1 => by omega) (k2 := fun q1 q2 => ih _ ⟨by omega, by omega, ?_, ?_, ?_, Fr_set g4 (Or.inl rfl)⟩) (k3 := fun q1 q2 => ih _ ⟨by omega, by omega, ?_, ?_, ?_, Fr_set (Fr_set g4 (Or.inl rfl)) (Or.inr ⟨rfl, rfl⟩)⟩)
    · intro j j0 j1
      by_cases hj : j = k
      · subst hj; simp (disch := omega) only [ds_gn, ds_ge]; rw [e10, ed, dyw_add]
      · simp (disch := omega) only [ds_gn, ds_ge]; exact g1 j j0 (by omega)
    · intro j j0 j1
      simp (disch := omega) only [ds_gn, ds_ge]; exact g2 j (by omega) j1
    · simp (disch := omega) only [ds_gn, ds_ge]
      rw [ed] at q2
      rw [if_neg (by omega)] at g3; exact g3
    · intro j j0 j1
      by_cases hj : j = k
      · subst hj; simp (disch := omega) only [ds_gn, ds_ge]; rw [e10, ed, dyw_add]
      · simp (disch := omega) only [ds_gn, ds_ge]; exact g1 j j0 (by omega)
    · intro j j0 j1
      simp (disch := omega) only [ds_gn, ds_ge]; exact g2 j (by omega) j1
    · simp (disch := omega) only [ds_gn, ds_ge]
      rw [ed] at q2
      rw [if_pos (by omega)] at g3; exact g3
  · rintro k M2 ⟨k0, k1, g1, g2, g3, g4⟩ k2
    refine r20_24 (k1 := fun q1 => hQ M2 ?_) (k2 := fun q1 => by omega) (k3 := fun q1 => by omega)
    rw [dsIter_end k2] at g3
    have e8 : M1 (x0 + 8) y = dsw (sX S) := by rw [hf1 _ _ (by unfold FD FC; omega)]; exact h.1.2.2.2.1
    have e12 : M1 (x0 + 12) s = dsw (sD S s) := by rw [hf1 _ _ (by unfold FD FC; omega)]; exact (h.1.2.2.2.2.2.2 s hs.1 hs.2).2
    have hu := CF_upd (l' := dyDr (sL S s) n) hP h.1 h.2.1 hy.1 hs (Fr_mono (fun a j q => Or.inl q) hf1) r1.1 e8 e12
    rw [dsUpd_self] at hu
    have f : ∀ a j, ¬ (a = x0 + 10 ∨ (a = x0 + 11 ∧ j = s)) → ¬ (a = x0 + 9 ∧ j = y) → M2 a j = M1 a j := by
      intro a j q1 q2
      rw [g4 a j q1, ds_gn (by omega)]
    obtain ⟨ua, ub, uc, ud, ue, uf, ug⟩ := hu
    refine CS_mk hx h ⟨?_, ?_, ?_, ?_, ?_, ?_, ?_⟩ ?_ h.2.2.1 ?_
    · intro t t0 t1
      exact cell_ne (ua t t0 t1) (fun a j hh => f a j (by omega) (by omega))
    · intro w w0 w1
      rw [f _ _ (by omega) (by omega)]; exact ub w w0 w1
    · rw [f _ _ (by omega) (by omega)]; exact uc
    · rw [f _ _ (by omega) (by omega)]; exact ud
    · rw [g4 _ _ (by omega), ds_get_eq, h.1.2.2.2.2.1, dyw_add]; rfl
    · intro j j0 j1
      rw [g1 j j0 (by omega)]; rfl
    · intro t t0 t1
      refine ⟨?_, ?_⟩
      · show M2 (x0 + 11) t = dsUpd (sF S) s _ t
        by_cases ht : t = s
        · subst ht; rw [dsUpd_eq]; exact g3
        · rw [dsUpd_ne ht, f _ _ (by omega) (by omega)]; exact (ug t t0 t1).1
      · rw [f _ _ (by omega) (by omega)]; exact (ug t t0 t1).2
    · intro t t0 t1
      show dyWl (dsUpd (sL S) s _ t) ∧ dySum (dsUpd (sL S) s _ t) ≤ _
      by_cases ht : t = s
      · subst ht; rw [dsUpd_eq, dyDr_sum hw.1]
        have := dyAm_nn (n := n) hw.1
        exact ⟨dyDr_wl hw.1, by omega⟩
      · rw [dsUpd_ne ht]; exact h.2.1 t t0 t1
    · refine Fr_trans (Fr_set (Fr_mono ?_ hf1) ?_) (Fr_mono ?_ g4)
      · intro a j q; unfold FD FC at q; unfold DY; omega
      · unfold DY; omega
      · intro a j q; unfold DY; omega
  · intro j j0 j1
    simp (disch := omega) only [ds_gn, ds_ge]
    rw [hf1 _ _ (by unfold FD FC; omega)]; exact h.1.2.2.2.2.2.1 j j0 j1
  · simp (disch := omega) only [ds_gn, ds_ge]
    rw [hf1 _ _ (by unfold FD FC; omega), (h.1.2.2.2.2.2.2 s hs.1 hs.2).1]
theorem taps_ct {M0 M : dsMem} {x0 y b : Int} {P : dsP} {S : dsS} (hP : POK P) (hx : x0 = 47 ∨ x0 = 62) (hy : 0 ≤ y ∧ y < 12) (h : CS M0 x0 y P b M S) :
    bCt 19 [uR 5 x0, uI y, uX 0, uX 0, uX 0, uX 0, uX 0, uX 0] M (fun _ => []) (fun M' => CS M0 x0 y P b M' (dsTaps P y S)) := by
  intro Q hQ
  refine r19_0 ?_
  refine b_itS (pTn P) (fun i => [uR 5 x0, uI y, uI (M 35 0), uI i, uX 0, uX 0, uX 0, uX 0]) (fun i S => match pTf P y i with | some q => dsTap q.1 q.2 S | none => S) (fun M' S' => CS M0 x0 y P b M' S' ∧ M' 35 0 = M 35 0) S ?_ ?_ M ⟨h, rfl⟩
  · rintro i M1 S1 i0 i1 ⟨hc, g⟩ ih
    have he := hc.2.2.2.2.1
    have hen := he.1
    have ern := he.2.2.1
    have idle : pTf P y i = none → bB 19 13 [uR 5 x0, uI y, uI (M 35 0), uI (i + 1), uX 0, uX 0, uX 0, uX 0] [] M1 Q := by
      intro e
      refine ih M1 ?_
      rw [e]; exact ⟨hc, g⟩
    have ff : ∀ M2 S2, CS M0 x0 y P b M2 S2 → M2 35 0 = M 35 0 := by
      intro M2 S2 r2
      have f2 := r2.2.2.2.2.2
      have f1 := hc.2.2.2.2.2
      rw [f2 _ _ (by unfold DY; omega), ← f1 _ _ (by unfold DY; omega)]; exact g
    by_cases hi : i < M 35 0
    · have ef := he.2.2.2.2.2.1 y i i0 (by omega)
      by_cases hcm : dsBit (M1 (x0 + 1) 2) i ∧ M1 39 i = y
      · rw [if_pos hcm] at ef
        have hq := hP.2.2.2.2 y i _ ef
        refine r19_13 (k1 := fun q1 => by omega) (k2 := fun q1 q2 q3 => absurd hcm.1 q3) (k3 := fun q1 q2 q3 q4 => absurd hcm.2 q4) (hA1 := fun q1 q2 q3 q4 => hear_ct hP hx hy ⟨hq.1, hq.2.1⟩ hq.2.2 hc) (k4 := fun q1 q2 q3 q4 M2 r2 => ih M2 ?_) (k5 := fun q1 q2 => by omega) (k6 := fun q1 q2 => by omega) (hA2 := fun q1 q2 => by omega) (k7 := fun q1 q2 => by omega) (R2 := fun _ => True)
        rw [ef]
        exact ⟨r2, ff M2 _ r2⟩
      · rw [if_neg hcm] at ef
        exact r19_13 (k1 := fun q1 => by omega) (k2 := fun q1 q2 q3 => idle ef) (k3 := fun q1 q2 q3 q4 => idle ef) (hA1 := fun q1 q2 q3 q4 => absurd ⟨q3, q4⟩ hcm) (k4 := fun q1 q2 q3 q4 => absurd ⟨q3, q4⟩ hcm) (k5 := fun q1 q2 => by omega) (k6 := fun q1 q2 => by omega) (hA2 := fun q1 q2 => by omega) (k7 := fun q1 q2 => by omega) (R2 := fun _ => True) (R1 := fun _ => True)
    · have ef := he.2.2.2.2.2.2 y i (by omega) (by omega)
      rw [g] at ef
      by_cases hcm : M1 41 (i - M 35 0) = 1 ∧ M1 44 (i - M 35 0) = y
      · rw [if_pos hcm] at ef
        have hq := hP.2.2.2.2 y i _ ef
        refine r19_13 (k1 := fun q1 => by omega) (k2 := fun q1 q2 q3 => by omega) (k3 := fun q1 q2 q3 q4 => by omega) (hA1 := fun q1 q2 => by omega) (k4 := fun q1 q2 => by omega) (k5 := fun q1 q2 q3 => absurd hcm.1 q3) (k6 := fun q1 q2 q3 q4 => absurd hcm.2 q4) (hA2 := fun q1 q2 q3 q4 => hear_ct hP hx hy ⟨hq.1, hq.2.1⟩ hq.2.2 hc) (k7 := fun q1 q2 q3 q4 M2 r2 => ih M2 ?_) (R1 := fun _ => True)
        rw [ef]
        exact ⟨r2, ff M2 _ r2⟩
      · rw [if_neg hcm] at ef
        exact r19_13 (k1 := fun q1 => by omega) (k2 := fun q1 q2 q3 => by omega) (k3 := fun q1 q2 q3 q4 => by omega) (hA1 := fun q1 q2 => by omega) (k4 := fun q1 q2 => by omega) (k5 := fun q1 q2 q3 => idle ef) (k6 := fun q1 q2 q3 q4 => idle ef) (hA2 := fun q1 q2 q3 q4 => absurd ⟨q3, q4⟩ hcm) (k7 := fun q1 q2 q3 q4 => absurd ⟨q3, q4⟩ hcm) (R2 := fun _ => True) (R1 := fun _ => True)
  · rintro i M1 i0 i1 ⟨hc, g⟩
    have hen := hc.2.2.2.2.1.1
    have ern := hc.2.2.2.2.1.2.2.1
    exact r19_13 (k1 := fun q1 => hQ M1 hc) (k2 := fun q1 => by omega) (k3 := fun q1 => by omega) (hA1 := fun q1 => by omega) (k4 := fun q1 => by omega) (k5 := fun q1 => by omega) (k6 := fun q1 => by omega) (hA2 := fun q1 => by omega) (k7 := fun q1 => by omega) (R2 := fun _ => True) (R1 := fun _ => True)
theorem dyRp_cpy {M M' : dsMem} {sa ma sb mb : Int} : ∀ {l : dsL} {b c : Int}, (∀ j : Int, 0 ≤ j → j < l.length → M' sb (c + j) = M sa (b + j) ∧ M' mb (c + j) = M ma (b + j)) → dyRp M sa ma b l → dyRp M' sb mb c l
  | [], _, _, _, _ => trivial
  | p :: l, b, c, h, hr => by
    simp only [List.length_cons] at h
    have h0 := h 0 (by omega) (by omega)
    rw [show c + 0 = c by omega, show b + 0 = b by omega] at h0
    refine ⟨⟨h0.1.trans hr.1.1, h0.2.trans hr.1.2⟩, dyRp_cpy (b := b + 1) ?_ hr.2⟩
    intro j j0 j1
    have := h (j + 1) (by omega) (by omega)
    rw [show c + 1 + j = c + (j + 1) by omega, show b + 1 + j = b + (j + 1) by omega]
    exact this
/-- a cell laid as another is -/
theorem copy_ct {M : dsMem} {x0 x1 c d : Int} {l : dsL} (hx : (x1 = x0 ∧ c ≠ d) ∨ (x0 = 62 ∧ x1 = 47)) (hc : 0 ≤ c ∧ c < 78) (hd : 0 ≤ d ∧ d < 78) (hl : (l.length : Int) ≤ 60) (h : dyCell M x1 c l) :
    bCt 12 [uR 5 x0, uR 5 x1, uI c, uI d] M (fun _ => []) (fun M' => dyCell M' x0 d l ∧ Fr (FC x0 d) M M') := by
  intro Q hQ
  obtain ⟨h1, h2, h3⟩ := h
  have e5 : dsSet M (x0 + 4) d (M (x1 + 4) c) (x1 + 5) c = M (x1 + 5) c := by simp (disch := omega) only [ds_gn, ds_ge]
  have key : ∀ a j, dsCpy (dsCpy (dsSet (dsSet M (x0 + 4) d (M (x1 + 4) c)) (x0 + 5) d (M (x1 + 5) c)) (x1 + 2) (c * 60) (x0 + 2) (d * 60) (M (x1 + 4) c)) (x1 + 3) (c * 60) (x0 + 3) (d * 60) (M (x1 + 4) c) a j =
      (if a = x0 + 3 ∧ d * 60 ≤ j ∧ j < d * 60 + l.length then M (x1 + 3) (c * 60 + (j - d * 60)) else if a = x0 + 2 ∧ d * 60 ≤ j ∧ j < d * 60 + l.length then M (x1 + 2) (c * 60 + (j - d * 60)) else if a = x0 + 5 ∧ j = d then M (x1 + 5) c else if a = x0 + 4 ∧ j = d then M (x1 + 4) c else M a j) := by
    intro a j
    unfold dsCpy
    rw [h1]
    by_cases g1 : a = x0 + 3 ∧ d * 60 ≤ j ∧ j < d * 60 + l.length
    · rw [if_pos g1, if_pos g1, if_neg (by omega)]
      simp (disch := omega) only [ds_gn, ds_ge]
    · rw [if_neg g1, if_neg g1]
      by_cases g2 : a = x0 + 2 ∧ d * 60 ≤ j ∧ j < d * 60 + l.length
      · rw [if_pos g2, if_pos g2]
        simp (disch := omega) only [ds_gn, ds_ge]
      · rw [if_neg g2, if_neg g2, dsSet_get, dsSet_get]
  have e4 : dsCpy (dsSet (dsSet M (x0 + 4) d (M (x1 + 4) c)) (x0 + 5) d (M (x1 + 5) c)) (x1 + 2) (c * 60) (x0 + 2) (d * 60) (M (x1 + 4) c) (x0 + 4) d = M (x1 + 4) c := by
    unfold dsCpy
    rw [if_neg (by omega)]
    simp (disch := omega) only [ds_gn, ds_ge]
  refine r12_0 (k1 := ?_) (s5 := ?_) (s6 := ?_)
  all_goals (try rw [e5])
  all_goals (try rw [e4])
  all_goals (try omega)
  refine hQ _ ⟨⟨?_, ?_, ?_⟩, ?_⟩
  · rw [key, if_neg (by omega), if_neg (by omega), if_neg (by omega), if_pos (by omega)]; exact h1
  · rw [key, if_neg (by omega), if_neg (by omega), if_pos (by omega)]; exact h2
  · refine dyRp_cpy (b := c * 60) ?_ h3
    intro j j0 j1
    rw [key, key, if_neg (by omega), if_pos (by omega), if_pos (by omega), show c * 60 + (d * 60 + j - d * 60) = c * 60 + j by omega]
    exact ⟨rfl, rfl⟩
  · intro a j q
    unfold FC at q
    rw [key, if_neg (by omega), if_neg (by omega), if_neg (by omega), if_neg (by omega)]
