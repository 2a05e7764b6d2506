/-! the class's reader: lines, the whole tape, choir -/
def D3 (M : dsMem) (W : dsW) : Prop :=
  (M 3 0 = wLn W ∧ M 3 1 = wY W ∧ M 3 2 = wLw W ∧ M 3 3 = wOd W ∧ M 3 4 = wW W ∧ M 3 5 = wN W) ∧
  (∀ w, 0 ≤ w → w < wW W → M 4 w = wBe W w ∧ M 5 w = wGi W w) ∧
  (∀ s, 0 ≤ s → s < wN W → M 6 s = wRo W s ∧ M 7 s = wWi W s ∧ M 8 s = wOn W s) ∧
  (M 9 0 = evN (wR W) ∧ ∀ i, 0 ≤ i → i < evN (wR W) → M 10 i = evK (wR W) i ∧ M 11 i = evO (wR W) i ∧ M 12 i = evM (wR W) i ∧ M 13 i = evY (wR W) i) ∧
  (M 14 0 = evN (wT W) ∧ ∀ i, 0 ≤ i → i < evN (wT W) → M 15 i = evK (wT W) i ∧ M 16 i = evO (wT W) i ∧ M 17 i = evM (wT W) i ∧ M 18 i = evY (wT W) i) ∧
  (M 19 0 = evN (wA W) ∧ ∀ i, 0 ≤ i → i < evN (wA W) → M 20 i = evK (wA W) i ∧ M 21 i = evO (wA W) i ∧ M 22 i = evM (wA W) i ∧ M 23 i = evY (wA W) i)
theorem D3_iff {M : dsMem} {W : dsW} : CWd M 3 W ↔ D3 M W := Iff.rfl
theorem D3_e {M M' : dsMem} {W : dsW} (h : D3 M W) (e : ∀ a j, 3 ≤ a → a ≤ 23 → M' a j = M a j) : D3 M' W := D3_iff.1 (CWd_e (D3_iff.2 h) (fun b j q1 q2 => e b j (by omega) (by omega)))
theorem D3_p {M M' : dsMem} {W : dsW} (h : D3 M W) (e : Fr FP M M') : D3 M' W := D3_e h (fun a j q1 q2 => e a j (by unfold FP; omega))
def FL : Int → Int → Prop := fun a j => FP a j ∨ (3 ≤ a ∧ a ≤ 23)
theorem FP_l {M M' : dsMem} (h : Fr FP M M') : Fr FL M M' := Fr_mono (fun _ _ q => Or.inl q) h
theorem CQs_fr {M M' : dsMem} {n : Int} {b : Int → Int} {q : psT} (h : CQs M n b q) (e : ∀ a j, a = 1 ∨ a = 2 → M' a j = M a j) : CQs M' n b q :=
  ⟨CTp_e h.1 (fun a j u => e a j (by omega)), by rw [e _ _ (by omega)]; exact h.2.1, by rw [e _ _ (by omega)]; exact h.2.2.1, fun u => by rw [e _ _ (by omega)]; exact h.2.2.2.1 u, h.2.2.2.2⟩
theorem fi0_ct {M : dsMem} {x : Int} (hx : x = 0) : bCt 52 [uR 6 1, uI x] M (fun _ => []) (fun M' => M' = M) := by
  intro Q hQ
  exact r52_0 (R1 := fun _ => False) (k1 := fun _ => hQ M rfl) (hA1 := fun q => absurd hx q) (k2 := fun q => absurd hx q)
theorem fi1_ct {M : dsMem} {x : Int} (hx : x ≠ 0) : bCt 52 [uR 6 1, uI x] M (fun _ => []) (fun M' => M' = dsSet (dsSet M 1 1 3) 1 2 (M 1 4)) := by
  intro Q hQ
  exact r52_0 (k1 := fun q => absurd q hx) (hA1 := fun _ => fail_ct) (k2 := fun _ M1 r => hQ M1 r)
/-- what a reader of a line owes -/
def LnP (M : dsMem) (n : Int) (b : Int → Int) (q : psT) (W : dsW) (M' : dsMem) : Prop := CQs M' n b q ∧ (q.1 = 0 → D3 M' W) ∧ M' 3 0 = M 3 0 ∧ Fr FL M M'
theorem cho_ct {M : dsMem} {n : Int} {b : Int → Int} {q : psT} {W : dsW} (h : CQs M n b q) (hd : D3 M W) : bCt 47 [uR 6 1, uR 4 3] M (fun _ => []) (LnP M n b (sgQ n b (choQ3 n b q)) (choW n b W q)) := by
  intro Q hQ
  refine r47_0 (hA1 := nb_ct (k := 1) (by omega) h (by omega) (by omega)) (hA2 := fun M1 r1 => nb_ct (k := 2) (q := choQ1 n b q) (by omega) (CQs_fr r1.1 (fun a j u => ds_gn (by omega))) (by omega) (by omega)) (hA3 := fun M1 r1 M2 r2 => nb_ct (k := 3) (q := choQ2 n b q) (by omega) (CQs_fr r2.1 (fun a j u => ds_gn (by omega))) (by omega) (by omega)) (hA4 := fun M1 r1 M2 r2 M3 r3 => sg_ct (q := choQ3 n b q) (CQs_fr r3.1 (fun a j u => ds_gn (by omega)))) (k1 := fun M1 r1 M2 r2 M3 r3 M4 r4 => hQ M4 ⟨r4.1, fun u => ?_, ?_, ?_⟩)
  · have s4 := (sgQ_0 u).1
    have s3 := exW_0 (nmQ_0 (q := exW n b 3 (choQ2 n b q)) s4).1
    have s2 := exW_0 (nmQ_0 (q := exW n b 2 (choQ1 n b q)) s3).1
    have v1 := cV_eq (q := exW n b 1 q) s2 (by omega)
    have v2 := cV_eq (q := exW n b 2 (choQ1 n b q)) s3 (by omega)
    have v3 := cV_eq (q := exW n b 3 (choQ2 n b q)) s4 (by omega)
    have e : ∀ a j, 3 ≤ a → a ≤ 23 → ¬ (a = 3 ∧ (j = 1 ∨ j = 2 ∨ j = 3)) → M4 a j = M a j := fun a j q1 q2 q3 => by
      rw [r4.2 _ _ (by unfold FP; omega), ds_gn (by omega), r3.2 _ _ (by unfold FP; omega), ds_gn (by omega), r2.2 _ _ (by unfold FP; omega), ds_gn (by omega)]; exact r1.2 _ _ (by unfold FP; omega)
    obtain ⟨d1, d2, d3, d4, d5, d6⟩ := hd
    refine ⟨⟨?_, ?_, ?_, ?_, ?_, ?_⟩, ?_, ?_, ?_, ?_, ?_⟩
    · rw [e _ _ (by omega) (by omega) (by omega)]; exact d1.1
    · rw [r4.2 _ _ (by unfold FP; omega), ds_gn (by omega), r3.2 _ _ (by unfold FP; omega), ds_gn (by omega), r2.2 _ _ (by unfold FP; omega), ds_ge ⟨rfl, rfl⟩]; exact v1
    · rw [r4.2 _ _ (by unfold FP; omega), ds_gn (by omega), r3.2 _ _ (by unfold FP; omega), ds_ge ⟨rfl, rfl⟩]; exact v2
    · rw [r4.2 _ _ (by unfold FP; omega), ds_ge ⟨rfl, rfl⟩]; exact v3
    · rw [e _ _ (by omega) (by omega) (by omega)]; exact d1.2.2.2.2.1
    · rw [e _ _ (by omega) (by omega) (by omega)]; exact d1.2.2.2.2.2
    · intro w w0 w1; rw [e _ _ (by omega) (by omega) (by omega), e _ _ (by omega) (by omega) (by omega)]; exact d2 w w0 w1
    · intro w w0 w1; rw [e _ _ (by omega) (by omega) (by omega), e _ _ (by omega) (by omega) (by omega), e _ _ (by omega) (by omega) (by omega)]; exact d3 w w0 w1
    · refine ⟨by rw [e _ _ (by omega) (by omega) (by omega)]; exact d4.1, fun i i0 i1 => ?_⟩
      iterate 4 rw [e _ _ (by omega) (by omega) (by omega)]
      exact d4.2 i i0 i1
    · refine ⟨by rw [e _ _ (by omega) (by omega) (by omega)]; exact d5.1, fun i i0 i1 => ?_⟩
      iterate 4 rw [e _ _ (by omega) (by omega) (by omega)]
      exact d5.2 i i0 i1
    · refine ⟨by rw [e _ _ (by omega) (by omega) (by omega)]; exact d6.1, fun i i0 i1 => ?_⟩
      iterate 4 rw [e _ _ (by omega) (by omega) (by omega)]
      exact d6.2 i i0 i1
  · rw [r4.2 _ _ (by unfold FP; omega), ds_gn (by omega), r3.2 _ _ (by unfold FP; omega), ds_gn (by omega), r2.2 _ _ (by unfold FP; omega), ds_gn (by omega)]; exact r1.2 _ _ (by unfold FP; omega)
  · exact Fr_trans (Fr_set (Fr_trans (Fr_set (Fr_trans (Fr_set (FP_l r1.2) (Or.inr (by omega))) (FP_l r2.2)) (Or.inr (by omega))) (FP_l r3.2)) (Or.inr (by omega))) (FP_l r4.2)
theorem addW_ct {M : dsMem} {x y c : Int} (hc : M 3 4 = c) (h : 0 ≤ c ∧ c ≤ 3) : bCt 66 [uR 4 3, uI x, uI y] M (fun _ => []) (fun M' => M' = if c < 3 then dsSet (dsSet (dsSet M 4 c x) 5 c y) 3 4 (c + 1) else M) := by
  intro Q hQ
  refine r66_0 (k1 := fun q => hQ M (by rw [if_neg (by omega)])) (s1 := fun q => by omega) (s2 := fun q => by omega) (k2 := fun q => hQ _ ?_)
  rw [if_pos (by omega), hc]; rfl
theorem addS_ct {M : dsMem} {x y z c : Int} (hc : M 3 5 = c) (h : 0 ≤ c ∧ c ≤ 6) : bCt 67 [uR 4 3, uI x, uI y, uI z] M (fun _ => []) (fun M' => M' = if c < 6 then dsSet (dsSet (dsSet (dsSet M 6 c x) 7 c y) 8 c z) 3 5 (c + 1) else M) := by
  intro Q hQ
  refine r67_0 (k1 := fun q => hQ M (by rw [if_neg (by omega)])) (s1 := fun q => by omega) (s2 := fun q => by omega) (k2 := fun q => hQ _ ?_)
  rw [if_pos (by omega), hc]; rfl
theorem wal_ct {M : dsMem} {n f : Int} {b : Int → Int} {q : psT} {W : dsW} (hq : q.1 = 0) (h : CQs M n b q) (h4 : M 1 4 = f) (hd : D3 M W) (hW : 0 ≤ wW W ∧ wW W ≤ 3) : bCt 48 [uR 6 1, uR 4 3, uX 0, uX 0] M (fun _ => []) (LnP M n b (if wW W < 3 then sgQ n b (walQ2 n b q) else (3, f, q.2.2)) (walW n b W q)) := by
  intro Q hQ
  have d4 : M 3 4 = wW W := hd.1.2.2.2.2.1
  by_cases hc : wW W < 3
  · rw [if_pos hc] at hQ
    have hq1 : ∀ M1, M1 = M → CQs M1 n b q := fun M1 r => by rw [r]; exact h
    have hF : ∀ M1 M2 M3 M4, M1 = M → Fr FP M1 M2 → Fr FP M2 M3 → Fr FP M3 M4 → Fr FP M M4 := fun M1 M2 M3 M4 r1 r2 r3 r4 => by rw [r1] at r2; exact Fr_trans (Fr_trans r2 r3) r4
    refine r48_0 (R6 := fun _ => False) (R7 := fun _ _ => False) (g7 := fun _ _ => 0) (R8 := fun _ _ _ => False) (g8 := fun _ _ _ => 0) (R9 := fun _ _ _ _ => False) (R10 := fun _ _ _ _ _ => False) (hA1 := fun _ => fi0_ct rfl) (hA2 := fun _ M1 r1 => nb_ct (k := 5) (by omega) (hq1 M1 r1) (by omega) (by omega)) (hA3 := fun _ M1 r1 M2 r2 => nb_ct (k := 6) (q := walQ1 n b q) (by omega) r2.1 (by omega) (by omega)) (hA4 := fun _ M1 r1 M2 r2 M3 r3 => sg_ct (q := walQ2 n b q) r3.1) (hA5 := fun _ M1 r1 M2 r2 M3 r3 M4 r4 => addW_ct (c := wW W) (by rw [hF M1 M2 M3 M4 r1 r2.2 r3.2 r4.2 _ _ (by unfold FP; omega)]; exact d4) hW) (k1 := fun _ M1 r1 M2 r2 M3 r3 M4 r4 M5 r5 => ?_) (hA6 := fun u => by omega) (hA7 := fun u => by omega) (hA8 := fun u => by omega) (hA9 := fun u => by omega) (hA10 := fun u => by omega) (k2 := fun u => by omega)
    have f4 := hF M1 M2 M3 M4 r1 r2.2 r3.2 r4.2
    rw [if_pos hc] at r5
    have d5 := D3_p hd f4
    subst r5
    refine hQ _ ⟨CQs_fr r4.1 (fun a j u => by rw [ds_gn (by omega), ds_gn (by omega), ds_gn (by omega)]), fun u => ?_, by rw [ds_gn (by omega), ds_gn (by omega), ds_gn (by omega)]; exact f4 _ _ (by unfold FP; omega), Fr_set (Fr_set (Fr_set (FP_l f4) (Or.inr (by omega))) (Or.inr (by omega))) (Or.inr (by omega))⟩
    have s3 := (sgQ_0 u).1
    have s2 := exW_0 (nmQ_0 (q := exW n b 6 (walQ1 n b q)) s3).1
    have v1 := cV_eq (q := exW n b 5 q) s2 (by omega)
    have v2 := cV_eq (q := exW n b 6 (walQ1 n b q)) s3 (by omega)
    have e : ∀ a j, ¬ (a = 4 ∧ j = wW W) → ¬ (a = 5 ∧ j = wW W) → ¬ (a = 3 ∧ j = 4) → dsSet (dsSet (dsSet M4 4 (wW W) (cV n b (exW n b 5 q))) 5 (wW W) (cV n b (exW n b 6 (walQ1 n b q)))) 3 4 (wW W + 1) a j = M4 a j := fun a j u1 u2 u3 => by rw [ds_gn (by omega), ds_gn (by omega), ds_gn (by omega)]
    obtain ⟨x1, x2, x3, x4, x5, x6⟩ := d5
    refine ⟨⟨?_, ?_, ?_, ?_, ?_, ?_⟩, fun w w0 w1 => ?_, fun s s0 s1 => ?_, ?_, ?_, ?_⟩
    · rw [e _ _ (by omega) (by omega) (by omega)]; exact x1.1
    · rw [e _ _ (by omega) (by omega) (by omega)]; exact x1.2.1
    · rw [e _ _ (by omega) (by omega) (by omega)]; exact x1.2.2.1
    · rw [e _ _ (by omega) (by omega) (by omega)]; exact x1.2.2.2.1
    · rw [ds_ge ⟨rfl, rfl⟩]; rfl
    · rw [e _ _ (by omega) (by omega) (by omega)]; exact x1.2.2.2.2.2
    · have w2 : w < wW W + 1 := w1
      show _ = dsUpd (wBe W) (wW W) (tbV n b 5 q) w ∧ _ = dsUpd (wGi W) (wW W) (tbV n b 6 (walQ1 n b q)) w
      by_cases hw : w = wW W
      · subst hw
        rw [upd_e, upd_e, ds_gn (by omega), ds_gn (by omega), ds_ge ⟨rfl, rfl⟩, ds_gn (by omega), ds_ge ⟨rfl, rfl⟩]
        exact ⟨v1, v2⟩
      · rw [upd_n _ _ hw, upd_n _ _ hw, e _ _ (by omega) (by omega) (by omega), e _ _ (by omega) (by omega) (by omega)]
        exact x2 w w0 (by omega)
    · rw [e _ _ (by omega) (by omega) (by omega), e _ _ (by omega) (by omega) (by omega), e _ _ (by omega) (by omega) (by omega)]; exact x3 s s0 s1
    · refine ⟨by rw [e _ _ (by omega) (by omega) (by omega)]; exact x4.1, fun i i0 i1 => ?_⟩
      iterate 4 rw [e _ _ (by omega) (by omega) (by omega)]
      exact x4.2 i i0 i1
    · refine ⟨by rw [e _ _ (by omega) (by omega) (by omega)]; exact x5.1, fun i i0 i1 => ?_⟩
      iterate 4 rw [e _ _ (by omega) (by omega) (by omega)]
      exact x5.2 i i0 i1
    · refine ⟨by rw [e _ _ (by omega) (by omega) (by omega)]; exact x6.1, fun i i0 i1 => ?_⟩
      iterate 4 rw [e _ _ (by omega) (by omega) (by omega)]
      exact x6.2 i i0 i1
  · rw [if_neg hc] at hQ
    have hq1 : ∀ M1, M1 = dsSet (dsSet M 1 1 3) 1 2 (M 1 4) → CQs M1 n b (3, f, q.2.2) ∧ Fr FP M M1 := fun M1 r => CQs_fail h.1 (by omega) h4 r
    have ex : ∀ k, exW n b k (3, f, q.2.2) = (3, f, q.2.2) := fun k => by unfold exW; rw [if_neg (by show ¬ (3 : Int) = 0; omega)]
    have nx : ∀ lo hi, nmQ n b lo hi (3, f, q.2.2) = (3, f, q.2.2) := fun lo hi => by unfold nmQ; rw [if_neg (by show ¬ (3 : Int) = 0; omega)]
    have sx : sgQ n b (3, f, q.2.2) = (3, f, q.2.2) := by unfold sgQ; rw [if_neg (by show ¬ (3 : Int) = 0; omega)]
    have hA : ∀ {M1 : dsMem} {k : Nat} {lo hi : Int}, k < 15 → 0 ≤ lo → hi < 1000000 → CQs M1 n b (3, f, q.2.2) → bCt 54 [uR 6 1, uX (k + 2), uI lo, uI hi] M1 (fun _ => [uI (cV n b (3, f, q.2.2))]) (fun M' => CQs M' n b (3, f, q.2.2) ∧ Fr FP M1 M') := fun {M1 k lo hi} hk hlo hh hc => by
      have := nb_ct (q := (3, f, q.2.2)) hk hc hlo hh
      rw [ex, nx] at this; exact this
    have hS : ∀ {M1 : dsMem}, CQs M1 n b (3, f, q.2.2) → bCt 56 [uR 6 1] M1 (fun _ => []) (fun M' => CQs M' n b (3, f, q.2.2) ∧ Fr FP M1 M') := fun {M1} hc => by
      have := sg_ct (q := (3, f, q.2.2)) hc
      rw [sx] at this; exact this
    refine r48_0 (R1 := fun _ => False) (R2 := fun _ _ => False) (g2 := fun _ _ => 0) (R3 := fun _ _ _ => False) (g3 := fun _ _ _ => 0) (R4 := fun _ _ _ _ => False) (R5 := fun _ _ _ _ _ => False) (hA1 := fun u => by omega) (hA2 := fun u => by omega) (hA3 := fun u => by omega) (hA4 := fun u => by omega) (hA5 := fun u => by omega) (k1 := fun u => by omega) (hA6 := fun _ => fi1_ct (by omega)) (hA7 := fun _ M1 r1 => hA (k := 5) (by omega) (by omega) (by omega) (hq1 M1 r1).1) (hA8 := fun _ M1 r1 M2 r2 => hA (k := 6) (by omega) (by omega) (by omega) r2.1) (hA9 := fun _ M1 r1 M2 r2 M3 r3 => hS r3.1) (hA10 := fun _ M1 r1 M2 r2 M3 r3 M4 r4 => addW_ct (c := wW W) (by rw [r4.2 _ _ (by unfold FP; omega), r3.2 _ _ (by unfold FP; omega), r2.2 _ _ (by unfold FP; omega), (hq1 M1 r1).2 _ _ (by unfold FP; omega)]; exact d4) hW) (k2 := fun _ M1 r1 M2 r2 M3 r3 M4 r4 M5 r5 => ?_)
    rw [if_neg hc] at r5
    subst r5
    have f4 : Fr FP M M5 := Fr_trans (Fr_trans (Fr_trans (hq1 M1 r1).2 r2.2) r3.2) r4.2
    exact hQ M5 ⟨r4.1, fun u => absurd u (by show ¬ (3 : Int) = 0; omega), f4 _ _ (by unfold FP; omega), FP_l f4⟩
