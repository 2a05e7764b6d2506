/-! the class's reader: stones, rains, taps, a line -/
theorem exW_f {n : Int} {b : Int → Int} {k : Nat} {q : psT} (h : q.1 ≠ 0) : exW n b k q = q := by unfold exW; rw [if_neg h]
theorem nmQ_f {n lo hi : Int} {b : Int → Int} {q : psT} (h : q.1 ≠ 0) : nmQ n b lo hi q = q := by unfold nmQ; rw [if_neg h]
theorem sgQ_f {n : Int} {b : Int → Int} {q : psT} (h : q.1 ≠ 0) : sgQ n b q = q := by unfold sgQ; rw [if_neg h]
def fiQ (x f : Int) (q : psT) : psT := if x = 0 then q else (3, f, q.2.2)
theorem fi_ct {M : dsMem} {x f n : Int} {b : Int → Int} {q : psT} (h : CQs M n b q) (h4 : M 1 4 = f) : bCt 52 [uR 6 1, uI x] M (fun _ => []) (fun M' => CQs M' n b (fiQ x f q) ∧ Fr FP M M') := by
  intro Q hQ
  by_cases hx : x = 0
  · exact fi0_ct hx Q (fun M' r => hQ M' (by rw [r]; unfold fiQ; rw [if_pos hx]; exact ⟨h, Fr_refl⟩))
  · exact fi1_ct hx Q (fun M' r => hQ M' (by unfold fiQ; rw [if_neg hx]; exact CQs_fail h.1 (by omega) h4 r))
theorem sto_ct {M : dsMem} {n f : Int} {b : Int → Int} {q : psT} {W : dsW} (h : CQs M n b q) (h4 : M 1 4 = f) (hd : D3 M W) (hW : 0 ≤ wN W ∧ wN W ≤ 6) (hW2 : 0 ≤ wW W ∧ wW W ≤ 3) : bCt 49 [uR 6 1, uR 4 3, uX 0, uX 0, uX 0] M (fun _ => []) (LnP M n b (if wN W < 6 then sgQ n b (stoQ3 n b W q) else (3, f, q.2.2)) (stoW n b W q)) := by
  intro Q hQ
  have d5 : M 3 5 = wN W := hd.1.2.2.2.2.2
  have d4 : M 3 4 = wW W := hd.1.2.2.2.2.1
  have fin : ∀ x M5 M6, (x = 0 ↔ wN W < 6) → CQs M5 n b (sgQ n b (stoQ3 n b W (fiQ x f q))) → Fr FP M M5 → (M6 = if wN W < 6 then dsSet (dsSet (dsSet (dsSet M5 6 (wN W) (cV n b (exW n b 8 (fiQ x f q)))) 7 (wN W) (cV n b (exW n b 9 (stoQ1 n b (fiQ x f q))))) 8 (wN W) (cV n b (exW n b 10 (stoQ2 n b (fiQ x f q))))) 3 5 (wN W + 1) else M5) → Q [] M6 := by
    intro x M5 M6 hx hq f5 r6
    by_cases hc : wN W < 6
    · rw [if_pos hc] at hQ r6
      have ex : fiQ x f q = q := by unfold fiQ; rw [if_pos (hx.2 hc)]
      rw [ex] at hq r6
      have dd := D3_p hd f5
      subst r6
      refine hQ _ ⟨CQs_fr hq (fun a j u => by rw [ds_gn (by omega), ds_gn (by omega), ds_gn (by omega), ds_gn (by omega)]), fun u => ?_, by rw [ds_gn (by omega), ds_gn (by omega), ds_gn (by omega), ds_gn (by omega)]; exact f5 _ _ (by unfold FP; omega), Fr_set (Fr_set (Fr_set (Fr_set (FP_l f5) (Or.inr (by omega))) (Or.inr (by omega))) (Or.inr (by omega))) (Or.inr (by omega))⟩
      have s4 := (sgQ_0 u).1
      have s3 := exW_0 (nmQ_0 (q := exW n b 10 (stoQ2 n b q)) s4).1
      have s2 := exW_0 (nmQ_0 (q := exW n b 9 (stoQ1 n b q)) s3).1
      have v1 := cV_eq (q := exW n b 8 q) s2 (by omega)
      have v2 := cV_eq (q := exW n b 9 (stoQ1 n b q)) s3 (by omega)
      have v3 := cV_eq (q := exW n b 10 (stoQ2 n b q)) s4 (by omega)
      have e : ∀ a j, ¬ ((a = 6 ∨ a = 7 ∨ a = 8) ∧ j = wN W) ∧ ¬ (a = 3 ∧ j = 5) → dsSet (dsSet (dsSet (dsSet M5 6 (wN W) (cV n b (exW n b 8 q))) 7 (wN W) (cV n b (exW n b 9 (stoQ1 n b q)))) 8 (wN W) (cV n b (exW n b 10 (stoQ2 n b q)))) 3 5 (wN W + 1) a j = M5 a j := fun a j u1 => by rw [ds_gn (by omega), ds_gn (by omega), ds_gn (by omega), ds_gn (by omega)]
      obtain ⟨x1, x2, x3, x4, x5, x6⟩ := dd
      refine ⟨⟨?_, ?_, ?_, ?_, ?_, ?_⟩, fun w w0 w1 => ?_, fun s s0 s1 => ?_, ?_, ?_, ?_⟩
      · rw [e _ _ (by omega)]; exact x1.1
      · rw [e _ _ (by omega)]; exact x1.2.1
      · rw [e _ _ (by omega)]; exact x1.2.2.1
      · rw [e _ _ (by omega)]; exact x1.2.2.2.1
      · rw [e _ _ (by omega)]; exact x1.2.2.2.2.1
      · rw [ds_ge ⟨rfl, rfl⟩]; rfl
      · rw [e _ _ (by omega), e _ _ (by omega)]; exact x2 w w0 w1
      · have s2 : s < wN W + 1 := s1
        show _ = dsUpd (wRo W) (wN W) (tbV n b 8 q) s ∧ _ = dsUpd (wWi W) (wN W) (tbV n b 9 (stoQ1 n b q)) s ∧ _ = dsUpd (wOn W) (wN W) (tbV n b 10 (stoQ2 n b q)) s
        by_cases hw : s = wN W
        · subst hw
          rw [upd_e, upd_e, upd_e]
          refine ⟨?_, ?_, ?_⟩
          · rw [ds_gn (by omega), ds_gn (by omega), ds_gn (by omega), ds_ge ⟨rfl, rfl⟩]; exact v1
          · rw [ds_gn (by omega), ds_gn (by omega), ds_ge ⟨rfl, rfl⟩]; exact v2
          · rw [ds_gn (by omega), ds_ge ⟨rfl, rfl⟩]; exact v3
        · rw [upd_n _ _ hw, upd_n _ _ hw, upd_n _ _ hw, e _ _ (by omega), e _ _ (by omega), e _ _ (by omega)]
          exact x3 s s0 (by omega)
      · refine ⟨by rw [e _ _ (by omega)]; exact x4.1, fun i i0 i1 => ?_⟩
        iterate 4 rw [e _ _ (by omega)]
        exact x4.2 i i0 i1
      · refine ⟨by rw [e _ _ (by omega)]; exact x5.1, fun i i0 i1 => ?_⟩
        iterate 4 rw [e _ _ (by omega)]
        exact x5.2 i i0 i1
      · refine ⟨by rw [e _ _ (by omega)]; exact x6.1, fun i i0 i1 => ?_⟩
        iterate 4 rw [e _ _ (by omega)]
        exact x6.2 i i0 i1
    · rw [if_neg hc] at hQ r6
      subst r6
      have ex : fiQ x f q = (3, f, q.2.2) := by unfold fiQ; rw [if_neg (fun u => hc (hx.1 u))]
      have n0 : ((3, f, q.2.2) : psT).1 ≠ 0 := by show (3 : Int) ≠ 0; omega
      rw [ex] at hq
      unfold stoQ3 stoQ2 stoQ1 tbQ at hq
      rw [exW_f n0, nmQ_f n0, exW_f n0, nmQ_f n0, exW_f n0, nmQ_f n0, sgQ_f n0] at hq
      exact hQ M6 ⟨hq, fun u => absurd u n0, f5 _ _ (by unfold FP; omega), FP_l f5⟩
  have k4 : ∀ M3, Fr FP M M3 → M3 3 4 = wW W ∧ M3 3 5 = wN W := fun M3 r => ⟨by rw [r _ _ (by unfold FP; omega)]; exact d4, by rw [r _ _ (by unfold FP; omega)]; exact d5⟩
  by_cases hc : wN W < 6
  · refine r49_0 (R7 := fun _ => False) (R8 := fun _ _ => False) (g8 := fun _ _ => 0) (R9 := fun _ _ _ => False) (g9 := fun _ _ _ => 0) (R10 := fun _ _ _ _ => False) (g10 := fun _ _ _ _ => 0) (R11 := fun _ _ _ _ _ => False) (R12 := fun _ _ _ _ _ _ => False) (hA1 := fun _ => fi_ct h h4) (hA2 := fun _ M1 r1 => nb_ct (k := 8) (by omega) r1.1 (by omega) (by omega)) (hA3 := fun _ M1 r1 M2 r2 => nb_ct (k := 9) (q := stoQ1 n b (fiQ 0 f q)) (by omega) r2.1 (by omega) (by omega)) (s1 := fun _ M1 r1 M2 r2 M3 r3 => by have := k4 M3 (Fr_trans (Fr_trans r1.2 r2.2) r3.2); omega) (hA4 := fun _ M1 r1 M2 r2 M3 r3 => by
        have := k4 M3 (Fr_trans (Fr_trans r1.2 r2.2) r3.2)
        rw [this.1]
        exact nb_ct (k := 10) (q := stoQ2 n b (fiQ 0 f q)) (by omega) r3.1 (by omega) (by omega)) (R4 := fun M1 M2 M3 M4 => CQs M4 n b (stoQ3 n b W (fiQ 0 f q)) ∧ Fr FP M3 M4) (g4 := fun _ _ _ _ => cV n b (exW n b 10 (stoQ2 n b (fiQ 0 f q)))) (hA5 := fun _ M1 r1 M2 r2 M3 r3 M4 r4 => sg_ct (q := stoQ3 n b W (fiQ 0 f q)) r4.1) (hA6 := fun _ M1 r1 M2 r2 M3 r3 M4 r4 M5 r5 => addS_ct (c := wN W) (k4 M5 (Fr_trans (Fr_trans (Fr_trans (Fr_trans r1.2 r2.2) r3.2) r4.2) r5.2)).2 hW) (k1 := fun _ M1 r1 M2 r2 M3 r3 M4 r4 M5 r5 M6 r6 => fin 0 M5 M6 ⟨fun _ => hc, fun _ => rfl⟩ r5.1 (Fr_trans (Fr_trans (Fr_trans (Fr_trans r1.2 r2.2) r3.2) r4.2) r5.2) r6) (hA7 := fun u => by omega) (hA8 := fun u => by omega) (hA9 := fun u => by omega) (s2 := fun u => by omega) (hA10 := fun u => by omega) (hA11 := fun u => by omega) (hA12 := fun u => by omega) (k2 := fun u => by omega)
  · refine r49_0 (R1 := fun _ => False) (R2 := fun _ _ => False) (g2 := fun _ _ => 0) (R3 := fun _ _ _ => False) (g3 := fun _ _ _ => 0) (R4 := fun _ _ _ _ => False) (g4 := fun _ _ _ _ => 0) (R5 := fun _ _ _ _ _ => False) (R6 := fun _ _ _ _ _ _ => False) (hA7 := fun _ => fi_ct h h4) (hA8 := fun _ M1 r1 => nb_ct (k := 8) (by omega) r1.1 (by omega) (by omega)) (hA9 := fun _ M1 r1 M2 r2 => nb_ct (k := 9) (q := stoQ1 n b (fiQ 1 f q)) (by omega) r2.1 (by omega) (by omega)) (s2 := fun _ M1 r1 M2 r2 M3 r3 => by have := k4 M3 (Fr_trans (Fr_trans r1.2 r2.2) r3.2); omega) (hA10 := fun _ M1 r1 M2 r2 M3 r3 => by
        have := k4 M3 (Fr_trans (Fr_trans r1.2 r2.2) r3.2)
        rw [this.1]
        exact nb_ct (k := 10) (q := stoQ2 n b (fiQ 1 f q)) (by omega) r3.1 (by omega) (by omega)) (R10 := fun M1 M2 M3 M4 => CQs M4 n b (stoQ3 n b W (fiQ 1 f q)) ∧ Fr FP M3 M4) (g10 := fun _ _ _ _ => cV n b (exW n b 10 (stoQ2 n b (fiQ 1 f q)))) (hA11 := fun _ M1 r1 M2 r2 M3 r3 M4 r4 => sg_ct (q := stoQ3 n b W (fiQ 1 f q)) r4.1) (hA12 := fun _ M1 r1 M2 r2 M3 r3 M4 r4 M5 r5 => addS_ct (c := wN W) (k4 M5 (Fr_trans (Fr_trans (Fr_trans (Fr_trans r1.2 r2.2) r3.2) r4.2) r5.2)).2 hW) (k2 := fun _ M1 r1 M2 r2 M3 r3 M4 r4 M5 r5 M6 r6 => fin 1 M5 M6 ⟨fun u => by omega, fun u => absurd u hc⟩ r5.1 (Fr_trans (Fr_trans (Fr_trans (Fr_trans r1.2 r2.2) r3.2) r4.2) r5.2) r6) (hA1 := fun u => by omega) (hA2 := fun u => by omega) (hA3 := fun u => by omega) (s1 := fun u => by omega) (hA4 := fun u => by omega) (hA5 := fun u => by omega) (hA6 := fun u => by omega) (k1 := fun u => by omega)
theorem putrai_ct {M : dsMem} {x1 x2 x3 x4 c : Int} (hc : M 9 0 = c) (h : 0 ≤ c ∧ c ≤ 8) : bCt 4 [uR 1 9, uI x1, uI x2, uI x3, uI x4] M (fun _ => []) (fun M' => M' = if c < 8 then dsSet (dsSet (dsSet (dsSet (dsSet M 10 c x1) 11 c x2) 12 c x3) 13 c x4) 9 0 (c + 1) else M) := by
  intro Q hQ
  refine r4a_0 (s1 := fun _ => by omega) (k1 := fun q => hQ _ ?_) (k2 := fun q => hQ M (by rw [if_neg (by omega)]))
  rw [if_pos (by omega), hc]; rfl
theorem rai_ct {M : dsMem} {n f : Int} {b : Int → Int} {q : psT} {W : dsW} (h : CQs M n b q) (h4 : M 1 4 = f) (hd : D3 M W) (hW : 0 ≤ evN (wR W) ∧ evN (wR W) ≤ 8) : bCt 50 [uR 6 1, uR 4 3, uX 0, uX 0, uX 0] M (fun _ => []) (LnP M n b (if evN (wR W) < 8 then sgQ n b (raiQ3 n b q) else (3, f, q.2.2)) (raiW n b W q)) := by
  intro Q hQ
  have dE : M 9 0 = evN (wR W) := hd.2.2.2.1.1
  have d5 : M 3 5 = wN W := hd.1.2.2.2.2.2
  have fin : ∀ x M5 M6, (x = 0 ↔ evN (wR W) < 8) → CQs M5 n b (sgQ n b (raiQ3 n b (fiQ x f q))) → Fr FP M M5 → (M6 = if evN (wR W) < 8 then dsSet (dsSet (dsSet (dsSet (dsSet M5 10 (evN (wR W)) 0) 11 (evN (wR W)) (cV n b (exW n b 12 (raiQ1 n b (fiQ x f q))))) 12 (evN (wR W)) (cV n b (fiQ x f q))) 13 (evN (wR W)) (cV n b (exW n b 13 (raiQ2 n b (fiQ x f q))))) 9 0 (evN (wR W) + 1) else M5) → Q [] M6 := by
    intro x M5 M6 hx hq f5 r6
    by_cases hc : evN (wR W) < 8
    · rw [if_pos hc] at hQ r6
      have ex : fiQ x f q = q := by unfold fiQ; rw [if_pos (hx.2 hc)]
      rw [ex] at hq r6
      have dd := D3_p hd f5
      subst r6
      refine hQ _ ⟨CQs_fr hq (fun a j u => by rw [ds_gn (by omega), ds_gn (by omega), ds_gn (by omega), ds_gn (by omega), ds_gn (by omega)]), fun u => ?_, by rw [ds_gn (by omega), ds_gn (by omega), ds_gn (by omega), ds_gn (by omega), ds_gn (by omega)]; exact f5 _ _ (by unfold FP; omega), Fr_set (Fr_set (Fr_set (Fr_set (Fr_set (FP_l f5) (Or.inr (by omega))) (Or.inr (by omega))) (Or.inr (by omega))) (Or.inr (by omega))) (Or.inr (by omega))⟩
      have s4 := (sgQ_0 u).1
      have s3 := exW_0 (nmQ_0 (q := exW n b 13 (raiQ2 n b q)) s4).1
      have s2 := exW_0 (nmQ_0 (q := exW n b 12 (raiQ1 n b q)) s3).1
      have vM := cV_eq (q := q) s2 (by omega)
      have vO := cV_eq (q := exW n b 12 (raiQ1 n b q)) s3 (by omega)
      have vY := cV_eq (q := exW n b 13 (raiQ2 n b q)) s4 (by omega)
      have e : ∀ a j, ¬ (10 ≤ a ∧ a ≤ 13 ∧ j = evN (wR W)) ∧ ¬ (a = 9 ∧ j = 0) → (dsSet (dsSet (dsSet (dsSet (dsSet M5 10 (evN (wR W)) 0) 11 (evN (wR W)) (cV n b (exW n b 12 (raiQ1 n b q)))) 12 (evN (wR W)) (cV n b q)) 13 (evN (wR W)) (cV n b (exW n b 13 (raiQ2 n b q)))) 9 0 (evN (wR W) + 1)) a j = M5 a j := fun a j u1 => by rw [ds_gn (by omega), ds_gn (by omega), ds_gn (by omega), ds_gn (by omega), ds_gn (by omega)]
      obtain ⟨x1, x2, x3, x4, x5, x6⟩ := dd
      have mineH : dsSet (dsSet (dsSet (dsSet (dsSet M5 10 (evN (wR W)) 0) 11 (evN (wR W)) (cV n b (exW n b 12 (raiQ1 n b q)))) 12 (evN (wR W)) (cV n b q)) 13 (evN (wR W)) (cV n b (exW n b 13 (raiQ2 n b q)))) 9 0 (evN (wR W) + 1) 9 0 = evN (evAdd (wR W) 0 (tbV n b 12 (raiQ1 n b q)) (nmV n b q) (tbV n b 13 (raiQ2 n b q))) ∧ ∀ i, 0 ≤ i → i < evN (evAdd (wR W) 0 (tbV n b 12 (raiQ1 n b q)) (nmV n b q) (tbV n b 13 (raiQ2 n b q))) → (dsSet (dsSet (dsSet (dsSet (dsSet M5 10 (evN (wR W)) 0) 11 (evN (wR W)) (cV n b (exW n b 12 (raiQ1 n b q)))) 12 (evN (wR W)) (cV n b q)) 13 (evN (wR W)) (cV n b (exW n b 13 (raiQ2 n b q)))) 9 0 (evN (wR W) + 1)) 10 i = evK (evAdd (wR W) 0 (tbV n b 12 (raiQ1 n b q)) (nmV n b q) (tbV n b 13 (raiQ2 n b q))) i ∧ (dsSet (dsSet (dsSet (dsSet (dsSet M5 10 (evN (wR W)) 0) 11 (evN (wR W)) (cV n b (exW n b 12 (raiQ1 n b q)))) 12 (evN (wR W)) (cV n b q)) 13 (evN (wR W)) (cV n b (exW n b 13 (raiQ2 n b q)))) 9 0 (evN (wR W) + 1)) 11 i = evO (evAdd (wR W) 0 (tbV n b 12 (raiQ1 n b q)) (nmV n b q) (tbV n b 13 (raiQ2 n b q))) i ∧ (dsSet (dsSet (dsSet (dsSet (dsSet M5 10 (evN (wR W)) 0) 11 (evN (wR W)) (cV n b (exW n b 12 (raiQ1 n b q)))) 12 (evN (wR W)) (cV n b q)) 13 (evN (wR W)) (cV n b (exW n b 13 (raiQ2 n b q)))) 9 0 (evN (wR W) + 1)) 12 i = evM (evAdd (wR W) 0 (tbV n b 12 (raiQ1 n b q)) (nmV n b q) (tbV n b 13 (raiQ2 n b q))) i ∧ (dsSet (dsSet (dsSet (dsSet (dsSet M5 10 (evN (wR W)) 0) 11 (evN (wR W)) (cV n b (exW n b 12 (raiQ1 n b q)))) 12 (evN (wR W)) (cV n b q)) 13 (evN (wR W)) (cV n b (exW n b 13 (raiQ2 n b q)))) 9 0 (evN (wR W) + 1)) 13 i = evY (evAdd (wR W) 0 (tbV n b 12 (raiQ1 n b q)) (nmV n b q) (tbV n b 13 (raiQ2 n b q))) i := by
        refine ⟨by rw [ds_ge ⟨rfl, rfl⟩]; rfl, fun i i0 i1 => ?_⟩
        have i2 : i < evN (wR W) + 1 := i1
        show _ = dsUpd (evK (wR W)) (evN (wR W)) 0 i ∧ _ = dsUpd (evO (wR W)) (evN (wR W)) (tbV n b 12 (raiQ1 n b q)) i ∧ _ = dsUpd (evM (wR W)) (evN (wR W)) (nmV n b q) i ∧ _ = dsUpd (evY (wR W)) (evN (wR W)) (tbV n b 13 (raiQ2 n b q)) i
        by_cases hw : i = evN (wR W)
        · subst hw
          rw [upd_e, upd_e, upd_e, upd_e]
          refine ⟨?_, ?_, ?_, ?_⟩
          · rw [ds_gn (by omega), ds_gn (by omega), ds_gn (by omega), ds_gn (by omega), ds_ge ⟨rfl, rfl⟩]
          · rw [ds_gn (by omega), ds_gn (by omega), ds_gn (by omega), ds_ge ⟨rfl, rfl⟩]; exact vO
          · rw [ds_gn (by omega), ds_gn (by omega), ds_ge ⟨rfl, rfl⟩]; exact vM
          · rw [ds_gn (by omega), ds_ge ⟨rfl, rfl⟩]; exact vY
        · rw [upd_n _ _ hw, upd_n _ _ hw, upd_n _ _ hw, upd_n _ _ hw, e _ _ (by omega), e _ _ (by omega), e _ _ (by omega), e _ _ (by omega)]
          exact x4.2 i i0 (by omega)
      have othH : (dsSet (dsSet (dsSet (dsSet (dsSet M5 10 (evN (wR W)) 0) 11 (evN (wR W)) (cV n b (exW n b 12 (raiQ1 n b q)))) 12 (evN (wR W)) (cV n b q)) 13 (evN (wR W)) (cV n b (exW n b 13 (raiQ2 n b q)))) 9 0 (evN (wR W) + 1)) 14 0 = evN (wT W) ∧ ∀ i, 0 ≤ i → i < evN (wT W) → (dsSet (dsSet (dsSet (dsSet (dsSet M5 10 (evN (wR W)) 0) 11 (evN (wR W)) (cV n b (exW n b 12 (raiQ1 n b q)))) 12 (evN (wR W)) (cV n b q)) 13 (evN (wR W)) (cV n b (exW n b 13 (raiQ2 n b q)))) 9 0 (evN (wR W) + 1)) 15 i = evK (wT W) i ∧ (dsSet (dsSet (dsSet (dsSet (dsSet M5 10 (evN (wR W)) 0) 11 (evN (wR W)) (cV n b (exW n b 12 (raiQ1 n b q)))) 12 (evN (wR W)) (cV n b q)) 13 (evN (wR W)) (cV n b (exW n b 13 (raiQ2 n b q)))) 9 0 (evN (wR W) + 1)) 16 i = evO (wT W) i ∧ (dsSet (dsSet (dsSet (dsSet (dsSet M5 10 (evN (wR W)) 0) 11 (evN (wR W)) (cV n b (exW n b 12 (raiQ1 n b q)))) 12 (evN (wR W)) (cV n b q)) 13 (evN (wR W)) (cV n b (exW n b 13 (raiQ2 n b q)))) 9 0 (evN (wR W) + 1)) 17 i = evM (wT W) i ∧ (dsSet (dsSet (dsSet (dsSet (dsSet M5 10 (evN (wR W)) 0) 11 (evN (wR W)) (cV n b (exW n b 12 (raiQ1 n b q)))) 12 (evN (wR W)) (cV n b q)) 13 (evN (wR W)) (cV n b (exW n b 13 (raiQ2 n b q)))) 9 0 (evN (wR W) + 1)) 18 i = evY (wT W) i := by
        refine ⟨by rw [e _ _ (by omega)]; exact x5.1, fun i i0 i1 => ?_⟩
        rw [e _ _ (by omega), e _ _ (by omega), e _ _ (by omega), e _ _ (by omega)]
        exact x5.2 i i0 i1
      refine ⟨⟨?_, ?_, ?_, ?_, ?_, ?_⟩, fun w w0 w1 => ?_, fun s s0 s1 => ?_, mineH, othH, ?_⟩
      · rw [e _ _ (by omega)]; exact x1.1
      · rw [e _ _ (by omega)]; exact x1.2.1
      · rw [e _ _ (by omega)]; exact x1.2.2.1
      · rw [e _ _ (by omega)]; exact x1.2.2.2.1
      · rw [e _ _ (by omega)]; exact x1.2.2.2.2.1
      · rw [e _ _ (by omega)]; exact x1.2.2.2.2.2
      · rw [e _ _ (by omega), e _ _ (by omega)]; exact x2 w w0 w1
      · rw [e _ _ (by omega), e _ _ (by omega), e _ _ (by omega)]; exact x3 s s0 s1
      · refine ⟨by rw [e _ _ (by omega)]; exact x6.1, fun i i0 i1 => ?_⟩
        rw [e _ _ (by omega), e _ _ (by omega), e _ _ (by omega), e _ _ (by omega)]
        exact x6.2 i i0 i1
    · rw [if_neg hc] at hQ r6
      subst r6
      have ex : fiQ x f q = (3, f, q.2.2) := by unfold fiQ; rw [if_neg (fun u => hc (hx.1 u))]
      have n0 : ((3, f, q.2.2) : psT).1 ≠ 0 := by show (3 : Int) ≠ 0; omega
      rw [ex] at hq
      unfold raiQ3 raiQ2 raiQ1 tbQ at hq
      rw [nmQ_f n0, exW_f n0, nmQ_f n0, exW_f n0, nmQ_f n0, sgQ_f n0] at hq
      exact hQ M6 ⟨hq, fun u => absurd u n0, f5 _ _ (by unfold FP; omega), FP_l f5⟩
  have hx : (if (¬ ((M 9 0) < 8)) then (1 : Int) else 0) = 0 ↔ evN (wR W) < 8 := by
    rw [dE]
    split <;> omega
  exact r50_0 (hA1 := fi_ct h h4) (hA2 := fun M1 r1 => rn_ct r1.1 (by omega) (by omega)) (hA3 := fun M1 r1 M2 r2 => nb_ct (k := 12) (q := raiQ1 n b (fiQ (if (¬ ((M 9 0) < 8)) then (1 : Int) else 0) f q)) (by omega) r2.1 (by omega) (by omega)) (hA4 := fun M1 r1 M2 r2 M3 r3 => nb_ct (k := 13) (q := raiQ2 n b (fiQ (if (¬ ((M 9 0) < 8)) then (1 : Int) else 0) f q)) (by omega) r3.1 (by omega) (by omega)) (hA5 := fun M1 r1 M2 r2 M3 r3 M4 r4 => sg_ct (q := raiQ3 n b (fiQ (if (¬ ((M 9 0) < 8)) then (1 : Int) else 0) f q)) r4.1) (hA6 := fun M1 r1 M2 r2 M3 r3 M4 r4 M5 r5 => putrai_ct (c := evN (wR W)) (by rw [Fr_trans (Fr_trans (Fr_trans (Fr_trans r1.2 r2.2) r3.2) r4.2) r5.2 _ _ (by unfold FP; omega)]; exact dE) hW) (k1 := fun M1 r1 M2 r2 M3 r3 M4 r4 M5 r5 M6 r6 => fin (if (¬ ((M 9 0) < 8)) then (1 : Int) else 0) M5 M6 hx r5.1 (Fr_trans (Fr_trans (Fr_trans (Fr_trans r1.2 r2.2) r3.2) r4.2) r5.2) r6)
theorem puttap_ct {M : dsMem} {x1 x2 x3 x4 c : Int} (hc : M 14 0 = c) (h : 0 ≤ c ∧ c ≤ 6) : bCt 4 [uR 2 14, uI x1, uI x2, uI x3, uI x4] M (fun _ => []) (fun M' => M' = if c < 6 then dsSet (dsSet (dsSet (dsSet (dsSet M 15 c x1) 16 c x2) 17 c x3) 18 c x4) 14 0 (c + 1) else M) := by
  intro Q hQ
  refine r4b_0 (s1 := fun _ => by omega) (k1 := fun q => hQ _ ?_) (k2 := fun q => hQ M (by rw [if_neg (by omega)]))
  rw [if_pos (by omega), hc]; rfl
theorem tap_ct {M : dsMem} {n f : Int} {b : Int → Int} {q : psT} {W : dsW} (h : CQs M n b q) (h4 : M 1 4 = f) (hd : D3 M W) (hW : 0 ≤ evN (wT W) ∧ evN (wT W) ≤ 6) (hW2 : 0 ≤ wN W ∧ wN W ≤ 6) : bCt 51 [uR 6 1, uR 4 3, uX 0, uX 0, uX 0] M (fun _ => []) (LnP M n b (if evN (wT W) < 6 then sgQ n b (tapQ3 n b W q) else (3, f, q.2.2)) (tapW n b W q)) := by
  intro Q hQ
  have dE : M 14 0 = evN (wT W) := hd.2.2.2.2.1.1
  have d5 : M 3 5 = wN W := hd.1.2.2.2.2.2
  have fin : ∀ x M5 M6, (x = 0 ↔ evN (wT W) < 6) → CQs M5 n b (sgQ n b (tapQ3 n b W (fiQ x f q))) → Fr FP M M5 → (M6 = if evN (wT W) < 6 then dsSet (dsSet (dsSet (dsSet (dsSet M5 15 (evN (wT W)) 1) 16 (evN (wT W)) (cV n b (fiQ x f q))) 17 (evN (wT W)) (cV n b (tapQ1 n b W (fiQ x f q)))) 18 (evN (wT W)) (cV n b (exW n b 13 (tapQ2 n b W (fiQ x f q))))) 14 0 (evN (wT W) + 1) else M5) → Q [] M6 := by
    intro x M5 M6 hx hq f5 r6
    by_cases hc : evN (wT W) < 6
    · rw [if_pos hc] at hQ r6
      have ex : fiQ x f q = q := by unfold fiQ; rw [if_pos (hx.2 hc)]
      rw [ex] at hq r6
      have dd := D3_p hd f5
      subst r6
      refine hQ _ ⟨CQs_fr hq (fun a j u => by rw [ds_gn (by omega), ds_gn (by omega), ds_gn (by omega), ds_gn (by omega), ds_gn (by omega)]), fun u => ?_, by rw [ds_gn (by omega), ds_gn (by omega), ds_gn (by omega), ds_gn (by omega), ds_gn (by omega)]; exact f5 _ _ (by unfold FP; omega), Fr_set (Fr_set (Fr_set (Fr_set (Fr_set (FP_l f5) (Or.inr (by omega))) (Or.inr (by omega))) (Or.inr (by omega))) (Or.inr (by omega))) (Or.inr (by omega))⟩
      have s4 := (sgQ_0 u).1
      have s3 := exW_0 (nmQ_0 (q := exW n b 13 (tapQ2 n b W q)) s4).1
      have s2 := (nmQ_0 (q := tapQ1 n b W q) s3).1
      have vO := cV_eq (q := q) s2 (by omega)
      have vM := cV_eq (q := tapQ1 n b W q) s3 (by omega)
      have vY := cV_eq (q := exW n b 13 (tapQ2 n b W q)) s4 (by omega)
      have e : ∀ a j, ¬ (15 ≤ a ∧ a ≤ 18 ∧ j = evN (wT W)) ∧ ¬ (a = 14 ∧ j = 0) → (dsSet (dsSet (dsSet (dsSet (dsSet M5 15 (evN (wT W)) 1) 16 (evN (wT W)) (cV n b q)) 17 (evN (wT W)) (cV n b (tapQ1 n b W q))) 18 (evN (wT W)) (cV n b (exW n b 13 (tapQ2 n b W q)))) 14 0 (evN (wT W) + 1)) a j = M5 a j := fun a j u1 => by rw [ds_gn (by omega), ds_gn (by omega), ds_gn (by omega), ds_gn (by omega), ds_gn (by omega)]
      obtain ⟨x1, x2, x3, x4, x5, x6⟩ := dd
      have mineH : dsSet (dsSet (dsSet (dsSet (dsSet M5 15 (evN (wT W)) 1) 16 (evN (wT W)) (cV n b q)) 17 (evN (wT W)) (cV n b (tapQ1 n b W q))) 18 (evN (wT W)) (cV n b (exW n b 13 (tapQ2 n b W q)))) 14 0 (evN (wT W) + 1) 14 0 = evN (evAdd (wT W) 1 (nmV n b q) (nmV n b (tapQ1 n b W q)) (tbV n b 13 (tapQ2 n b W q))) ∧ ∀ i, 0 ≤ i → i < evN (evAdd (wT W) 1 (nmV n b q) (nmV n b (tapQ1 n b W q)) (tbV n b 13 (tapQ2 n b W q))) → (dsSet (dsSet (dsSet (dsSet (dsSet M5 15 (evN (wT W)) 1) 16 (evN (wT W)) (cV n b q)) 17 (evN (wT W)) (cV n b (tapQ1 n b W q))) 18 (evN (wT W)) (cV n b (exW n b 13 (tapQ2 n b W q)))) 14 0 (evN (wT W) + 1)) 15 i = evK (evAdd (wT W) 1 (nmV n b q) (nmV n b (tapQ1 n b W q)) (tbV n b 13 (tapQ2 n b W q))) i ∧ (dsSet (dsSet (dsSet (dsSet (dsSet M5 15 (evN (wT W)) 1) 16 (evN (wT W)) (cV n b q)) 17 (evN (wT W)) (cV n b (tapQ1 n b W q))) 18 (evN (wT W)) (cV n b (exW n b 13 (tapQ2 n b W q)))) 14 0 (evN (wT W) + 1)) 16 i = evO (evAdd (wT W) 1 (nmV n b q) (nmV n b (tapQ1 n b W q)) (tbV n b 13 (tapQ2 n b W q))) i ∧ (dsSet (dsSet (dsSet (dsSet (dsSet M5 15 (evN (wT W)) 1) 16 (evN (wT W)) (cV n b q)) 17 (evN (wT W)) (cV n b (tapQ1 n b W q))) 18 (evN (wT W)) (cV n b (exW n b 13 (tapQ2 n b W q)))) 14 0 (evN (wT W) + 1)) 17 i = evM (evAdd (wT W) 1 (nmV n b q) (nmV n b (tapQ1 n b W q)) (tbV n b 13 (tapQ2 n b W q))) i ∧ (dsSet (dsSet (dsSet (dsSet (dsSet M5 15 (evN (wT W)) 1) 16 (evN (wT W)) (cV n b q)) 17 (evN (wT W)) (cV n b (tapQ1 n b W q))) 18 (evN (wT W)) (cV n b (exW n b 13 (tapQ2 n b W q)))) 14 0 (evN (wT W) + 1)) 18 i = evY (evAdd (wT W) 1 (nmV n b q) (nmV n b (tapQ1 n b W q)) (tbV n b 13 (tapQ2 n b W q))) i := by
        refine ⟨by rw [ds_ge ⟨rfl, rfl⟩]; rfl, fun i i0 i1 => ?_⟩
        have i2 : i < evN (wT W) + 1 := i1
        show _ = dsUpd (evK (wT W)) (evN (wT W)) 1 i ∧ _ = dsUpd (evO (wT W)) (evN (wT W)) (nmV n b q) i ∧ _ = dsUpd (evM (wT W)) (evN (wT W)) (nmV n b (tapQ1 n b W q)) i ∧ _ = dsUpd (evY (wT W)) (evN (wT W)) (tbV n b 13 (tapQ2 n b W q)) i
        by_cases hw : i = evN (wT W)
        · subst hw
          rw [upd_e, upd_e, upd_e, upd_e]
          refine ⟨?_, ?_, ?_, ?_⟩
          · rw [ds_gn (by omega), ds_gn (by omega), ds_gn (by omega), ds_gn (by omega), ds_ge ⟨rfl, rfl⟩]
          · rw [ds_gn (by omega), ds_gn (by omega), ds_gn (by omega), ds_ge ⟨rfl, rfl⟩]; exact vO
          · rw [ds_gn (by omega), ds_gn (by omega), ds_ge ⟨rfl, rfl⟩]; exact vM
          · rw [ds_gn (by omega), ds_ge ⟨rfl, rfl⟩]; exact vY
        · rw [upd_n _ _ hw, upd_n _ _ hw, upd_n _ _ hw, upd_n _ _ hw, e _ _ (by omega), e _ _ (by omega), e _ _ (by omega), e _ _ (by omega)]
          exact x5.2 i i0 (by omega)
      have othH : (dsSet (dsSet (dsSet (dsSet (dsSet M5 15 (evN (wT W)) 1) 16 (evN (wT W)) (cV n b q)) 17 (evN (wT W)) (cV n b (tapQ1 n b W q))) 18 (evN (wT W)) (cV n b (exW n b 13 (tapQ2 n b W q)))) 14 0 (evN (wT W) + 1)) 9 0 = evN (wR W) ∧ ∀ i, 0 ≤ i → i < evN (wR W) → (dsSet (dsSet (dsSet (dsSet (dsSet M5 15 (evN (wT W)) 1) 16 (evN (wT W)) (cV n b q)) 17 (evN (wT W)) (cV n b (tapQ1 n b W q))) 18 (evN (wT W)) (cV n b (exW n b 13 (tapQ2 n b W q)))) 14 0 (evN (wT W) + 1)) 10 i = evK (wR W) i ∧ (dsSet (dsSet (dsSet (dsSet (dsSet M5 15 (evN (wT W)) 1) 16 (evN (wT W)) (cV n b q)) 17 (evN (wT W)) (cV n b (tapQ1 n b W q))) 18 (evN (wT W)) (cV n b (exW n b 13 (tapQ2 n b W q)))) 14 0 (evN (wT W) + 1)) 11 i = evO (wR W) i ∧ (dsSet (dsSet (dsSet (dsSet (dsSet M5 15 (evN (wT W)) 1) 16 (evN (wT W)) (cV n b q)) 17 (evN (wT W)) (cV n b (tapQ1 n b W q))) 18 (evN (wT W)) (cV n b (exW n b 13 (tapQ2 n b W q)))) 14 0 (evN (wT W) + 1)) 12 i = evM (wR W) i ∧ (dsSet (dsSet (dsSet (dsSet (dsSet M5 15 (evN (wT W)) 1) 16 (evN (wT W)) (cV n b q)) 17 (evN (wT W)) (cV n b (tapQ1 n b W q))) 18 (evN (wT W)) (cV n b (exW n b 13 (tapQ2 n b W q)))) 14 0 (evN (wT W) + 1)) 13 i = evY (wR W) i := by
        refine ⟨by rw [e _ _ (by omega)]; exact x4.1, fun i i0 i1 => ?_⟩
        rw [e _ _ (by omega), e _ _ (by omega), e _ _ (by omega), e _ _ (by omega)]
        exact x4.2 i i0 i1
      refine ⟨⟨?_, ?_, ?_, ?_, ?_, ?_⟩, fun w w0 w1 => ?_, fun s s0 s1 => ?_, othH, mineH, ?_⟩
      · rw [e _ _ (by omega)]; exact x1.1
      · rw [e _ _ (by omega)]; exact x1.2.1
      · rw [e _ _ (by omega)]; exact x1.2.2.1
      · rw [e _ _ (by omega)]; exact x1.2.2.2.1
      · rw [e _ _ (by omega)]; exact x1.2.2.2.2.1
      · rw [e _ _ (by omega)]; exact x1.2.2.2.2.2
      · rw [e _ _ (by omega), e _ _ (by omega)]; exact x2 w w0 w1
      · rw [e _ _ (by omega), e _ _ (by omega), e _ _ (by omega)]; exact x3 s s0 s1
      · refine ⟨by rw [e _ _ (by omega)]; exact x6.1, fun i i0 i1 => ?_⟩
        rw [e _ _ (by omega), e _ _ (by omega), e _ _ (by omega), e _ _ (by omega)]
        exact x6.2 i i0 i1
    · rw [if_neg hc] at hQ r6
      subst r6
      have ex : fiQ x f q = (3, f, q.2.2) := by unfold fiQ; rw [if_neg (fun u => hc (hx.1 u))]
      have n0 : ((3, f, q.2.2) : psT).1 ≠ 0 := by show (3 : Int) ≠ 0; omega
      rw [ex] at hq
      unfold tapQ3 tapQ2 tapQ1 tbQ at hq
      rw [nmQ_f n0, nmQ_f n0, exW_f n0, nmQ_f n0, sgQ_f n0] at hq
      exact hQ M6 ⟨hq, fun u => absurd u n0, f5 _ _ (by unfold FP; omega), FP_l f5⟩
  have hx : (if (¬ ((M 14 0) < 6)) then (1 : Int) else 0) = 0 ↔ evN (wT W) < 6 := by
    rw [dE]
    split <;> omega
  have k5 : ∀ M1, Fr FP M M1 → M1 3 5 = wN W := fun M1 r => by rw [r _ _ (by unfold FP; omega)]; exact d5
  refine r51_0 (hA1 := fi_ct h h4) (s1 := fun M1 r1 => by have := k5 M1 r1.2; omega) (R2 := fun M1 M2 => CQs M2 n b (tapQ1 n b W (fiQ (if (¬ ((M 14 0) < 6)) then (1 : Int) else 0) f q)) ∧ Fr FP M1 M2) (g2 := fun _ _ => cV n b (fiQ (if (¬ ((M 14 0) < 6)) then (1 : Int) else 0) f q)) (hA2 := fun M1 r1 => ?_) (hA3 := fun M1 r1 M2 r2 => rn_ct (q := tapQ1 n b W (fiQ (if (¬ ((M 14 0) < 6)) then (1 : Int) else 0) f q)) r2.1 (by omega) (by omega)) (hA4 := fun M1 r1 M2 r2 M3 r3 => nb_ct (k := 13) (q := tapQ2 n b W (fiQ (if (¬ ((M 14 0) < 6)) then (1 : Int) else 0) f q)) (by omega) r3.1 (by omega) (by omega)) (hA5 := fun M1 r1 M2 r2 M3 r3 M4 r4 => sg_ct (q := tapQ3 n b W (fiQ (if (¬ ((M 14 0) < 6)) then (1 : Int) else 0) f q)) r4.1) (hA6 := fun M1 r1 M2 r2 M3 r3 M4 r4 M5 r5 => puttap_ct (c := evN (wT W)) (by rw [Fr_trans (Fr_trans (Fr_trans (Fr_trans r1.2 r2.2) r3.2) r4.2) r5.2 _ _ (by unfold FP; omega)]; exact dE) hW) (k1 := fun M1 r1 M2 r2 M3 r3 M4 r4 M5 r5 M6 r6 => fin (if (¬ ((M 14 0) < 6)) then (1 : Int) else 0) M5 M6 hx r5.1 (Fr_trans (Fr_trans (Fr_trans (Fr_trans r1.2 r2.2) r3.2) r4.2) r5.2) r6)
  rw [k5 M1 r1.2]
  exact rn_ct r1.1 (by omega) (by omega)
