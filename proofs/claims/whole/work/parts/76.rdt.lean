/-! the class's reader: a line, the whole tape -/
theorem CQs_flt {M : dsMem} {n x f p p' : Int} {b : Int → Int} (h : CQs M n b (x, f, p)) (hx : x ≠ 0) : CQs M n b (x, f, p') := ⟨h.1, h.2.1, h.2.2.1, fun u => absurd u hx, fun u => absurd u hx⟩
theorem D3_inc {M : dsMem} {W : dsW} (h : D3 M W) : D3 (dsSet M 3 0 (M 3 0 + 1)) (wInc W) := by
  obtain ⟨x1, x2, x3, x4, x5, x6⟩ := h
  have e : ∀ a j, ¬ (a = 3 ∧ j = 0) → dsSet M 3 0 (M 3 0 + 1) a j = M a j := fun a j u => ds_gn (by omega)
  refine ⟨⟨by rw [ds_ge ⟨rfl, rfl⟩, x1.1]; rfl, ?_, ?_, ?_, ?_, ?_⟩, fun w w0 w1 => ?_, fun s s0 s1 => ?_, ⟨?_, fun i i0 i1 => ?_⟩, ⟨?_, fun i i0 i1 => ?_⟩, ⟨?_, fun i i0 i1 => ?_⟩⟩
  · rw [e _ _ (by omega)]; exact x1.2.1
  · rw [e _ _ (by omega)]; exact x1.2.2.1
  · rw [e _ _ (by omega)]; exact x1.2.2.2.1
  · rw [e _ _ (by omega)]; exact x1.2.2.2.2.1
  · rw [e _ _ (by omega)]; exact x1.2.2.2.2.2
  · rw [e _ _ (by omega), e _ _ (by omega)]; exact x2 w w0 w1
  · rw [e _ _ (by omega), e _ _ (by omega), e _ _ (by omega)]; exact x3 s s0 s1
  · rw [e _ _ (by omega)]; exact x4.1
  · rw [e _ _ (by omega), e _ _ (by omega), e _ _ (by omega), e _ _ (by omega)]; exact x4.2 i i0 i1
  · rw [e _ _ (by omega)]; exact x5.1
  · rw [e _ _ (by omega), e _ _ (by omega), e _ _ (by omega), e _ _ (by omega)]; exact x5.2 i i0 i1
  · rw [e _ _ (by omega)]; exact x6.1
  · rw [e _ _ (by omega), e _ _ (by omega), e _ _ (by omega), e _ _ (by omega)]; exact x6.2 i i0 i1
theorem line_ct {M : dsMem} {n p : Int} {b : Int → Int} {W : dsW} (h : CQs M n b (0, -1, tU n b p)) (h4 : M 1 4 = tF n b p) (hp : 0 ≤ p ∧ p ≤ n) (hd : D3 M W) (hW : DOK W) : bCt 46 [uR 6 1, uR 4 3, uX 0] M (fun _ => []) (fun M' => CQs M' n b (lnS n b W p).2 ∧ ((lnS n b W p).2.1 = 0 → D3 M' (lnS n b W p).1) ∧ Fr FL M M') := by
  intro Q hQ
  have hw := hW.1.1
  have d0 : M 3 0 = wLn W := hd.1.1
  have h5 : M 1 5 = tU n b p := h.2.2.2.1 rfl
  have done : ∀ q W1 M1, LnP M n b q W1 M1 → ((lnS n b W p).2.1 = q.1 ∧ (lnS n b W p).2.2.1 = q.2.1) → (q.1 = 0 → lnS n b W p = (wInc W1, q)) → Q [] (dsSet M1 3 0 (M1 3 0 + 1)) := by
    intro q W1 M1 r e1 e2
    refine hQ _ ⟨?_, fun u => ?_, Fr_set r.2.2.2 (Or.inr (by omega))⟩
    · have hc : CQs (dsSet M1 3 0 (M1 3 0 + 1)) n b q := CQs_fr r.1 (fun a j u => ds_gn (by omega))
      by_cases h0 : q.1 = 0
      · rw [e2 h0]; exact hc
      · obtain ⟨x, f, pp⟩ := q
        obtain ⟨y, g, p3, p2⟩ : ∃ y g p3, (lnS n b W p).2 = (y, g, p3) := ⟨_, _, _, rfl⟩
        rw [p2] at e1 ⊢
        simp only at e1
        rw [e1.1, e1.2]
        exact CQs_flt hc h0
    · have h0 : q.1 = 0 := by rw [← e1.1]; exact u
      rw [e2 h0]; exact D3_inc (r.2.1 h0)
  have d1 : ∀ M1, M1 = M → M1 3 0 = wLn W := fun M1 e => by rw [e]; exact d0
  have iw : ∀ {k : Nat} (M1 : dsMem), k < 15 → M1 = M → bCt 59 [uR 6 1, uX (k + 2), uX 0] M1 (fun _ => [uI (if isW n b p k then 1 else 0)]) (fun M' => M' = M1) := fun {k} M1 hk e => by
    rw [e]; exact isw_ct h.1 hk h4 h5 hp
  have fl : ∀ M1 M2, M1 = M → M2 = dsSet (dsSet M1 1 1 1) 1 2 (M1 1 4) → LnP M n b (1, tF n b p, p) W M2 ∧ M2 3 0 = wLn W := fun M1 M2 e r => by
    rw [e] at r
    have := CQs_fail (p := p) h.1 (by omega) h4 r
    exact ⟨⟨this.1, fun u => absurd u (by show ¬ (1 : Int) = 0; omega), this.2 _ _ (by unfold FP; omega), FP_l this.2⟩, by rw [this.2 _ _ (by unfold FP; omega)]; exact d0⟩
  have bad : lnK n b W p = 5 → lnS n b W p = (W, (1, tF n b p, p)) := fun k => by
    unfold lnS; rw [if_neg (by omega), if_neg (by omega), if_neg (by omega), if_neg (by omega), if_neg (by omega), if_pos k]
  have ful : lnK n b W p = 6 → lnS n b W p = (W, (3, tF n b p, p)) := fun k => by
    unfold lnS; rw [if_neg (by omega), if_neg (by omega), if_neg (by omega), if_neg (by omega), if_neg (by omega), if_neg (by omega)]
  have lp3 : ∀ q W1 M1 M2, M1 = M → LnP M1 n b q W1 M2 → LnP M n b q W1 M2 ∧ M2 3 0 = wLn W := fun q W1 M1 M2 e r => by
    rw [e] at r; exact ⟨r, r.2.2.1.trans d0⟩
  have f1 : ¬ (1 : Int) = 0 := by omega
  have f3 : ¬ (3 : Int) = 0 := by omega
  by_cases hz : wLn W = 0
  · refine r46_0 (R1 := fun _ => False) (R2 := fun _ _ => False) (R3 := fun _ _ _ => False) (R4 := fun _ _ _ _ => False) (R5 := fun _ _ _ _ _ => False) (R6 := fun _ _ _ _ _ _ => False) (R7 := fun _ _ _ _ _ _ => False) (R8 := fun _ _ _ _ _ => False) (R9 := fun _ _ _ _ => False) (R10 := fun _ _ _ => False) (R11 := fun _ _ => False) (g1 := fun _ => 0) (g2 := fun _ _ => 0) (g3 := fun _ _ _ => 0) (g4 := fun _ _ _ _ => 0) (g5 := fun _ _ _ _ _ => 0) (hA1 := fun u => by omega) (hA2 := fun u => by omega) (hA3 := fun u => by omega) (hA4 := fun u => by omega) (hA5 := fun u => by omega) (hA6 := fun u => by omega) (s1 := fun u => by omega) (k1 := fun u => by omega) (hA7 := fun u => by omega) (s2 := fun u => by omega) (k2 := fun u => by omega) (hA8 := fun u => by omega) (s3 := fun u => by omega) (k3 := fun u => by omega) (hA9 := fun u => by omega) (s4 := fun u => by omega) (k4 := fun u => by omega) (hA10 := fun u => by omega) (s5 := fun u => by omega) (k5 := fun u => by omega) (hA11 := fun u => by omega) (s6 := fun u => by omega) (k6 := fun u => by omega)
      (hA12 := fun _ => iw (k := 0) M (by omega) rfl) (hA13 := fun _ M1 r1 q1 => cho_ct (q := (0, -1, tU n b p)) (show CQs M1 n b _ by rw [r1]; exact h) (show D3 M1 W by rw [r1]; exact hd)) (s7 := fun _ M1 r1 q1 M2 r2 => by have := (lp3 _ _ M1 M2 r1 r2).2; omega) (k7 := fun _ M1 r1 q1 M2 r2 => done _ _ M2 (lp3 _ _ M1 M2 r1 r2).1 ?_ (fun _ => ?_)) (hA14 := fun _ M1 r1 q1 => fail_ct) (s8 := fun _ M1 r1 q1 M2 r2 => by have := (fl M1 M2 r1 r2).2; omega) (k8 := fun _ M1 r1 q1 M2 r2 => done _ _ M2 (fl M1 M2 r1 r2).1 ?_ (fun u => absurd u f1))
    · have w := if01_1 (c := isW n b p 0) (by omega)
      have k : lnK n b W p = 0 := by unfold lnK; rw [if_pos hz, if_pos w]
      unfold lnS; rw [if_pos k]; exact ⟨rfl, rfl⟩
    · have w := if01_1 (c := isW n b p 0) (by omega)
      have k : lnK n b W p = 0 := by unfold lnK; rw [if_pos hz, if_pos w]
      unfold lnS; rw [if_pos k]
    · have w : ¬ isW n b p 0 := fun u => q1 (if_pos u)
      rw [bad (by unfold lnK; rw [if_pos hz, if_neg w])]; exact ⟨rfl, rfl⟩
  · refine r46_0 (R12 := fun _ => False) (g12 := fun _ => 0) (R13 := fun _ _ => False) (R14 := fun _ _ => False) (hA12 := fun u => by omega) (hA13 := fun u => by omega) (s7 := fun u => by omega) (k7 := fun u => by omega) (hA14 := fun u => by omega) (s8 := fun u => by omega) (k8 := fun u => by omega)
      (hA1 := fun _ => iw (k := 0) M (by omega) rfl) (hA2 := fun _ M1 r1 q1 => iw (k := 4) M1 (by omega) r1) (hA3 := fun _ M1 r1 q1 M2 r2 q2 => iw (k := 7) M2 (by omega) (r2.trans r1)) (hA4 := fun _ M1 r1 q1 M2 r2 q2 M3 r3 q3 => iw (k := 11) M3 (by omega) (r3.trans (r2.trans r1))) (hA5 := fun _ M1 r1 q1 M2 r2 q2 M3 r3 q3 M4 r4 q4 => iw (k := 14) M4 (by omega) (r4.trans (r3.trans (r2.trans r1))))
      (hA6 := fun _ M1 r1 q1 M2 r2 q2 M3 r3 q3 M4 r4 q4 M5 r5 q5 => fail_ct) (s1 := fun _ M1 r1 q1 M2 r2 q2 M3 r3 q3 M4 r4 q4 M5 r5 q5 M6 r6 => by have := (fl M5 M6 (r5.trans (r4.trans (r3.trans (r2.trans r1)))) r6).2; omega) (k1 := fun _ M1 r1 q1 M2 r2 q2 M3 r3 q3 M4 r4 q4 M5 r5 q5 M6 r6 => done _ _ M6 (fl M5 M6 (r5.trans (r4.trans (r3.trans (r2.trans r1)))) r6).1 ?_ (fun u => absurd u f1))
      (hA7 := fun _ M1 r1 q1 M2 r2 q2 M3 r3 q3 M4 r4 q4 M5 r5 q5 => tap_ct (W := W) (q := (0, -1, tU n b p)) (show CQs M5 n b _ by rw [r5.trans (r4.trans (r3.trans (r2.trans r1)))]; exact h) (show M5 1 4 = tF n b p by rw [r5.trans (r4.trans (r3.trans (r2.trans r1)))]; exact h4) (show D3 M5 W by rw [r5.trans (r4.trans (r3.trans (r2.trans r1)))]; exact hd) (by omega) (by omega)) (s2 := fun _ M1 r1 q1 M2 r2 q2 M3 r3 q3 M4 r4 q4 M5 r5 q5 M6 r6 => by have := (lp3 _ _ M5 M6 (r5.trans (r4.trans (r3.trans (r2.trans r1)))) r6).2; omega) (k2 := fun _ M1 r1 q1 M2 r2 q2 M3 r3 q3 M4 r4 q4 M5 r5 q5 M6 r6 => done _ _ M6 (lp3 _ _ M5 M6 (r5.trans (r4.trans (r3.trans (r2.trans r1)))) r6).1 ?_ (fun u => ?_))
      (hA8 := fun _ M1 r1 q1 M2 r2 q2 M3 r3 q3 M4 r4 q4 => rai_ct (W := W) (q := (0, -1, tU n b p)) (show CQs M4 n b _ by rw [r4.trans (r3.trans (r2.trans r1))]; exact h) (show M4 1 4 = tF n b p by rw [r4.trans (r3.trans (r2.trans r1))]; exact h4) (show D3 M4 W by rw [r4.trans (r3.trans (r2.trans r1))]; exact hd) (by omega)) (s3 := fun _ M1 r1 q1 M2 r2 q2 M3 r3 q3 M4 r4 q4 M6 r6 => by have := (lp3 _ _ M4 M6 (r4.trans (r3.trans (r2.trans r1))) r6).2; omega) (k3 := fun _ M1 r1 q1 M2 r2 q2 M3 r3 q3 M4 r4 q4 M6 r6 => done _ _ M6 (lp3 _ _ M4 M6 (r4.trans (r3.trans (r2.trans r1))) r6).1 ?_ (fun u => ?_))
      (hA9 := fun _ M1 r1 q1 M2 r2 q2 M3 r3 q3 => sto_ct (W := W) (q := (0, -1, tU n b p)) (show CQs M3 n b _ by rw [r3.trans (r2.trans r1)]; exact h) (show M3 1 4 = tF n b p by rw [r3.trans (r2.trans r1)]; exact h4) (show D3 M3 W by rw [r3.trans (r2.trans r1)]; exact hd) (by omega) (by omega)) (s4 := fun _ M1 r1 q1 M2 r2 q2 M3 r3 q3 M6 r6 => by have := (lp3 _ _ M3 M6 (r3.trans (r2.trans r1)) r6).2; omega) (k4 := fun _ M1 r1 q1 M2 r2 q2 M3 r3 q3 M6 r6 => done _ _ M6 (lp3 _ _ M3 M6 (r3.trans (r2.trans r1)) r6).1 ?_ (fun u => ?_))
      (hA10 := fun _ M1 r1 q1 M2 r2 q2 => wal_ct (W := W) (q := (0, -1, tU n b p)) rfl (show CQs M2 n b _ by rw [r2.trans r1]; exact h) (show M2 1 4 = tF n b p by rw [r2.trans r1]; exact h4) (show D3 M2 W by rw [r2.trans r1]; exact hd) (by omega)) (s5 := fun _ M1 r1 q1 M2 r2 q2 M6 r6 => by have := (lp3 _ _ M2 M6 (r2.trans r1) r6).2; omega) (k5 := fun _ M1 r1 q1 M2 r2 q2 M6 r6 => done _ _ M6 (lp3 _ _ M2 M6 (r2.trans r1) r6).1 ?_ (fun u => ?_))
      (hA11 := fun _ M1 r1 q1 => fail_ct) (s6 := fun _ M1 r1 q1 M6 r6 => by have := (fl M1 M6 r1 r6).2; omega) (k6 := fun _ M1 r1 q1 M6 r6 => done _ _ M6 (fl M1 M6 r1 r6).1 ?_ (fun u => absurd u f1))
    · rw [bad (by unfold lnK; rw [if_neg hz, if_neg (if01_0 q2), if_neg (if01_0 q3), if_neg (if01_0 q4), if_neg (if01_0 q5)])]; exact ⟨rfl, rfl⟩
    · by_cases hc : evN (wT W) < 6
      · have k : lnK n b W p = 4 := by unfold lnK; rw [if_neg hz, if_neg (if01_0 q2), if_neg (if01_0 q3), if_neg (if01_0 q4), if_pos (if01_1 q5), if_pos hc]
        unfold lnS; rw [if_neg (by omega), if_neg (by omega), if_neg (by omega), if_neg (by omega), if_pos k, if_pos hc]; exact ⟨rfl, rfl⟩
      · rw [ful (by unfold lnK; rw [if_neg hz, if_neg (if01_0 q2), if_neg (if01_0 q3), if_neg (if01_0 q4), if_pos (if01_1 q5), if_neg hc]), if_neg hc]; exact ⟨rfl, rfl⟩
    · by_cases hc : evN (wT W) < 6
      · have k : lnK n b W p = 4 := by unfold lnK; rw [if_neg hz, if_neg (if01_0 q2), if_neg (if01_0 q3), if_neg (if01_0 q4), if_pos (if01_1 q5), if_pos hc]
        unfold lnS; rw [if_neg (by omega), if_neg (by omega), if_neg (by omega), if_neg (by omega), if_pos k, if_pos hc]
      · rw [if_neg hc] at u; exact absurd u f3
    · by_cases hc : evN (wR W) < 8
      · have k : lnK n b W p = 3 := by unfold lnK; rw [if_neg hz, if_neg (if01_0 q2), if_neg (if01_0 q3), if_pos (if01_1 q4), if_pos hc]
        unfold lnS; rw [if_neg (by omega), if_neg (by omega), if_neg (by omega), if_pos k, if_pos hc]; exact ⟨rfl, rfl⟩
      · rw [ful (by unfold lnK; rw [if_neg hz, if_neg (if01_0 q2), if_neg (if01_0 q3), if_pos (if01_1 q4), if_neg hc]), if_neg hc]; exact ⟨rfl, rfl⟩
    · by_cases hc : evN (wR W) < 8
      · have k : lnK n b W p = 3 := by unfold lnK; rw [if_neg hz, if_neg (if01_0 q2), if_neg (if01_0 q3), if_pos (if01_1 q4), if_pos hc]
        unfold lnS; rw [if_neg (by omega), if_neg (by omega), if_neg (by omega), if_pos k, if_pos hc]
      · rw [if_neg hc] at u; exact absurd u f3
    · by_cases hc : wN W < 6
      · have k : lnK n b W p = 2 := by unfold lnK; rw [if_neg hz, if_neg (if01_0 q2), if_pos (if01_1 q3), if_pos hc]
        unfold lnS; rw [if_neg (by omega), if_neg (by omega), if_pos k, if_pos hc]; exact ⟨rfl, rfl⟩
      · rw [ful (by unfold lnK; rw [if_neg hz, if_neg (if01_0 q2), if_pos (if01_1 q3), if_neg hc]), if_neg hc]; exact ⟨rfl, rfl⟩
    · by_cases hc : wN W < 6
      · have k : lnK n b W p = 2 := by unfold lnK; rw [if_neg hz, if_neg (if01_0 q2), if_pos (if01_1 q3), if_pos hc]
        unfold lnS; rw [if_neg (by omega), if_neg (by omega), if_pos k, if_pos hc]
      · rw [if_neg hc] at u; exact absurd u f3
    · by_cases hc : wW W < 3
      · have k : lnK n b W p = 1 := by unfold lnK; rw [if_neg hz, if_pos (if01_1 q2), if_pos hc]
        unfold lnS; rw [if_neg (by omega), if_pos k, if_pos hc]; exact ⟨rfl, rfl⟩
      · rw [ful (by unfold lnK; rw [if_neg hz, if_pos (if01_1 q2), if_neg hc]), if_neg hc]; exact ⟨rfl, rfl⟩
    · by_cases hc : wW W < 3
      · have k : lnK n b W p = 1 := by unfold lnK; rw [if_neg hz, if_pos (if01_1 q2), if_pos hc]
        unfold lnS; rw [if_neg (by omega), if_pos k, if_pos hc]
      · rw [if_neg hc] at u; exact absurd u f3
    · have w := if01_1 q1
      rw [bad (by unfold lnK; rw [if_neg hz, if_neg (isW_ne (by omega) (by omega) (by omega) w), if_neg (isW_ne (by omega) (by omega) (by omega) w), if_neg (isW_ne (by omega) (by omega) (by omega) w), if_neg (isW_ne (by omega) (by omega) (by omega) w)])]; exact ⟨rfl, rfl⟩
