/-! the flow's run as a whole -/
theorem CW_out {M M' : dsMem} {x0 : Int} {P : dsP} (hx : x0 = 47 ∨ x0 = 62) (h : CW M x0 P) (e : ∀ a j, (a < x0 + 2 ∨ x0 + 13 < a) → M' a j = M a j) : CW M' x0 P := by
  obtain ⟨⟨a1, a2, a3, a4⟩, b, c⟩ := h
  refine ⟨⟨?_, ?_, ?_, ?_⟩, ?_, ?_⟩
  · rw [e _ _ (by omega)]; exact a1
  · rw [e _ _ (by omega)]; exact a2
  · rw [e _ _ (by omega)]; exact a3
  · rw [e _ _ (by omega)]; exact a4
  · intro s s0 s1
    rw [e (x0 + 14) _ (by omega), e 28 _ (by omega), e 29 _ (by omega), e (x0 + 1) _ (by omega)]; exact b s s0 s1
  · intro w w0 w1
    rw [e 26 _ (by omega), e (x0 + 1) _ (by omega), e (x0 + 1) _ (by omega), e 25 _ (by omega)]; exact c w w0 w1
def CWp (M : dsMem) (x0 : Int) (P : dsP) : Prop :=
  (M 24 5 = pN P ∧ M 24 4 = pW P ∧ M 24 1 = pY P ∧ (if M (x0 + 1) 0 = -1 then M 24 2 else M (x0 + 1) 0) = pL P) ∧
  (∀ s, 0 ≤ s → s < pN P → (if dsBit (M (x0 + 1) 3) s then 0 else if s = M (x0 + 1) 5 then M (x0 + 1) 6 else M 27 s) = pRoom P s ∧ M 28 s = pWide P s ∧ M 29 s = pOn P s ∧ (dsBit (M (x0 + 1) 4) s ↔ pAl P s = true)) ∧
  (∀ w, 0 ≤ w → w < pW P → M 26 w = pGives P w ∧ (if w = M (x0 + 1) 7 then M (x0 + 1) 8 else M 25 w) = pBears P w)
theorem settle_ct {M : dsMem} {x0 : Int} {P : dsP} (hP : POK P) (hx : x0 = 47 ∨ x0 = 62) (hW : CWp M x0 P) :
    bCt 8 [uR 5 x0, uX 0] M (fun _ => []) (fun M' => CW M' x0 P ∧ Fr (fun a j => (a = x0 ∧ j = 14) ∨ a = x0 + 14) M M') := by
  intro Q hQ
  have hN := hP.1
  have main : ∀ v, v = pL P → bB 8 34 [uR 5 x0, uI 0] [] (dsSet M x0 14 v) Q := by
    intro v ev
    refine b_forM (pN P) (fun s => [uR 5 x0, uI s]) (fun s M' => 0 ≤ s ∧ M' x0 14 = pL P ∧ (∀ t, 0 ≤ t → t < s → t < pN P → M' (x0 + 14) t = pRoom P t) ∧ Fr (fun a j => (a = x0 ∧ j = 14) ∨ a = x0 + 14) M M') ?_ ?_ 0 _ ⟨by omega, by simp (disch := omega) only [ds_gn, ds_ge]; exact ev, fun t _ _ => by omega, Fr_set Fr_refl (Or.inl ⟨rfl, rfl⟩)⟩
    · rintro s M1 ⟨s0, hl, hr, hf⟩ s1 ih
      have e5 : M1 24 5 = pN P := by rw [hf _ _ (by omega)]; exact hW.1.1
      have f1 : ∀ j, M1 (x0 + 1) j = M (x0 + 1) j := fun j => hf _ _ (by omega)
      have f27 : M1 27 s = M 27 s := hf _ _ (by omega)
      have er := (hW.2.1 s s0 s1).1
      have put : ∀ M2 v, M2 (x0 + 14) s = v → v = pRoom P s → (∀ a j, ¬ (a = x0 + 14 ∧ j = s) → M2 a j = M1 a j) → bB 8 34 [uR 5 x0, uI (s + 1)] [] M2 Q := by
        intro M2 v e1 e2 e3
        refine ih M2 ⟨by omega, ?_, ?_, ?_⟩
        · rw [e3 _ _ (by omega)]; exact hl
        · intro t t0 t1 t2
          by_cases ht : t = s
          · subst ht; rw [e1, e2]
          · rw [e3 _ _ (by omega)]; exact hr t t0 (by omega) t2
        · intro a j q
          rw [e3 _ _ (by omega)]; exact hf a j q
      refine r8_34 (k1 := fun q1 => by omega) (k2 := fun q1 q2 q3 => put _ (M1 27 s) (by simp (disch := omega) only [ds_gn, ds_ge]) ?_ (fun a j q => by simp (disch := omega) only [ds_gn, ds_ge])) (k3 := fun q1 q2 q3 => put _ 0 (by simp (disch := omega) only [ds_gn, ds_ge]) ?_ (fun a j q => by simp (disch := omega) only [ds_gn, ds_ge])) (k4 := fun q1 q2 q3 => put _ (M1 (x0 + 1) 6) (by simp (disch := omega) only [ds_gn, ds_ge]) ?_ (fun a j q => by simp (disch := omega) only [ds_gn, ds_ge])) (k5 := fun q1 q2 q3 => put _ 0 (by simp (disch := omega) only [ds_gn, ds_ge]) ?_ (fun a j q => by simp (disch := omega) only [ds_gn, ds_ge]))
      · rw [f1] at q2 q3
        rw [if_neg q3, if_neg q2] at er
        rw [f27]; exact er
      · rw [f1] at q3
        rw [if_pos q3] at er; exact er
      · rw [f1] at q2 q3
        rw [if_neg q3, if_pos q2] at er
        rw [f1]; exact er
      · rw [f1] at q3
        rw [if_pos q3] at er; exact er
    · rintro s M1 ⟨s0, hl, hr, hf⟩ s1
      have e5 : M1 24 5 = pN P := by rw [hf _ _ (by omega)]; exact hW.1.1
      refine r8_34 (k1 := fun q1 => hQ M1 ⟨⟨⟨e5, ?_, ?_, hl⟩, ?_, ?_⟩, hf⟩) (k2 := fun q1 => by omega) (k3 := fun q1 => by omega) (k4 := fun q1 => by omega) (k5 := fun q1 => by omega)
      · rw [hf _ _ (by omega)]; exact hW.1.2.1
      · rw [hf _ _ (by omega)]; exact hW.1.2.2.1
      · intro t t0 t1
        rw [hf 28 _ (by omega), hf 29 _ (by omega), hf (x0 + 1) _ (by omega)]
        exact ⟨hr t t0 (by omega) t1, (hW.2.1 t t0 t1).2⟩
      · intro t t0 t1
        rw [hf 26 _ (by omega), hf 25 _ (by omega), hf (x0 + 1) _ (by omega), hf (x0 + 1) _ (by omega)]
        exact hW.2.2 t t0 t1
  have el := hW.1.2.2.2
  refine r8_0 (k1 := fun q1 => main _ ?_) (k2 := fun q1 => main _ ?_)
  · rw [if_neg q1] at el; exact el
  · rw [if_pos q1] at el; exact el
def dyInit (P : dsP) : dsS := mS (fun _ => []) (fun _ => 0) (dsShl 1 (pW P) - 1) 0 0 (fun _ _ => 0) (fun _ => 0) (fun _ => 0) (fun _ => 0)
theorem dsw_0 : dsw 0 = 0 := rfl
theorem begin_ct {M : dsMem} {x0 : Int} {P : dsP} (hP : POK P) (hx : x0 = 47 ∨ x0 = 62) (hW : CW M x0 P) :
    bCt 9 [uR 5 x0, uX 0] M (fun _ => []) (fun M' => CK M' x0 P 0 (dyInit P) ∧ CAc M' x0 P (dyInit P) ∧ Fr (fun a _ => x0 + 2 ≤ a ∧ a ≤ x0 + 13) M M') := by
  intro Q hQ
  have hN := hP.1
  have hsh := @dsShl_b (pW P) (by omega)
  refine r9_0 ?_
  refine b_forM 6 (fun s => [uR 5 x0, uI s]) (fun s M' => 0 ≤ s ∧ s ≤ 6 ∧ (∀ t, 0 ≤ t → t < s → M' (x0 + 4) t = 0 ∧ M' (x0 + 5) t = 0 ∧ M' (x0 + 11) t = 0 ∧ M' (x0 + 12) t = 0) ∧ Fr (fun a _ => x0 + 2 ≤ a ∧ a ≤ x0 + 13) M M') ?_ ?_ 0 M ⟨by omega, by omega, fun t _ _ => by omega, Fr_refl⟩
  · rintro s M1 ⟨s0, s6, hz, hf⟩ s1 ih
    refine r9_2 (k1 := fun q1 => by omega) (k2 := fun q1 => ih _ ⟨by omega, by omega, ?_, ?_⟩)
    · intro t t0 t1
      by_cases ht : t = s
      · subst ht; refine ⟨?_, ?_, ?_, ?_⟩ <;> simp (disch := omega) only [ds_gn, ds_ge]
      · have := hz t t0 (by omega)
        refine ⟨?_, ?_, ?_, ?_⟩ <;> simp (disch := omega) only [ds_gn, ds_ge]
        · exact this.1
        · exact this.2.1
        · exact this.2.2.1
        · exact this.2.2.2
    · refine Fr_set (Fr_set (Fr_set (Fr_set hf ?_) ?_) ?_) ?_ <;> omega
  · rintro s M1 ⟨s0, s6, hz, hf⟩ s1
    refine r9_2 (k1 := fun q1 => ?_) (k2 := fun q1 => by omega)
    refine b_forM 3 (fun w => [uR 5 x0, uI w]) (fun w M' => 0 ≤ w ∧ w ≤ 3 ∧ (∀ t, 0 ≤ t → t < w → M' (x0 + 6) t = 0) ∧ Fr (fun a _ => a = x0 + 6) M1 M') ?_ ?_ 0 M1 ⟨by omega, by omega, fun t _ _ => by omega, Fr_refl⟩
    · rintro w M2 ⟨w0, w3, hw, hf2⟩ w1 ih
      refine r9_44 (k1 := fun q1 => by omega) (k2 := fun q1 => ih _ ⟨by omega, by omega, ?_, Fr_set hf2 rfl⟩)
      intro t t0 t1
      by_cases ht : t = w
      · subst ht; simp (disch := omega) only [ds_gn, ds_ge]
      · simp (disch := omega) only [ds_gn, ds_ge]; exact hw t t0 (by omega)
    · rintro w M2 ⟨w0, w3, hw, hf2⟩ w1
      refine r9_44 (k1 := fun q1 => ?_) (k2 := fun q1 => by omega)
      refine b_forM 6 (fun k => [uR 5 x0, uI k]) (fun k M' => 0 ≤ k ∧ k ≤ 6 ∧ (∀ t, 0 ≤ t → t < k → M' (x0 + 10) t = 0) ∧ Fr (fun a _ => a = x0 + 10) M2 M') ?_ ?_ 0 M2 ⟨by omega, by omega, fun t _ _ => by omega, Fr_refl⟩
      · rintro k M3 ⟨k0, k6, hk, hf3⟩ k1 ih
        have e4 : M3 24 4 = pW P := by rw [hf3 _ _ (by omega), hf2 _ _ (by omega), hf _ _ (by omega)]; exact hW.1.2.1
        refine r9_64 (k1 := fun q1 => by omega) (k2 := fun q1 => ih _ ⟨by omega, by omega, ?_, Fr_set hf3 rfl⟩) (s1 := fun q1 => by omega)
        intro t t0 t1
        by_cases ht : t = k
        · subst ht; simp (disch := omega) only [ds_gn, ds_ge]
        · simp (disch := omega) only [ds_gn, ds_ge]; exact hk t t0 (by omega)
      · rintro k M3 ⟨k0, k6, hk, hf3⟩ k1
        have e4 : M3 24 4 = pW P := by rw [hf3 _ _ (by omega), hf2 _ _ (by omega), hf _ _ (by omega)]; exact hW.1.2.1
        have f : ∀ a j, a ≠ x0 + 10 → a ≠ x0 + 6 → a ≠ x0 + 7 → dsSet M3 (x0 + 7) 0 (dsShl 1 (pW P) - 1) a j = M1 a j := by
          intro a j q1 q2 q3
          rw [ds_get_ne q3, hf3 _ _ q1, hf2 _ _ q2]
        refine r9_64 (k1 := fun q1 => ?_) (k2 := fun q1 => by omega) (s1 := fun q1 => by rw [e4]; omega)
        rw [e4]
        refine hQ _ ⟨⟨?_, ?_, ?_⟩, ⟨?_, ?_⟩, ?_⟩
        · intro t t0 t1
          have := hz t t0 (by omega)
          refine ⟨?_, ?_, trivial⟩
          · rw [f _ _ (by omega) (by omega) (by omega), show (0 : Int) * 6 + t = t by omega]; exact this.1
          · rw [f _ _ (by omega) (by omega) (by omega), show (0 : Int) * 6 + t = t by omega]; exact this.2.1
        · intro t t0 t1
          simp (disch := omega) only [ds_gn, ds_ge]
          rw [hf3 _ _ (by omega), show (0 : Int) * 3 + t = t by omega]; exact hw t t0 (by omega)
        · simp (disch := omega) only [ds_gn, ds_ge]; rfl
        · intro t t0 t1
          simp (disch := omega) only [ds_gn, ds_ge]
          rw [hk t (by omega) (by omega)]; rfl
        · intro t t0 t1
          have := hz t t0 (by omega)
          rw [f _ _ (by omega) (by omega) (by omega), f _ _ (by omega) (by omega) (by omega)]
          exact ⟨this.2.2.1, by rw [this.2.2.2]; rfl⟩
        · refine Fr_set (Fr_trans hf (Fr_trans (Fr_mono ?_ hf2) (Fr_mono ?_ hf3))) (by omega)
          · intro a j q; omega
          · intro a j q; omega
def FX (x0 : Int) : Int → Int → Prop := fun a j => (x0 + 2 ≤ a ∧ a ≤ x0 + 14) ∨ (a = x0 ∧ j = 14)
/-- the flow at x0 is as the run of P -/
def FR (M : dsMem) (x0 : Int) (P : dsP) : Prop :=
  (∀ k : Nat, (k : Int) ≤ pY P → CK M x0 P k (dsStN P (dyInit P) 0 k) ∧ WS P (dsStN P (dyInit P) 0 k)) ∧
  (∀ k : Nat, (k : Int) < pY P → M (x0 + 8) k = dsw (sX (dsStN P (dyInit P) 0 (k + 1))) ∧ M (x0 + 9) k = dsw (sH (dsStN P (dyInit P) 0 (k + 1)))) ∧
  CAc M x0 P (dsStN P (dyInit P) 0 (pY P).toNat) ∧ KB (dsStN P (dyInit P) 0 (pY P).toNat) (73 * pY P)
theorem run_ct {M : dsMem} {x0 : Int} {P : dsP} (hP : POK P) (hx : x0 = 47 ∨ x0 = 62) (hsv : ∀ y s, pSv P y s = false) (hW : CWp M x0 P) (hE : CE M x0 P) :
    bCt 7 [uR 5 x0, uI 0, uI 0, uX 0, uX 0] M (fun M' => [uI (if M' (x0 + 7) (pY P) = dsShl 1 (pW P) - 1 then 1 else 0)]) (fun M' => FR M' x0 P ∧ CW M' x0 P ∧ Fr (FX x0) M M') := by
  intro Q hQ
  have hN := hP.1
  have hsh := @dsShl_b (pW P) (by omega)
  have key : ∀ M1, (CW M1 x0 P ∧ Fr (fun a j => (a = x0 ∧ j = 14) ∨ a = x0 + 14) M M1) → ∀ M2, (CK M2 x0 P 0 (dyInit P) ∧ CAc M2 x0 P (dyInit P) ∧ Fr (fun a _ => x0 + 2 ≤ a ∧ a ≤ x0 + 13) M1 M2) → ∀ x3, (x3 = 0 ∨ x3 = 1) → (x3 = 1 ↔ M2 (x0 + 7) 0 = dsShl 1 (M2 24 4) - 1) → bB 7 37 [uR 5 x0, uX 0, uI 0, uI x3, uI 0] [] M2 Q := by
    intro M1 r1 M2 r2 x3 h01 hi
    have hW2 : CW M2 x0 P := CW_out hx r1.1 (fun a j q => r2.2.2 a j (by omega))
    rw [hW2.1.2.1] at hi
    refine run_all (M0 := M2) (f := 0) (S0 := dyInit P) hP hx (by omega) hsv (fun M' x3 h h01 hi => ?_) 0 M2 x3 ?_ h01 hi
    · have hfin : Q [uI (if M' (x0 + 7) (pY P) = dsShl 1 (pW P) - 1 then 1 else 0)] M' := hQ M' ⟨⟨fun k hk => ?_, fun k hk => ?_, ?_, ?_⟩, h.2.2.2.2.2.1, ?_⟩
      · have e : (if M' (x0 + 7) (pY P) = dsShl 1 (pW P) - 1 then (1 : Int) else 0) = x3 := by
          split
          · rename_i q; exact (hi.2 q).symm
          · rename_i q
            rcases h01 with e | e
            · exact e.symm
            · exact absurd (hi.1 e) q
        rw [e] at hfin; exact hfin
      · have := h.2.1 k (by omega)
        rw [show (0 : Int) + (k : Int) = k by omega] at this; exact this
      · have := h.2.2.1 k (by omega)
        rw [show (0 : Int) + (k : Int) = k by omega] at this; exact this
      · have := h.2.2.2.1
        rw [show pY P - 0 = pY P by omega] at this; exact this
      · have := h.2.2.2.2.1
        rw [show pY P - 0 = pY P by omega] at this; exact this
      · refine Fr_trans (Fr_mono ?_ r1.2) (Fr_trans (Fr_mono ?_ r2.2.2) (Fr_mono ?_ h.2.2.2.2.2.2.2)) <;> (intro a j q; unfold FX; omega)
    · refine ⟨by omega, ?_, ?_, ?_, ?_, hW2, CE_fr hE (fun a j q => (r2.2.2 a j (by omega)).trans (r1.2 a j (by omega))), Fr_refl⟩
      · intro k hk
        have : k = 0 := by omega
        subst this
        exact ⟨r2.1, fun s s0 s1 => ⟨dyWl_nil, (hP.2.1 s s0 s1).1⟩⟩
      · intro k hk; omega
      · exact r2.2.1
      · intro w w0 w1
        exact ⟨Int.le_refl _, Int.le_refl _⟩
  have b4 : ∀ M1, (CW M1 x0 P ∧ Fr (fun a j => (a = x0 ∧ j = 14) ∨ a = x0 + 14) M M1) → ∀ M2, (CK M2 x0 P 0 (dyInit P) ∧ CAc M2 x0 P (dyInit P) ∧ Fr (fun a _ => x0 + 2 ≤ a ∧ a ≤ x0 + 13) M1 M2) → -2147483648 ≤ dsShl 1 (M2 24 4) - 1 ∧ dsShl 1 (M2 24 4) - 1 < 2147483648 := by
    intro M1 r1 M2 r2
    rw [r2.2.2 _ _ (by omega), r1.1.1.2.1]; omega
  refine r7_0 (hA1 := settle_ct hP hx hW) (k1 := fun M1 r1 q => absurd rfl q) (k2 := fun M1 r1 q => absurd rfl q) (s2 := fun M1 r1 q => absurd rfl q) (hA2 := fun M1 r1 q => begin_ct hP hx r1.1) (s4 := fun M1 r1 q M2 r2 => b4 M1 r1 M2 r2)
    (k3 := fun M1 r1 q M2 r2 q2 => key M1 r1 M2 r2 0 (Or.inl rfl) ⟨fun e => by omega, fun e => absurd e q2⟩) (k4 := fun M1 r1 q M2 r2 q2 => key M1 r1 M2 r2 1 (Or.inr rfl) ⟨fun _ => q2, fun _ => rfl⟩)
