/-! chance and mean: both sides -/
theorem obegin_ct {M : dsMem} : bCt 37 [uR 8 81, uX 0] M (fun _ => []) (fun M' => M' 81 1 = 1 ∧ M' 81 2 = 0 ∧ (∀ w, 0 ≤ w → w < 3 → M' 82 w = 0) ∧ Fr (fun a j => (a = 81 ∧ (j = 1 ∨ j = 2)) ∨ a = 82) M M') := by
  intro Q hQ
  refine r37_0 (k1 := ?_)
  refine b_forM 3 (fun i => [uR 8 81, uI i]) (fun i M' => 0 ≤ i ∧ i ≤ 3 ∧ M' 81 1 = 1 ∧ M' 81 2 = 0 ∧ (∀ w, 0 ≤ w → w < i → M' 82 w = 0) ∧ Fr (fun a j => (a = 81 ∧ (j = 1 ∨ j = 2)) ∨ a = 82) M M') ?_ ?_ 0 _ ⟨by omega, by omega, by simp (disch := omega) only [ds_gn, ds_ge], by simp (disch := omega) only [ds_gn, ds_ge], fun w _ _ => by omega, Fr_set (Fr_set Fr_refl (by omega)) (by omega)⟩
  · rintro i M' ⟨i0, i3, h1, h2, h3, hf⟩ hi ih
    refine r37_12 (k1 := fun q => by omega) (k2 := fun q => ih _ ⟨by omega, by omega, (ds_gn (by omega)).trans h1, (ds_gn (by omega)).trans h2, fun w w0 w1 => ?_, Fr_set hf (by omega)⟩)
    by_cases hw : w = i
    · rw [ds_ge (by omega)]
    · rw [ds_gn (by omega)]; exact h3 w w0 (by omega)
  · rintro i M' ⟨i0, i3, h1, h2, h3, hf⟩ hi
    exact r37_12 (k1 := fun q => hQ M' ⟨h1, h2, fun w w0 w1 => h3 w w0 (by omega), hf⟩) (k2 := fun q => by omega)
theorem oadd_ct {M : dsMem} {x1 x3 x4 : Int} (hb : ∀ w, 0 ≤ w → w < 3 → 0 ≤ M 82 w ∧ M 82 w ≤ 4611686018427387904) (hx : 0 ≤ x1 ∧ x1 ≤ 100000000) : bCt 38 [uR 8 81, uJ x1, uX 0, uI x3, uI x4, uX 0] M (fun _ => []) (fun M' => M' 81 2 = dsw64 (M 81 2 + x1 * x4) ∧ (∀ w, 0 ≤ w → w < 3 → M' 82 w = if dsBit x3 w then M 82 w + x1 else M 82 w) ∧ Fr (fun a j => (a = 81 ∧ j = 2) ∨ a = 82) M M') := by
  intro Q hQ
  refine r38_0 (k1 := ?_)
  refine b_forM 3 (fun i => [uR 8 81, uJ x1, uX 0, uI x3, uX 0, uI i]) (fun i M' => 0 ≤ i ∧ i ≤ 3 ∧ M' 81 2 = dsw64 (M 81 2 + x1 * x4) ∧ (∀ w, 0 ≤ w → w < i → M' 82 w = if dsBit x3 w then M 82 w + x1 else M 82 w) ∧ (∀ w, i ≤ w → w < 3 → M' 82 w = M 82 w) ∧ Fr (fun a j => (a = 81 ∧ j = 2) ∨ a = 82) M M') ?_ ?_ 0 _ ⟨by omega, by omega, by simp (disch := omega) only [ds_gn, ds_ge], fun w _ _ => by omega, fun w _ _ => by simp (disch := omega) only [ds_gn, ds_ge], Fr_set Fr_refl (by omega)⟩
  · rintro i M' ⟨i0, i3, h2, h3, h4, hf⟩ hi ih
    have hbi := hb i i0 hi
    have e4 := h4 i (by omega) hi
    refine r38_17 (k1 := fun q => by omega) (k2 := fun q q2 => ih _ ⟨by omega, by omega, h2, fun w w0 w1 => ?_, fun w w0 w1 => h4 w (by omega) w1, hf⟩) (k3 := fun q q2 => ih _ ⟨by omega, by omega, (ds_gn (by omega)).trans h2, fun w w0 w1 => ?_, fun w w0 w1 => (ds_gn (by omega)).trans (h4 w (by omega) w1), Fr_set hf (by omega)⟩)
    · by_cases hw : w = i
      · subst hw; rw [if_neg q2, e4]
      · exact h3 w w0 (by omega)
    · by_cases hw : w = i
      · subst hw; rw [ds_ge (by omega), if_pos q2, e4]
      · rw [ds_gn (by omega)]; exact h3 w w0 (by omega)
  · rintro i M' ⟨i0, i3, h2, h3, h4, hf⟩ hi
    exact r38_17 (k1 := fun q => hQ M' ⟨h2, fun w w0 w1 => h3 w w0 (by omega), hf⟩) (k2 := fun q => by omega) (k3 := fun q => by omega)
theorem CI_81 {M M' : dsMem} {W : dsW} (h : CI M W) (e : Fr (fun a j => (a = 81 ∧ (j = 1 ∨ j = 2)) ∨ a = 82) M M') (h0 : M 81 0 = 0) : CI M' W := by
  obtain ⟨a, b, c, d, f, g⟩ := h
  refine ⟨a, C24_e b (fun a j q1 q2 => e a j (by omega)), Dfl_e c (fun j => e _ _ (by omega)), ?_, ?_, Or.inl ?_⟩
  · rw [e 0 10 (by omega)]
    rcases d with d | d
    · exact Or.inl d
    · exact Or.inr ⟨d.1, FR_e (P0_ok a) d.2 (fun a j q1 q2 => e a j (by omega))⟩
  · rw [e 0 11 (by omega)]
    rcases f with f | f
    · exact Or.inl f
    · refine Or.inr ⟨f.1, fun set s0 s1 => ?_⟩
      rw [e 83 set (by omega)]; exact f.2 set s0 s1
  · rw [e 81 0 (by omega)]; exact h0
theorem ten_u0 : ∀ u : Fin 256, dsIter (fun (_ : Int) (a : Int) => a * 10) 0 (bitc ((u.val : Nat) : Int)) 1 = dsIter (fun i a => if dsAnd (dsShr ((u.val : Nat) : Int) i) 1 = 1 then a * 10 else a) 0 8 1 ∧ 0 ≤ bitc ((u.val : Nat) : Int) ∧ bitc ((u.val : Nat) : Int) ≤ 8 := by decide +kernel
theorem ten_u {u : Int} (h : 0 ≤ u ∧ u < 256) : dsIter (fun (_ : Int) (a : Int) => a * 10) 0 (bitc u) 1 = dsIter (fun i a => if dsAnd (dsShr u i) 1 = 1 then a * 10 else a) 0 8 1 ∧ 0 ≤ bitc u ∧ bitc u ≤ 8 := by
  obtain ⟨u, rfl⟩ : ∃ m : Nat, u = m := ⟨u.toNat, by omega⟩
  exact ten_u0 ⟨u, by omega⟩
theorem v173_eq {M : dsMem} {W : dsW} {S u : Int} (h : M 24 3 = wOd W) : v173 M S u = wgt W S u := by
  unfold v173 wgt; rw [h]
theorem v65_eq {M : dsMem} {W : dsW} (h : CI M W) : v65 M 24 = inT W := by
  unfold v65 inT
  show dsIter (fun i a => if M 24 1 ≤ M 34 i then a else dsOr a (dsShl 1 i)) 0 (M 30 0) 0 = _
  have e : M 30 0 = evN (wR W) := (CI_b h).1.2.2.2.2.2.2.1
  rw [e, cY1 h]
  refine dsIter_congr _ _ (fun i a i0 i1 => ?_)
  have e2 : M 34 i = evY (wR W) i := (h.2.1.2.2.2.1.2 i i0 i1).2.2.2
  rw [e2]
abbrev qC (W : dsW) (S : Int) : Int := wC (wOd W) (inT W) (evN (wR W)) S
theorem weigh_3 {M0 : dsMem} {W : dsW} {Q : bQT} (K : ∀ M', CI M' W → M' 81 0 = 1 → Fr CQ M0 M' → Q [] M') : ∀ (x2 : Int) (M : dsMem), 0 ≤ x2 ∧ x2 ≤ dsShl 1 (evN (wR W)) → CI M W → M 81 0 = 0 → Fr CQ M0 M → M 81 1 = oAll W → M 81 2 = dsSm (fun S => qC W S * vHa W S) 0 x2 0 → (∀ w, 0 ≤ w → w < 3 → M 82 w = dsSm (fun S => qC W S * vSt W w S) 0 x2 0) → bB 172 59 [uR 10 0, uI (inT W), uI x2, uX 0, uX 0] [] M Q := by
  intro x2 M hx h h0 hF h1 h2 h3
  refine b_loop (fun (a : Int) => [uR 10 0, uI (inT W), uI a, uX 0, uX 0]) (fun x2 M => 0 ≤ x2 ∧ x2 ≤ dsShl 1 (evN (wR W)) ∧ CI M W ∧ M 81 0 = 0 ∧ Fr CQ M0 M ∧ M 81 1 = oAll W ∧ M 81 2 = dsSm (fun S => qC W S * vHa W S) 0 x2 0 ∧ (∀ w, 0 ≤ w → w < 3 → M 82 w = dsSm (fun S => qC W S * vSt W w S) 0 x2 0)) (fun a => (dsShl 1 (evN (wR W)) - a).toNat) ?_ x2 M ⟨hx.1, hx.2, h, h0, hF, h1, h2, h3⟩
  clear h h0 hF h1 h2 h3 hx M x2
  rintro x2 M ⟨x0, xn, h, h0, hF, h1, h2, h3⟩ ih
  have b := CI_b h
  have k := h.1.1
  have hs := @shl_j (evN (wR W)) (by omega)
  have e30 : M 30 0 = evN (wR W) := b.1.2.2.2.2.2.2.1
  have e3 : M 24 3 = wOd W := b.1.2.2.2.1
  have hq : ∀ S, 0 ≤ S → S < dsShl 1 (evN (wR W)) → 0 ≤ qC W S ∧ qC W S ≤ 100000000 := fun S s0 s1 => by have := wgt2_eq h.1 ⟨s0, s1⟩; show 0 ≤ wC _ _ _ _ ∧ wC _ _ _ _ ≤ _; rw [← this.1]; exact this.2
  have snoc : ∀ f : Int → Int, dsSm f 0 (x2 + 1) 0 = dsSm f 0 x2 0 + f x2 := fun f => iter_last x0
  have hbS : ∀ w, 0 ≤ dsSm (fun S => qC W S * vSt W w S) 0 x2 0 ∧ dsSm (fun S => qC W S * vSt W w S) 0 x2 0 ≤ 36000000000 * x2 := fun w => sum_b x0 (fun S s0 s1 => hq S s0 (by omega)) (fun S _ _ => vSt_b)
  have hbH := sum_b (w := fun S => qC W S) (V := fun S => vHa W S) x0 (fun S s0 s1 => hq S s0 (by omega)) (fun S _ _ => vHa_b h.1)
  have zero : x2 < dsShl 1 (evN (wR W)) → wgt2 W x2 = 0 → bB 172 59 [uR 10 0, uI (inT W), uI (x2 + 1), uX 0, uX 0] [] M Q := fun hlt hz => by
    have e := wgt2_eq h.1 ⟨x0, hlt⟩
    have ez : qC W x2 = 0 := by show wC _ _ _ _ = 0; rw [← e.1]; exact hz
    refine ih (x2 + 1) M (by omega) ⟨by omega, by omega, h, h0, hF, h1, ?_, fun w w0 w1 => ?_⟩
    · rw [snoc, ez, Int.zero_mul, Int.add_zero]; exact h2
    · rw [snoc, ez, Int.zero_mul, Int.add_zero]; exact h3 w w0 w1
  refine r172n_59 (k1 := fun q => ?k1) (s1 := fun q q2 => by rw [e30] at q; omega) (k2 := fun q q2 => ?k2) (s2 := fun q q2 i a i0 i1 => by omega) (s3 := fun q q2 i a i0 i1 _ _ => by omega) (s4 := fun q q2 q3 => by rw [e30] at q; omega) (k3 := fun q q2 q3 => ?k3) (hA1 := fun q q2 q3 => oth_ct) (hA2 := fun q q2 q3 M1 r1 => cRun (cpPR h.1 h.2.1 r1 trivial).2 (PR_ok h.1 trivial) (fun _ _ => rfl) (cpPR h.1 h.2.1 r1 trivial).1) (s5 := fun q q2 q3 M1 r1 M2 r2 => by have b2 := CI_b (CI_q h r2.2); omega) (s6 := fun q q2 q3 M1 r1 M2 r2 i a i0 i1 => by have b2 := CI_b (CI_q h r2.2); omega) (s7 := fun q q2 q3 M1 r1 M2 r2 i a i0 i1 => by have b2 := CI_b (CI_q h r2.2); omega) (s8 := fun q q2 q3 M1 r1 M2 r2 i a i0 i1 => by have b2 := CI_b (CI_q h r2.2); omega) (hA3 := fun q q2 q3 M1 r1 M2 r2 => oadd_ct (fun w w0 w1 => ?hb) ?hw) (s9 := fun q q2 q3 M1 r1 M2 r2 M3 r3 => by rw [e30] at q; omega) (k4 := fun q q2 q3 M1 r1 M2 r2 M3 r3 => ?k4)
  case k1 =>
    rw [e30] at q
    have ex : x2 = dsShl 1 (evN (wR W)) := by omega
    subst ex
    obtain ⟨a, b, c, d, f, g⟩ := h
    refine K _ ⟨a, C24_e b (fun a j q1 q2 => ds_gn (by omega)), Dfl_e c (fun j => ds_gn (by omega)), ?_, ?_, Or.inr ⟨ds_ge (by omega), (ds_gn (by omega)).trans h1, ?_, fun w w0 w1 => ?_⟩⟩ (ds_ge (by omega)) (Fr_set hF (by unfold CQ; omega))
    · rw [ds_gn (by omega)]
      rcases d with d | d
      · exact Or.inl d
      · exact Or.inr ⟨d.1, FR_e (P0_ok a) d.2 (fun a j q1 q2 => ds_gn (by omega))⟩
    · rw [ds_gn (by omega)]
      rcases f with f | f
      · exact Or.inl f
      · refine Or.inr ⟨f.1, fun set s0 s1 => ?_⟩
        rw [ds_gn (by omega)]; exact f.2 set s0 s1
    · rw [ds_gn (by omega), h2, oHas_eq a]; rfl
    · rw [ds_gn (by omega), h3 w w0 w1, oSta_eq a]; rfl
  case k2 =>
    rw [e30] at q
    exact zero (by omega) (by unfold wgt2; rw [if_neg q2])
  case k3 =>
    rw [e30] at q
    rw [v173_eq e3] at q3
    have hg := @wG_r W (inT W) x2 (by omega)
    refine zero (by omega) ?_
    unfold wgt2; rw [if_pos q2]; omega
  case hb =>
    have := hbS w
    rw [r2.2 82 w (by unfold CQ2; omega), h3 w w0 w1]; omega
  case hw =>
    have hg := @wG_r W (inT W) x2 (by omega)
    rw [v173_eq e3, hg.1]; omega
  case k4 =>
    rw [e30] at q
    have hI2 := CI_q h r2.2
    have e := wgt2_eq h.1 ⟨x0, (show x2 < dsShl 1 (evN (wR W)) by omega)⟩
    have ew : wgt W x2 (inT W) = qC W x2 := by
      have : wgt2 W x2 = wgt W x2 (inT W) := by unfold wgt2; rw [if_pos q2]
      rw [← this]; exact e.1
    have e0 : M2 81 0 = 0 := by rw [r2.2 81 0 (by unfold CQ2; omega)]; exact h0
    have hq2 := hq x2 x0 (by omega)
    have hV := @vHa_b W x2 h.1
    have m1 : qC W x2 * vHa W x2 ≤ qC W x2 * 360 := Int.mul_le_mul_of_nonneg_left hV.2 hq2.1
    have m2 : 0 ≤ qC W x2 * vHa W x2 := Int.mul_nonneg hq2.1 hV.1
    have et : v24 M2 62 (M2 24 1) = vHa W x2 := by rw [cY1 hI2, q24 r2.1 (cN5 hI2) (by show 0 ≤ wY W ∧ wY W ≤ wY W; omega)]
    have eu : M2 69 (M2 24 1) = sU (stP (PR W x2) (wY W)) := by rw [cY1 hI2, FQ_U r2.1 (by show 0 ≤ wY W ∧ wY W ≤ wY W; omega)]
    rw [v173_eq e3, ew, et, eu] at r3
    refine ih (x2 + 1) M3 (by omega) ⟨by omega, by omega, CI_81 hI2 (Fr_mono (fun a j q => by omega) r3.2.2) e0, ?_, ?_, ?_, ?_, fun w w0 w1 => ?_⟩
    · rw [r3.2.2 81 0 (by omega)]; exact e0
    · exact Fr_trans (Fr_trans hF (CQ2_q r2.2)) (Fr_mono (fun a j q => by unfold CQ; omega) r3.2.2)
    · rw [r3.2.2 81 1 (by omega), r2.2 81 1 (by unfold CQ2; omega)]; exact h1
    · rw [r3.1, r2.2 81 2 (by unfold CQ2; omega), h2, snoc]
      exact dsw64_id (by show -9223372036854775808 ≤ dsSm (fun S => qC W S * vHa W S) 0 x2 0 + qC W x2 * vHa W x2; omega) (by show dsSm (fun S => qC W S * vHa W S) 0 x2 0 + qC W x2 * vHa W x2 < 9223372036854775808; omega)
    · rw [r3.2.1 w w0 w1, r2.2 82 w (by unfold CQ2; omega), h3 w w0 w1, snoc]
      have h01 := ds_b01 (dsShr (sU (stP (PR W x2) (wY W))) w)
      show _ = _ + qC W x2 * dsAnd (dsShr (sU (stP (PR W x2) (wY W))) w) 1
      rcases h01 with z | z
      · rw [if_neg (by show ¬ dsAnd (dsShr (sU (stP (PR W x2) (wY W))) w) 1 = 1; omega), z, Int.mul_zero, Int.add_zero]
      · rw [if_pos z, z, Int.mul_one]
theorem weigh_ct {M : dsMem} {W : dsW} (h : CI M W) : bCt 172 [uR 10 0, uX 0, uX 0, uX 0, uX 0] M (fun _ => []) (fun M' => CI M' W ∧ M' 81 0 = 1 ∧ Fr CQ M M') := by
  intro Q hQ
  have b := CI_b h
  have hu := inT_all h.1
  have ht := ten_u hu.1
  refine r172n_0 (hA1 := fun q => obegin_ct) (s1 := fun q M1 r1 i a i0 i1 => by have b1 := CI_b (CI_81 h r1.2.2.2 q); omega) (s2 := fun q M1 r1 i a i0 i1 => by have b1 := CI_b (CI_81 h r1.2.2.2 q); omega) (k1 := fun q M1 r1 => ?_) (k2 := fun q => ?_)
  · have h1 := CI_81 h r1.2.2.2 q
    rw [v65_eq h1]
    have e0 : M1 81 0 = 0 := by rw [r1.2.2.2 81 0 (by omega)]; exact q
    refine b_loop (fun (a : Int) => [uR 10 0, uI (inT W), uI a, uX 0, uX 0]) (fun x2 M' => 0 ≤ x2 ∧ x2 ≤ bitc (inT W) ∧ CI M' W ∧ M' 81 0 = 0 ∧ Fr CQ M M' ∧ M' 81 1 = dsIter (fun (_ : Int) (a : Int) => a * 10) 0 x2 1 ∧ M' 81 2 = 0 ∧ ∀ w, 0 ≤ w → w < 3 → M' 82 w = 0) (fun a => (bitc (inT W) - a).toNat) ?_ 0 M1 ⟨by omega, ht.2.1, h1, e0, Fr_mono (fun a j q => by unfold CQ; omega) r1.2.2.2, r1.1.trans (dsIter_end (by omega)).symm, r1.2.1, r1.2.2.1⟩
    rintro x2 M' ⟨x0, xn, hI, h0, hF, g1, g2, g3⟩ ih
    have hb := prod_w (f := fun (_ : Int) (a : Int) => a * 10) (g := fun (_ : Int) (a : Int) => a * 10) (n := x2) (by omega) (fun i a _ _ ha => by show 0 ≤ a * 10 ∧ a * 10 ≤ 10 * a; omega) (fun _ _ _ _ _ _ => rfl)
    refine r172n_28 (hA1 := cnt_ct (by omega)) (k1 := fun M2 r2 q2 => ?_) (s1 := fun M2 r2 q2 => by subst r2; omega) (k2 := fun M2 r2 q2 => ?_)
    · subst r2
      have ex : x2 = bitc (inT W) := by omega
      have eo : M2 81 1 = oAll W := by rw [g1, ex, ht.1]; rfl
      have hs := @shl_j (evN (wR W)) (by omega)
      refine weigh_3 (fun M3 a1 a2 a3 => hQ M3 ⟨a1, a2, a3⟩) 0 M2 (by omega) hI h0 hF eo ?_ ?_
      · rw [g2]; exact (dsIter_end (by omega)).symm
      · intro w w0 w1
        rw [g3 w w0 w1]; exact (dsIter_end (by omega)).symm
    · subst r2
      refine ih (x2 + 1) _ (by omega) ⟨by omega, by omega, CI_81 hI (Fr_set Fr_refl (by omega)) h0, (ds_gn (by omega)).trans h0, Fr_set hF (by unfold CQ; omega), ?_, (ds_gn (by omega)).trans g2, fun w w0 w1 => (ds_gn (by omega)).trans (g3 w w0 w1)⟩
      rw [ds_ge (by omega), g1, iter_last x0]
  · refine hQ M ⟨h, ?_, Fr_refl⟩
    rcases h.2.2.2.2.2 with d | d
    · omega
    · exact d.1
theorem oB {W : dsW} (h : WOK W) : (0 ≤ oHas W ∧ oHas W ≤ 9216000000000) ∧ ∀ w, 0 ≤ oSta W w ∧ oSta W w ≤ 9216000000000 := by
  have k := h.1
  have hs := @shl_j (evN (wR W)) (by omega)
  have hq : ∀ S, 0 ≤ S → S < dsShl 1 (evN (wR W)) → 0 ≤ qC W S ∧ qC W S ≤ 100000000 := fun S s0 s1 => by have := wgt2_eq h ⟨s0, s1⟩; show 0 ≤ wC _ _ _ _ ∧ wC _ _ _ _ ≤ _; rw [← this.1]; exact this.2
  refine ⟨?_, fun w => ?_⟩
  · rw [oHas_eq h]
    have := sum_b (w := fun S => qC W S) (V := fun S => vHa W S) (n := dsShl 1 (evN (wR W))) (by omega) hq (fun S _ _ => vHa_b h)
    show 0 ≤ dsSm (fun S => qC W S * vHa W S) 0 (dsShl 1 (evN (wR W))) 0 ∧ dsSm (fun S => qC W S * vHa W S) 0 (dsShl 1 (evN (wR W))) 0 ≤ _
    omega
  · rw [oSta_eq h]
    have := sum_b (w := fun S => qC W S) (V := fun S => vSt W w S) (n := dsShl 1 (evN (wR W))) (by omega) hq (fun S _ _ => vSt_b)
    show 0 ≤ dsSm (fun S => qC W S * vSt W w S) 0 (dsShl 1 (evN (wR W))) 0 ∧ dsSm (fun S => qC W S * vSt W w S) 0 (dsShl 1 (evN (wR W))) 0 ≤ _
    omega
def aCha (W : dsW) (w x : Int) : Int := if (0 ≤ w ∧ w ≤ wW W - 1) ∧ 0 ≤ x ∧ x ≤ 1 then lowT (oSta W w) (oAll W) x else -2
def aMea (W : dsW) (x : Int) : Int := if 0 < wLn W ∧ 0 ≤ x ∧ x ≤ 1 then lowT (oHas W) (oAll W) x else -2
theorem cq129 {M : dsMem} {W : dsW} {w x : Int} (h : CI M W) : bCt 129 [uR 10 0, uI w, uI x] M (fun _ => [uJ (aCha W w x)]) (fun M' => CI M' W ∧ Fr CQ M M') := by
  intro Q hQ
  have b := CI_b h
  have ho := oB h.1
  have ha := oAll_eq h.1
  have e : ∀ M1, CI M1 W ∧ M1 81 0 = 1 ∧ Fr CQ M M1 → M1 81 1 = oAll W ∧ ∀ w, 0 ≤ w → w < 3 → M1 82 w = oSta W w := fun M1 r => by
    rcases r.1.2.2.2.2.2 with d | d
    · have := r.2.1; omega
    · exact ⟨d.2.1, d.2.2.2⟩
  refine r129_0 (k1 := fun q => q_eqJ ?_ (hQ M ⟨h, Fr_refl⟩)) (hA1 := fun q q2 => weigh_ct h) (s2 := fun q q2 M1 r => by omega) (hA2 := fun q q2 M1 r => low_ct (a := M1 82 w) (b := M1 81 1) (by rw [(e M1 r).2 w (by omega) (by omega)]; have := ho.2 w; omega) (by rw [(e M1 r).1]; omega)) (k2 := fun q q2 M1 r M2 r2 => ?_) (k3 := fun q q2 => q_eqJ ?_ (hQ M ⟨h, Fr_refl⟩))
  · unfold aCha; rw [if_neg (by omega)]
  · subst r2
    refine q_eqJ ?_ (hQ M2 ⟨r.1, r.2.2⟩)
    unfold aCha; rw [if_pos (by omega), (e M2 r).1, (e M2 r).2 w (by omega) (by omega)]
  · unfold aCha; rw [if_neg (by omega)]
theorem cq130 {M : dsMem} {W : dsW} {x : Int} (h : CI M W) : bCt 130 [uR 10 0, uI x] M (fun _ => [uJ (aMea W x)]) (fun M' => CI M' W ∧ Fr CQ M M') := by
  intro Q hQ
  have b := CI_b h
  have ho := oB h.1
  have ha := oAll_eq h.1
  have e : ∀ M1, CI M1 W ∧ M1 81 0 = 1 ∧ Fr CQ M M1 → M1 81 1 = oAll W ∧ M1 81 2 = oHas W := fun M1 r => by
    rcases r.1.2.2.2.2.2 with d | d
    · have := r.2.1; omega
    · exact ⟨d.2.1, d.2.2.1⟩
  refine r130_0 (k1 := fun q => q_eqJ ?_ (hQ M ⟨h, Fr_refl⟩)) (hA1 := fun q q2 => weigh_ct h) (hA2 := fun q q2 M1 r => low_ct (a := M1 81 2) (b := M1 81 1) (by rw [(e M1 r).2]; omega) (by rw [(e M1 r).1]; omega)) (k2 := fun q q2 M1 r M2 r2 => ?_) (k3 := fun q q2 => q_eqJ ?_ (hQ M ⟨h, Fr_refl⟩))
  · unfold aMea; rw [if_neg (by omega)]
  · subst r2
    refine q_eqJ ?_ (hQ M2 ⟨r.1, r.2.2⟩)
    unfold aMea; rw [if_pos (by omega), (e M2 r).1, (e M2 r).2]
  · unfold aMea; rw [if_neg (by omega)]
theorem layR_ct {M : dsMem} {W : dsW} {w : Int} (h : RI0 M W) : bCt 314 [uR 11 84, uI w, uX 0, uX 0, uX 0, uX 0, uX 0] M (fun _ => []) (fun M' => RI0 M' W ∧ M' 84 46 = pA W (dsShl 1 (evN (wR W))) ∧ M' 84 47 = pS W w (dsShl 1 (evN (wR W))) ∧ M' 84 48 = pH W (dsShl 1 (evN (wR W))) ∧ Fr RQ M M') := by
  intro Q hQ
  have b := RI_b h
  have hs := @shl_j (evN (wR W)) (by omega)
  have hI1 : RI0 (dsSet (dsSet (dsSet M 84 46 0) 84 47 0) 84 48 0) W := RI0_e h (fun j => by rw [ds_gn (by omega), ds_gn (by omega), ds_gn (by omega)])
  refine r314_0 (hA1 := asItIs_ct hI1) (k1 := fun M1 r1 => ?_)
  have hI2 : RI0 M1 W := RI0_e hI1 (fun j => r1.2 _ _ (by omega))
  have b1 := RI_b hI2
  rw [show M1 85 5 = evN (wR W) from b1.1.2.2.2.2.2.1]
  refine b_loop (fun (a : Int) => [uR 11 84, uI w, uI (evN (wR W)), uI a, uX 0, uX 0, uX 0]) (fun x M' => 0 ≤ x ∧ x ≤ dsShl 1 (evN (wR W)) ∧ RI0 M' W ∧ (∃ c, RSv M' W (wLw W) c 63 (dsShl 1 (wN W) - 1) 0 0 (-1) (wRo W) (wBe W)) ∧ Fr RQ M M' ∧ M' 84 46 = pA W x ∧ M' 84 47 = pS W w x ∧ M' 84 48 = pH W x) (fun a => (dsShl 1 (evN (wR W)) - a).toNat) ?_ 0 M1 ⟨by omega, by omega, hI2, ⟨_, r1.1⟩, Fr_trans (Fr_set (Fr_set (Fr_set Fr_refl (by unfold RQ; omega)) (by unfold RQ; omega)) (by unfold RQ; omega)) (Fr_mono (fun a j q => by unfold RQ; omega) r1.2), ?_, ?_, ?_⟩
  · rintro x M' ⟨x0, xn, hI, ⟨c, hS⟩, hF, g1, g2, g3⟩ ih
    have bI := RI_b hI
    have e2 : M' 85 2 = wOd W := bI.1.2.2.1
    have hw := @wF_r (wOd W) (evN (wR W)) x (by omega) (by omega)
    have hq : ∀ S, 0 ≤ S → S < x → 0 ≤ wF (wOd W) (evN (wR W)) S ∧ wF (wOd W) (evN (wR W)) S ≤ 100000000 := fun S _ _ => (@wF_r (wOd W) (evN (wR W)) S (by omega) (by omega)).2
    have bA := sum_b (w := fun S => wF (wOd W) (evN (wR W)) S) (V := fun _ => 1) x0 hq (fun S _ _ => by omega)
    have bS := sum_b (w := fun S => wF (wOd W) (evN (wR W)) S) (V := fun S => vSt W w S) x0 hq (fun S _ _ => vSt_b)
    have bH := sum_b (w := fun S => wF (wOd W) (evN (wR W)) S) (V := fun S => vHa W S) x0 hq (fun S _ _ => vHa_b h.1)
    have sA : pA W (x + 1) = pA W x + wF (wOd W) (evN (wR W)) x := (iter_last x0).trans (by show pA W x + wF (wOd W) (evN (wR W)) x * 1 = _; omega)
    have sS : pS W w (x + 1) = pS W w x + wF (wOd W) (evN (wR W)) x * vSt W w x := iter_last x0
    have sH : pH W (x + 1) = pH W x + wF (wOd W) (evN (wR W)) x * vHa W x := iter_last x0
    have bA' : 0 ≤ pA W x ∧ pA W x ≤ 36000000000 * x := bA
    have bS' : 0 ≤ pS W w x ∧ pS W w x ≤ 36000000000 * x := bS
    have bH' : 0 ≤ pH W x ∧ pH W x ≤ 36000000000 * x := bH
    have hI3 : RI0 (dsSet M' 84 18 x) W := RI0_e hI (fun j => ds_gn (by omega))
    have hg : bCt 234 [uR 11 84, uX 0] (dsSet M' 84 18 x) (fun _ => []) (fun M2 => RR M2 (PR W x) ∧ RI0 M2 W ∧ RVPR M2 W x ∧ Fr GF (dsSet M' 84 18 x) M2) := by
      intro Q hQ
      have hP := rpPR hI3 (RSv_18 hS) trivial
      exact goAll_ct (PR_ok h.1 trivial) hP.1 hP.2 Q (fun M2 r => hQ M2 ⟨r.1, RI0_e hI3 (fun j => r.2.2.2 _ _ (by unfold GF; omega)), RSv_e (RSv_18 hS) (fun a j q => r.2.2.2 a j (by unfold GF; omega)), r.2.2.2⟩)
    refine r314_28 (k1 := fun q => ?k1) (s1 := fun q i a i0 i1 q2 => by omega) (s2 := fun q i a i0 i1 => by omega) (hA1 := fun q q2 => hg) (s3 := fun q q2 M2 r => by have b2 := RI_b r.2.1; omega) (s4 := fun q q2 M2 r i a i0 i1 => ?s4) (s5 := fun q q2 M2 r i a i0 i1 => ?s5) (s6 := fun q q2 M2 r => by omega) (k2 := fun q q2 M2 r => ?k2) (s7 := fun q q2 => by omega) (k3 := fun q q2 => ?k3)
    case k1 =>
      have ex : x = dsShl 1 (evN (wR W)) := by omega
      subst ex
      exact hQ M' ⟨hI, g1, g2, g3, hF⟩
    case s4 =>
      have b2 := RI_b r.2.1
      rw [ds_gn (by omega), ds_gn (by omega)] at i1
      rw [ds_gn (by omega), ds_gn (by omega)]; omega
    case s5 =>
      have b2 := RI_b r.2.1
      rw [ds_gn (by omega), ds_gn (by omega)] at i1; omega
    case k3 =>
      rw [e2, hw.1] at q2
      refine ih (x + 1) M' (by omega) ⟨by omega, by omega, hI, ⟨_, hS⟩, hF, ?_, ?_, ?_⟩
      · rw [sA, q2, Int.add_zero]; exact g1
      · rw [sS, q2, Int.zero_mul, Int.add_zero]; exact g2
      · rw [sH, q2, Int.zero_mul, Int.add_zero]; exact g3
    case k2 =>
      rw [e2, hw.1] at q2 ⊢
      have b2 := RI_b r.2.1
      have j46 : M2 84 46 = pA W x := by rw [r.2.2.2 84 46 (by unfold GF; omega), ds_gn (by omega)]; exact g1
      have j47 : M2 84 47 = pS W w x := by rw [r.2.2.2 84 47 (by unfold GF; omega), ds_gn (by omega)]; exact g2
      have j48 : M2 84 48 = pH W x := by rw [r.2.2.2 84 48 (by unfold GF; omega), ds_gn (by omega)]; exact g3
      have jU : dsAnd (dsShr (M2 107 (M2 85 0)) w) 1 = vSt W w x := by rw [rY0 r.2.1, RR_U r.1 (by show 0 ≤ wY W ∧ wY W ≤ wY W; omega)]
      have jH : ∀ u v : Int, v243 (dsSet (dsSet M2 84 46 u) 84 47 v) = vHa W x := by
        intro u v
        refine v243_eq (RR_e (PR_ok h.1 trivial) r.1 (fun a j q => by rw [ds_gn (by omega), ds_gn (by omega)])) (RI0_e r.2.1 (fun j => by rw [ds_gn (by omega), ds_gn (by omega)])) rfl rfl
      have hV := @vHa_b W x h.1
      have hV2 := @vSt_b W w x
      have m1 : wF (wOd W) (evN (wR W)) x * vHa W x ≤ wF (wOd W) (evN (wR W)) x * 360 := Int.mul_le_mul_of_nonneg_left hV.2 hw.2.1
      have m2 : 0 ≤ wF (wOd W) (evN (wR W)) x * vHa W x := Int.mul_nonneg hw.2.1 hV.1
      have m3 : wF (wOd W) (evN (wR W)) x * vSt W w x ≤ wF (wOd W) (evN (wR W)) x * 360 := Int.mul_le_mul_of_nonneg_left hV2.2 hw.2.1
      have m4 : 0 ≤ wF (wOd W) (evN (wR W)) x * vSt W w x := Int.mul_nonneg hw.2.1 hV2.1
      rw [jH, j46, j47, j48, jU, ← sA, ← sS, ← sH, dsw64_id (x := pA W (x + 1)) (by omega) (by omega), dsw64_id (x := pS W w (x + 1)) (by omega) (by omega), dsw64_id (x := pH W (x + 1)) (by omega) (by omega)]
      refine ih (x + 1) _ (by omega) ⟨by omega, by omega, RI0_e r.2.1 (fun j => by rw [ds_gn (by omega), ds_gn (by omega), ds_gn (by omega)]), ⟨_, RSv_e r.2.2.1 (fun a j q => by rw [ds_gn (by omega), ds_gn (by omega), ds_gn (by omega)])⟩, ?_, ?_, ?_, ?_⟩
      · refine Fr_trans (Fr_trans hF (Fr_trans (Fr_set Fr_refl (by unfold RQ; omega)) (Fr_mono (fun a j q => by unfold GF at q; unfold RQ; omega) r.2.2.2))) (Fr_set (Fr_set (Fr_set Fr_refl (by unfold RQ; omega)) (by unfold RQ; omega)) (by unfold RQ; omega))
      · rw [ds_gn (by omega), ds_gn (by omega), ds_ge (by omega)]
      · rw [ds_gn (by omega), ds_ge (by omega)]
      · rw [ds_ge (by omega)]
  · rw [r1.2 84 46 (by omega)]; simp (disch := omega) only [ds_gn, ds_ge]
    exact (dsIter_end (by omega)).symm
  · rw [r1.2 84 47 (by omega)]; simp (disch := omega) only [ds_gn, ds_ge]
    exact (dsIter_end (by omega)).symm
  · rw [r1.2 84 48 (by omega)]; simp (disch := omega) only [ds_gn, ds_ge]
    exact (dsIter_end (by omega)).symm
theorem pB {W : dsW} {w : Int} (h : WOK W) : (0 < pA W (dsShl 1 (evN (wR W))) ∧ pA W (dsShl 1 (evN (wR W))) < 4611686018427387904) ∧ (0 ≤ pS W w (dsShl 1 (evN (wR W))) ∧ pS W w (dsShl 1 (evN (wR W))) < 4611686018427387904) ∧ 0 ≤ pH W (dsShl 1 (evN (wR W))) ∧ pH W (dsShl 1 (evN (wR W))) < 4611686018427387904 := by
  have k := h.1
  have hs := @shl_j (evN (wR W)) (by omega)
  have hc := cW_pos (inT W) (evN (wR W)).toNat
  rw [show (((evN (wR W)).toNat : Nat) : Int) = evN (wR W) by omega] at hc
  have e2 : pA W (dsShl 1 (evN (wR W))) = cW (inT W) (evN (wR W)) * oAll W := by
    rw [(oAll_eq h).1]; exact sets_W h (fun _ => 1)
  have hpos : 0 < cW (inT W) (evN (wR W)) * oAll W := Int.mul_pos (by omega) (by have := oAll_eq h; omega)
  have hq : ∀ S, 0 ≤ S → S < dsShl 1 (evN (wR W)) → 0 ≤ wF (wOd W) (evN (wR W)) S ∧ wF (wOd W) (evN (wR W)) S ≤ 100000000 := fun S _ _ => (@wF_r (wOd W) (evN (wR W)) S (by omega) (by omega)).2
  have bA : 0 ≤ pA W (dsShl 1 (evN (wR W))) ∧ pA W (dsShl 1 (evN (wR W))) ≤ 36000000000 * dsShl 1 (evN (wR W)) := sum_b (w := fun S => wF (wOd W) (evN (wR W)) S) (V := fun _ => 1) (by omega) hq (fun S _ _ => by omega)
  have bS : 0 ≤ pS W w (dsShl 1 (evN (wR W))) ∧ pS W w (dsShl 1 (evN (wR W))) ≤ 36000000000 * dsShl 1 (evN (wR W)) := sum_b (w := fun S => wF (wOd W) (evN (wR W)) S) (V := fun S => vSt W w S) (by omega) hq (fun S _ _ => vSt_b)
  have bH : 0 ≤ pH W (dsShl 1 (evN (wR W))) ∧ pH W (dsShl 1 (evN (wR W))) ≤ 36000000000 * dsShl 1 (evN (wR W)) := sum_b (w := fun S => wF (wOd W) (evN (wR W)) S) (V := fun S => vHa W S) (by omega) hq (fun S _ _ => vHa_b h)
  omega
theorem rq315 {M : dsMem} {W : dsW} {w x : Int} (h : RI0 M W) : bCt 315 [uR 11 84, uI w, uI x] M (fun _ => [uJ (aCha W w x)]) (fun M' => RI0 M' W ∧ Fr RQ M M') := by
  intro Q hQ
  have b := RI_b h
  have hp := @pB W w h.1
  refine r315_0 (k1 := fun q => q_eqJ ?_ (hQ M ⟨h, Fr_refl⟩)) (hA1 := fun q q2 => layR_ct h) (hA2 := fun q q2 M1 r => part_ct (a := M1 84 47) (b := M1 84 46) (by rw [r.2.2.1]; omega) (by rw [r.2.1]; omega)) (k2 := fun q q2 M1 r M2 r2 => ?_) (k3 := fun q q2 => q_eqJ ?_ (hQ M ⟨h, Fr_refl⟩))
  · unfold aCha; rw [if_neg (by omega)]
  · subst r2
    refine q_eqJ ?_ (hQ M2 ⟨r.1, r.2.2.2.2⟩)
    unfold aCha; rw [if_pos (by omega), r.2.1, r.2.2.1, low_sta h.1]
  · unfold aCha; rw [if_neg (by omega)]
theorem rq316 {M : dsMem} {W : dsW} {x : Int} (h : RI0 M W) : bCt 316 [uR 11 84, uI x] M (fun _ => [uJ (aMea W x)]) (fun M' => RI0 M' W ∧ Fr RQ M M') := by
  intro Q hQ
  have b := RI_b h
  have hp := @pB W 0 h.1
  refine r316_0 (k1 := fun q => q_eqJ ?_ (hQ M ⟨h, Fr_refl⟩)) (hA1 := fun q q2 => layR_ct h) (hA2 := fun q q2 M1 r => part_ct (a := M1 84 48) (b := M1 84 46) (by rw [r.2.2.2.1]; omega) (by rw [r.2.1]; omega)) (k2 := fun q q2 M1 r M2 r2 => ?_) (k3 := fun q q2 => q_eqJ ?_ (hQ M ⟨h, Fr_refl⟩))
  · unfold aMea; rw [if_neg (by omega)]
  · subst r2
    refine q_eqJ ?_ (hQ M2 ⟨r.1, r.2.2.2.2⟩)
    unfold aMea; rw [if_pos (by omega), r.2.1, r.2.2.2.1, low_has h.1]
  · unfold aMea; rw [if_neg (by omega)]
