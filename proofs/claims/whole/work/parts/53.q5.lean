/-! questions: what would be otherwise -/
def bst (f : Int → Int) (i : Int) (a : Int × Int) : Int × Int := if f i ≤ a.2 then a else (i, f i)
def bsl (f : Int → Int) (i : Int) (a : Int × Int) : Int × Int := if a.2 ≤ f i then a else (i, f i)
theorem bst_y {f : Int → Int} {i x z : Int} (h : f i ≤ x) : bst f i (z, x) = (z, x) := if_pos h
theorem bst_n {f : Int → Int} {i x z : Int} (h : ¬ f i ≤ x) : bst f i (z, x) = (i, f i) := if_neg h
theorem bsl_y {f : Int → Int} {i x z : Int} (h : x ≤ f i) : bsl f i (z, x) = (z, x) := if_pos h
theorem bsl_n {f : Int → Int} {i x z : Int} (h : ¬ x ≤ f i) : bsl f i (z, x) = (i, f i) := if_neg h
theorem stU_b {P : dsP} {y : Int} (hP : POK P) : 0 ≤ sU (stP P y) ∧ sU (stP P y) < 8 := by
  have h := stP_U hP y
  unfold UB at h
  have := @shl_w (pW P) (by have := hP.1; omega)
  omega
theorem v244_eq {M : dsMem} {W : dsW} {P : dsP} (hr : RR M P) (hI : RI0 M W) (hY : pY P = wY W) : v244 M = bitc (sU (stP P (wY W))) := by
  have b := RI_b hI
  show v178 M (M 107 (M 85 0)) = _
  rw [rY0 hI, RR_U hr (by omega), v178_eq]
theorem v243_eq {M : dsMem} {W : dsW} {P : dsP} (hr : RR M P) (hI : RI0 M W) (hY : pY P = wY W) (hN : pN P = wN W) : v243 M = wTot P (wY W) := by
  have b := RI_b hI
  show v242 M (M 85 0) = _
  rw [rY0 hI, RR242 hr (by rw [rN4 hI, hN]) (by omega)]
-- blame, needed
def fBla (W : dsW) (r : Int) : Int := bitc (sU (stP (PBl W r) (wY W)))
def aBla (W : dsW) : Int := if 0 < wLn W then (dsIter (bst (fBla W)) 0 (evN (wR W)) (-1, bitc (sU (stP (P0 W) (wY W))))).1 else -2
theorem cq113 {M : dsMem} {W : dsW} (h : CI M W) : bCt 113 [uR 10 0, uX 0, uX 0, uX 0, uX 0, uX 0] M (fun _ => [uI (aBla W)]) (fun M' => CI M' W ∧ Fr CQ M M') := by
  intro Q hQ
  have b := CI_b h
  have e0 : ∀ M1, CN M1 W → M1 54 (M1 24 1) = sU (stP (P0 W) (wY W)) := fun M1 r => by rw [cY1 r.1, cU r (by omega)]
  have u0 := @stU_b (P0 W) (wY W) (P0_ok h.1)
  refine r113n_0 (hA1 := fun _ => asNow_ct h) (s1 := fun q1 M1 r1 => by have b1 := CI_b r1.1.1; omega) (hA2 := fun q1 M1 r1 => cnt_ct (x := M1 54 (M1 24 1)) (by rw [e0 M1 r1.1]; omega)) (k1 := fun q1 M1 r1 M2 r2 => ?_) (k2 := fun q1 => ?_)
  · subst r2
    rw [e0 M2 r1.1]
    obtain ⟨u1, hu1⟩ : ∃ u, bitc (sU (stP (P0 W) (wY W))) = u := ⟨_, rfl⟩
    rw [hu1]
    refine b_loop (fun (a : Int × Int × Int) => [uR 10 0, uI a.1, uI a.2.1, uI a.2.2, uX 0, uX 0]) (fun a M' => 0 ≤ a.2.2 ∧ CI M' W ∧ Fr CQ M M' ∧ (dsIter (bst (fBla W)) a.2.2 (evN (wR W)) (a.1, a.2.1)).1 = aBla W) (fun a => (evN (wR W) - a.2.2).toNat) ?_ (-1, u1, 0) M2 ⟨by show (0 : Int) ≤ 0; omega, r1.1.1, r1.2, by unfold aBla; rw [if_pos (by omega), hu1]⟩
    rintro ⟨x1, x2, x3⟩ M' ⟨h0, hI, hF, e⟩ ih
    have bI := CI_b hI
    show bB 113 33 [uR 10 0, uI x1, uI x2, uI x3, uX 0, uX 0] [] M' Q
    simp only at h0 e
    refine r113n_33 (k1 := fun q => ?_) (hA1 := fun q => oth_ct) (hA2 := fun q M1 r1 => wl_ct hI (cpPBl hI.1 hI.2.1 r1 (by omega)).2 (PBl_ok hI.1 (by omega)) (fun _ _ => rfl) (cpPBl hI.1 hI.2.1 r1 (by omega)).1 rfl) (hA3 := fun q M1 r1 M2 r2 => cnt_ct (by have := @stU_b (PBl W x3) (wY W) (PBl_ok hI.1 (by omega)); omega)) (k2 := fun q M1 r1 M2 r2 M3 r3 q2 => ?_) (k3 := fun q M1 r1 M2 r2 M3 r3 q2 => ?_)
    · rw [dsIter_end (by omega)] at e
      exact q_eq e (hQ M' ⟨hI, hF⟩)
    · subst r3
      rw [dsIter_step (by omega), bst_y (f := fBla W) q2] at e
      exact ih (x1, x2, x3 + 1) M3 (by show (evN (wR W) - (x3 + 1)).toNat < (evN (wR W) - x3).toNat; omega) ⟨by show 0 ≤ x3 + 1; omega, CI_q hI r2, Fr_trans hF (CQ2_q r2), e⟩
    · subst r3
      rw [dsIter_step (by omega), bst_n (f := fBla W) q2] at e
      obtain ⟨z, hz⟩ : ∃ z, fBla W x3 = z := ⟨_, rfl⟩
      have hz' : bitc (sU (stP (PBl W x3) (wY W))) = z := hz
      rw [hz] at e
      rw [hz']
      exact ih (x3, z, x3 + 1) M3 (by show (evN (wR W) - (x3 + 1)).toNat < (evN (wR W) - x3).toNat; omega) ⟨by show 0 ≤ x3 + 1; omega, CI_q hI r2, Fr_trans hF (CQ2_q r2), e⟩
  · refine q_eq ?_ (hQ M ⟨h, Fr_refl⟩)
    unfold aBla; rw [if_neg (by omega)]
theorem rq285 {M : dsMem} {W : dsW} (h : RI0 M W) : bCt 285 [uR 11 84, uX 0, uX 0, uX 0] M (fun _ => [uI (aBla W)]) (fun M' => RI0 M' W ∧ Fr RQ M M') := by
  intro Q hQ
  have b := RI_b h
  refine r285_0 (hA1 := asksChoir_ct h) (s1 := fun M1 r1 q1 => by have b1 := RI_b r1.1.1; omega) (k1 := fun M1 r1 q1 => ?_) (k2 := fun M1 r1 q1 => ?_)
  · have z1 := if01_1 q1
    rw [v244_eq (P := P0 W) r1.1.2.2 r1.1.1 rfl]
    obtain ⟨u1, hu1⟩ : ∃ u, bitc (sU (stP (P0 W) (wY W))) = u := ⟨_, rfl⟩
    rw [hu1]
    refine b_loop (fun (a : Int × Int × Int) => [uR 11 84, uI a.1, uI a.2.1, uI a.2.2]) (fun a M' => 0 ≤ a.2.2 ∧ RI0 M' W ∧ (∃ c, RSv M' W (wLw W) c 63 (dsShl 1 (wN W) - 1) 0 0 (-1) (wRo W) (wBe W)) ∧ Fr RQ M M' ∧ (dsIter (bst (fBla W)) a.2.2 (evN (wR W)) (a.2.1, a.1)).1 = aBla W) (fun a => (evN (wR W) - a.2.2).toNat) ?_ (u1, -1, 0) M1 ⟨by show (0 : Int) ≤ 0; omega, r1.1.1, ⟨255, r1.1.2.1⟩, r1.2, by unfold aBla; rw [if_pos z1, hu1]⟩
    rintro ⟨x1, x2, x3⟩ M' ⟨h0, hI, ⟨c, hS⟩, hF, e⟩ ih
    have bI := RI_b hI
    show bB 285 19 [uR 11 84, uI x1, uI x2, uI x3] [] M' Q
    simp only at h0 e
    have hI2 : RI0 (dsSet M' 84 18 (dsAnd 255 (dsXor (dsShl 1 x3) (-1)))) W := RI0_e hI (fun j => ds_gn (by omega))
    refine r285_19 (k1 := fun q => ?_) (hA1 := fun q => rgo hI2 (RSv_18 hS) (PBl_ok hI.1 (by omega)) (rpPBl hI2 (RSv_18 hS) (by omega))) (s1 := fun q M1 r => by have b1 := RI_b r.2.1; omega) (k2 := fun q M1 r q2 => ?_) (k3 := fun q M1 r q2 => ?_)
    · rw [dsIter_end (by omega)] at e
      exact q_eq e (hQ M' ⟨hI, hF⟩)
    · rw [v244_eq r.1 r.2.1 rfl] at q2 ⊢
      rw [dsIter_step (by omega), bst_n (f := fBla W) (show ¬ bitc (sU (stP (PBl W x3) (wY W))) ≤ x1 by omega)] at e
      obtain ⟨z, hz⟩ : ∃ z, fBla W x3 = z := ⟨_, rfl⟩
      have hz' : bitc (sU (stP (PBl W x3) (wY W))) = z := hz
      rw [hz] at e
      rw [hz']
      exact ih (z, x3, x3 + 1) M1 (by show (evN (wR W) - (x3 + 1)).toNat < (evN (wR W) - x3).toNat; omega) ⟨by show 0 ≤ x3 + 1; omega, r.2.1, ⟨_, r.2.2.1⟩, Fr_rq r.2.2.2 (by omega) hF, e⟩
    · rw [v244_eq r.1 r.2.1 rfl] at q2
      rw [dsIter_step (by omega), bst_y (f := fBla W) (show bitc (sU (stP (PBl W x3) (wY W))) ≤ x1 by omega)] at e
      exact ih (x1, x2, x3 + 1) M1 (by show (evN (wR W) - (x3 + 1)).toNat < (evN (wR W) - x3).toNat; omega) ⟨by show 0 ≤ x3 + 1; omega, r.2.1, ⟨_, r.2.2.1⟩, Fr_rq r.2.2.2 (by omega) hF, e⟩
  · have z1 := if01_0 q1
    refine q_eq ?_ (hQ M1 ⟨r1.1.1, r1.2⟩)
    unfold aBla; rw [if_neg (by omega)]
def fNee (W : dsW) (r : Int) : Int := bitc (sU (stP (PTl W r) (wY W)))
def aNee (W : dsW) : Int := if 0 < wLn W then (dsIter (bsl (fNee W)) 0 (evN (wT W)) (-1, bitc (sU (stP (P0 W) (wY W))))).1 else -2
theorem cq114 {M : dsMem} {W : dsW} (h : CI M W) : bCt 114 [uR 10 0, uX 0, uX 0, uX 0, uX 0, uX 0] M (fun _ => [uI (aNee W)]) (fun M' => CI M' W ∧ Fr CQ M M') := by
  intro Q hQ
  have b := CI_b h
  have e0 : ∀ M1, CN M1 W → M1 54 (M1 24 1) = sU (stP (P0 W) (wY W)) := fun M1 r => by rw [cY1 r.1, cU r (by omega)]
  have u0 := @stU_b (P0 W) (wY W) (P0_ok h.1)
  refine r114n_0 (hA1 := fun _ => asNow_ct h) (s1 := fun q1 M1 r1 => by have b1 := CI_b r1.1.1; omega) (hA2 := fun q1 M1 r1 => cnt_ct (x := M1 54 (M1 24 1)) (by rw [e0 M1 r1.1]; omega)) (k1 := fun q1 M1 r1 M2 r2 => ?_) (k2 := fun q1 => ?_)
  · subst r2
    rw [e0 M2 r1.1]
    obtain ⟨u1, hu1⟩ : ∃ u, bitc (sU (stP (P0 W) (wY W))) = u := ⟨_, rfl⟩
    rw [hu1]
    refine b_loop (fun (a : Int × Int × Int) => [uR 10 0, uI a.1, uI a.2.1, uI a.2.2, uX 0, uX 0]) (fun a M' => 0 ≤ a.2.2 ∧ CI M' W ∧ Fr CQ M M' ∧ (dsIter (bsl (fNee W)) a.2.2 (evN (wT W)) (a.1, a.2.1)).1 = aNee W) (fun a => (evN (wT W) - a.2.2).toNat) ?_ (-1, u1, 0) M2 ⟨by show (0 : Int) ≤ 0; omega, r1.1.1, r1.2, by unfold aNee; rw [if_pos (by omega), hu1]⟩
    rintro ⟨x1, x2, x3⟩ M' ⟨h0, hI, hF, e⟩ ih
    have bI := CI_b hI
    show bB 114 33 [uR 10 0, uI x1, uI x2, uI x3, uX 0, uX 0] [] M' Q
    simp only at h0 e
    refine r114n_33 (k1 := fun q => ?_) (hA1 := fun q => oth_ct) (hA2 := fun q M1 r1 => wl_ct hI (cpPTl hI.1 hI.2.1 r1 (by omega)).2 (PTl_ok hI.1 (by omega)) (fun _ _ => rfl) (cpPTl hI.1 hI.2.1 r1 (by omega)).1 rfl) (hA3 := fun q M1 r1 M2 r2 => cnt_ct (by have := @stU_b (PTl W x3) (wY W) (PTl_ok hI.1 (by omega)); omega)) (k2 := fun q M1 r1 M2 r2 M3 r3 q2 => ?_) (k3 := fun q M1 r1 M2 r2 M3 r3 q2 => ?_)
    · rw [dsIter_end (by omega)] at e
      exact q_eq e (hQ M' ⟨hI, hF⟩)
    · subst r3
      rw [dsIter_step (by omega), bsl_y (f := fNee W) q2] at e
      exact ih (x1, x2, x3 + 1) M3 (by show (evN (wT W) - (x3 + 1)).toNat < (evN (wT W) - x3).toNat; omega) ⟨by show 0 ≤ x3 + 1; omega, CI_q hI r2, Fr_trans hF (CQ2_q r2), e⟩
    · subst r3
      rw [dsIter_step (by omega), bsl_n (f := fNee W) q2] at e
      obtain ⟨z, hz⟩ : ∃ z, fNee W x3 = z := ⟨_, rfl⟩
      have hz' : bitc (sU (stP (PTl W x3) (wY W))) = z := hz
      rw [hz] at e
      rw [hz']
      exact ih (x3, z, x3 + 1) M3 (by show (evN (wT W) - (x3 + 1)).toNat < (evN (wT W) - x3).toNat; omega) ⟨by show 0 ≤ x3 + 1; omega, CI_q hI r2, Fr_trans hF (CQ2_q r2), e⟩
  · refine q_eq ?_ (hQ M ⟨h, Fr_refl⟩)
    unfold aNee; rw [if_neg (by omega)]
theorem rq286 {M : dsMem} {W : dsW} (h : RI0 M W) : bCt 286 [uR 11 84, uX 0, uX 0, uX 0] M (fun _ => [uI (aNee W)]) (fun M' => RI0 M' W ∧ Fr RQ M M') := by
  intro Q hQ
  have b := RI_b h
  refine r286_0 (hA1 := asksChoir_ct h) (s1 := fun M1 r1 q1 => by have b1 := RI_b r1.1.1; omega) (k1 := fun M1 r1 q1 => ?_) (k2 := fun M1 r1 q1 => ?_)
  · have z1 := if01_1 q1
    rw [v244_eq (P := P0 W) r1.1.2.2 r1.1.1 rfl]
    obtain ⟨u1, hu1⟩ : ∃ u, bitc (sU (stP (P0 W) (wY W))) = u := ⟨_, rfl⟩
    rw [hu1]
    refine b_loop (fun (a : Int × Int × Int) => [uR 11 84, uI a.1, uI a.2.1, uI a.2.2]) (fun a M' => 0 ≤ a.2.2 ∧ RI0 M' W ∧ (∃ c, RSv M' W (wLw W) 255 c (dsShl 1 (wN W) - 1) 0 0 (-1) (wRo W) (wBe W)) ∧ Fr RQ M M' ∧ (dsIter (bsl (fNee W)) a.2.2 (evN (wT W)) (a.2.1, a.1)).1 = aNee W) (fun a => (evN (wT W) - a.2.2).toNat) ?_ (u1, -1, 0) M1 ⟨by show (0 : Int) ≤ 0; omega, r1.1.1, ⟨63, r1.1.2.1⟩, r1.2, by unfold aNee; rw [if_pos z1, hu1]⟩
    rintro ⟨x1, x2, x3⟩ M' ⟨h0, hI, ⟨c, hS⟩, hF, e⟩ ih
    have bI := RI_b hI
    show bB 286 19 [uR 11 84, uI x1, uI x2, uI x3] [] M' Q
    simp only at h0 e
    have hI2 : RI0 (dsSet M' 84 19 (dsAnd 63 (dsXor (dsShl 1 x3) (-1)))) W := RI0_e hI (fun j => ds_gn (by omega))
    refine r286_19 (k1 := fun q => ?_) (hA1 := fun q => rgo hI2 (RSv_19 hS) (PTl_ok hI.1 (by omega)) (rpPTl hI2 (RSv_19 hS) (by omega))) (s1 := fun q M1 r => by have b1 := RI_b r.2.1; omega) (k2 := fun q M1 r q2 => ?_) (k3 := fun q M1 r q2 => ?_)
    · rw [dsIter_end (by omega)] at e
      exact q_eq e (hQ M' ⟨hI, hF⟩)
    · rw [v244_eq r.1 r.2.1 rfl] at q2 ⊢
      rw [dsIter_step (by omega), bsl_n (f := fNee W) (show ¬ x1 ≤ bitc (sU (stP (PTl W x3) (wY W))) by omega)] at e
      obtain ⟨z, hz⟩ : ∃ z, fNee W x3 = z := ⟨_, rfl⟩
      have hz' : bitc (sU (stP (PTl W x3) (wY W))) = z := hz
      rw [hz] at e
      rw [hz']
      exact ih (z, x3, x3 + 1) M1 (by show (evN (wT W) - (x3 + 1)).toNat < (evN (wT W) - x3).toNat; omega) ⟨by show 0 ≤ x3 + 1; omega, r.2.1, ⟨_, r.2.2.1⟩, Fr_rq r.2.2.2 (by omega) hF, e⟩
    · rw [v244_eq r.1 r.2.1 rfl] at q2
      rw [dsIter_step (by omega), bsl_y (f := fNee W) (show x1 ≤ bitc (sU (stP (PTl W x3) (wY W))) by omega)] at e
      exact ih (x1, x2, x3 + 1) M1 (by show (evN (wT W) - (x3 + 1)).toNat < (evN (wT W) - x3).toNat; omega) ⟨by show 0 ≤ x3 + 1; omega, r.2.1, ⟨_, r.2.2.1⟩, Fr_rq r.2.2.2 (by omega) hF, e⟩
  · have z1 := if01_0 q1
    refine q_eq ?_ (hQ M1 ⟨r1.1.1, r1.2⟩)
    unfold aNee; rw [if_neg (by omega)]
-- heavy
def fHea (W : dsW) (s : Int) : Int := wTot (PBu W (dsShl 1 s)) (wY W)
def aHea (W : dsW) : Int := if 0 < wLn W then (dsIter (bsl (fHea W)) 0 (wN W) (-1, wTot (P0 W) (wY W))).1 else -2
theorem cq116 {M : dsMem} {W : dsW} (h : CI M W) : bCt 116 [uR 10 0, uX 0, uX 0, uX 0, uX 0, uX 0] M (fun _ => [uI (aHea W)]) (fun M' => CI M' W ∧ Fr CQ M M') := by
  intro Q hQ
  have b := CI_b h
  refine r116_0 (hA1 := fun _ => asNow_ct h) (s1 := fun q1 M1 r1 i a i0 i1 => by have b1 := CI_b r1.1.1; omega) (s2 := fun q1 M1 r1 i a i0 i1 => by have b1 := CI_b r1.1.1; omega) (s3 := fun q1 M1 r1 i a i0 i1 => by have b1 := CI_b r1.1.1; omega) (k1 := fun q1 M1 r1 => ?_) (k2 := fun q1 => ?_)
  · rw [cY1 r1.1.1, c24 r1.1 (by omega)]
    refine b_loop (fun (a : Int × Int × Int) => [uR 10 0, uI a.1, uI a.2.1, uI a.2.2, uX 0, uX 0]) (fun a M' => 0 ≤ a.2.2 ∧ CI M' W ∧ Fr CQ M M' ∧ (dsIter (bsl (fHea W)) a.2.2 (wN W) (a.1, a.2.1)).1 = aHea W) (fun a => (wN W - a.2.2).toNat) ?_ (-1, wTot (P0 W) (wY W), 0) M1 ⟨by show (0 : Int) ≤ 0; omega, r1.1.1, r1.2, by unfold aHea; rw [if_pos (by omega)]⟩
    rintro ⟨x1, x2, x3⟩ M' ⟨h0, hI, hF, e⟩ ih
    have bI := CI_b hI
    show bB 116 29 [uR 10 0, uI x1, uI x2, uI x3, uX 0, uX 0] [] M' Q
    simp only at h0 e
    refine r116_29 (k1 := fun q => ?_) (hA1 := fun q => oth_ct) (hA2 := fun q M1 r1 => cRun (cpPBu hI.1 hI.2.1 r1 trivial).2 (PBu_ok hI.1 trivial) (fun _ _ => rfl) (cpPBu hI.1 hI.2.1 r1 trivial).1) (s1 := fun q M1 r1 M2 r2 i a i0 i1 => by have b2 := CI_b (CI_q hI r2.2); omega) (s2 := fun q M1 r1 M2 r2 i a i0 i1 => by have b2 := CI_b (CI_q hI r2.2); omega) (s3 := fun q M1 r1 M2 r2 i a i0 i1 => by have b2 := CI_b (CI_q hI r2.2); omega) (k2 := fun q M1 r1 M2 r2 q2 => ?_) (k3 := fun q M1 r1 M2 r2 q2 => ?_)
    · rw [dsIter_end (by omega)] at e
      exact q_eq e (hQ M' ⟨hI, hF⟩)
    · have hI2 := CI_q hI r2.2
      rw [cY1 hI2, q24 r2.1 (cN5 hI2) (by show 0 ≤ wY W ∧ wY W ≤ wY W; omega)] at q2
      rw [dsIter_step (by omega), bsl_y (f := fHea W) q2] at e
      exact ih (x1, x2, x3 + 1) M2 (by show (wN W - (x3 + 1)).toNat < (wN W - x3).toNat; omega) ⟨by show 0 ≤ x3 + 1; omega, hI2, Fr_trans hF (CQ2_q r2.2), e⟩
    · have hI2 := CI_q hI r2.2
      rw [cY1 hI2, q24 r2.1 (cN5 hI2) (by show 0 ≤ wY W ∧ wY W ≤ wY W; omega)] at q2 ⊢
      rw [dsIter_step (by omega), bsl_n (f := fHea W) q2] at e
      exact ih (x3, _, x3 + 1) M2 (by show (wN W - (x3 + 1)).toNat < (wN W - x3).toNat; omega) ⟨by show 0 ≤ x3 + 1; omega, hI2, Fr_trans hF (CQ2_q r2.2), e⟩
  · refine q_eq ?_ (hQ M ⟨h, Fr_refl⟩)
    unfold aHea; rw [if_neg (by omega)]
theorem rq288 {M : dsMem} {W : dsW} (h : RI0 M W) : bCt 288 [uR 11 84, uX 0, uX 0, uX 0] M (fun _ => [uI (aHea W)]) (fun M' => RI0 M' W ∧ Fr RQ M M') := by
  intro Q hQ
  have b := RI_b h
  refine r288_0 (hA1 := asksChoir_ct h) (s1 := fun M1 r1 q1 i a i0 i1 => by have b1 := RI_b r1.1.1; omega) (s2 := fun M1 r1 q1 i a i0 i1 => by have b1 := RI_b r1.1.1; omega) (k1 := fun M1 r1 q1 => ?_) (k2 := fun M1 r1 q1 => ?_)
  · have z1 := if01_1 q1
    rw [v243_eq (P := P0 W) r1.1.2.2 r1.1.1 rfl rfl]
    refine b_loop (fun (a : Int × Int × Int) => [uR 11 84, uI a.1, uI a.2.1, uI a.2.2]) (fun a M' => 0 ≤ a.2.2 ∧ RI0 M' W ∧ (∃ c, RSv M' W (wLw W) 255 63 (dsShl 1 (wN W) - 1) c 0 (-1) (wRo W) (wBe W)) ∧ Fr RQ M M' ∧ (dsIter (bsl (fHea W)) a.2.2 (wN W) (a.2.1, a.1)).1 = aHea W) (fun a => (wN W - a.2.2).toNat) ?_ (wTot (P0 W) (wY W), -1, 0) M1 ⟨by show (0 : Int) ≤ 0; omega, r1.1.1, ⟨0, r1.1.2.1⟩, r1.2, by unfold aHea; rw [if_pos z1]⟩
    rintro ⟨x1, x2, x3⟩ M' ⟨h0, hI, ⟨c, hS⟩, hF, e⟩ ih
    have bI := RI_b hI
    show bB 288 19 [uR 11 84, uI x1, uI x2, uI x3] [] M' Q
    simp only at h0 e
    have hI2 : RI0 (dsSet M' 84 21 (dsShl 1 x3)) W := RI0_e hI (fun j => ds_gn (by omega))
    refine r288_19 (k1 := fun q => ?_) (hA1 := fun q => rgo hI2 (RSv_21 hS) (PBu_ok hI.1 trivial) (rpPBu hI2 (RSv_21 hS) trivial)) (s1 := fun q M1 r i a i0 i1 => by have b1 := RI_b r.2.1; omega) (s2 := fun q M1 r i a i0 i1 => by have b1 := RI_b r.2.1; omega) (k2 := fun q M1 r q2 => ?_) (k3 := fun q M1 r q2 => ?_)
    · rw [dsIter_end (by omega)] at e
      exact q_eq e (hQ M' ⟨hI, hF⟩)
    · rw [v243_eq r.1 r.2.1 rfl rfl] at q2 ⊢
      rw [dsIter_step (by omega), bsl_n (f := fHea W) (show ¬ x1 ≤ wTot (PBu W (dsShl 1 x3)) (wY W) by omega)] at e
      exact ih (_, x3, x3 + 1) M1 (by show (wN W - (x3 + 1)).toNat < (wN W - x3).toNat; omega) ⟨by show 0 ≤ x3 + 1; omega, r.2.1, ⟨_, r.2.2.1⟩, Fr_rq r.2.2.2 (by omega) hF, e⟩
    · rw [v243_eq r.1 r.2.1 rfl rfl] at q2
      rw [dsIter_step (by omega), bsl_y (f := fHea W) (show x1 ≤ wTot (PBu W (dsShl 1 x3)) (wY W) by omega)] at e
      exact ih (x1, x2, x3 + 1) M1 (by show (wN W - (x3 + 1)).toNat < (wN W - x3).toNat; omega) ⟨by show 0 ≤ x3 + 1; omega, r.2.1, ⟨_, r.2.2.1⟩, Fr_rq r.2.2.2 (by omega) hF, e⟩
  · have z1 := if01_0 q1
    refine q_eq ?_ (hQ M1 ⟨r1.1.1, r1.2⟩)
    unfold aHea; rw [if_neg (by omega)]
-- by, law
theorem byl_ct {M : dsMem} {W : dsW} {l : Int} (h : CI M W) (hl : 0 ≤ l ∧ l ≤ 3) : bCt 160 [uR 10 0, uI l] M (fun _ => []) (fun M' => FR M' 62 (PLw W l) ∧ Fr CQ2 M M') := by
  intro Q hQ
  exact r160_0 (hA1 := oth_ct) (hA2 := fun M1 r1 => cRun (cpPLw h.1 h.2.1 r1 hl).2 (PLw_ok h.1 hl) (fun _ _ => rfl) (cpPLw h.1 h.2.1 r1 hl).1) (k1 := fun M1 r1 M2 r2 => hQ M2 r2)
def aBy (W : dsW) (l : Int) : Int := if (0 ≤ l ∧ l ≤ 3) ∧ 0 < wLn W then wTot (PLw W l) (wY W) else -2
theorem cq123 {M : dsMem} {W : dsW} {l : Int} (h : CI M W) : bCt 123 [uR 10 0, uI l] M (fun _ => [uI (aBy W l)]) (fun M' => CI M' W ∧ Fr CQ M M') := by
  intro Q hQ
  have b := CI_b h
  refine r123_0 (k1 := fun q => q_eq ?_ (hQ M ⟨h, Fr_refl⟩)) (hA1 := fun q q2 => byl_ct h q) (s1 := fun q q2 M1 r i a i0 i1 => by have b2 := CI_b (CI_q h r.2); omega) (s2 := fun q q2 M1 r i a i0 i1 => by have b2 := CI_b (CI_q h r.2); omega) (s3 := fun q q2 M1 r i a i0 i1 => by have b2 := CI_b (CI_q h r.2); omega) (k2 := fun q q2 M1 r => q_eq ?_ (hQ M1 ⟨CI_q h r.2, CQ2_q r.2⟩)) (k3 := fun q q2 => q_eq ?_ (hQ M ⟨h, Fr_refl⟩))
  · unfold aBy; rw [if_neg (by omega)]
  · have hI2 := CI_q h r.2
    unfold aBy
    rw [if_pos (by omega), cY1 hI2, q24 r.1 (cN5 hI2) (by show 0 ≤ wY W ∧ wY W ≤ wY W; omega)]
  · unfold aBy; rw [if_neg (by omega)]
theorem goBy_ct {M : dsMem} {W : dsW} {l c : Int} (h : RI0 M W) (hl : 0 ≤ l ∧ l ≤ 3) (hs : RSv M W c 255 63 (dsShl 1 (wN W) - 1) 0 0 (-1) (wRo W) (wBe W)) : bCt 301 [uR 11 84, uI l] M (fun _ => []) (fun M' => RR M' (PLw W l) ∧ RI0 M' W ∧ RVPLw M' W l ∧ Fr RQ M M') := by
  intro Q hQ
  have hI2 : RI0 (dsSet M 84 17 l) W := RI0_e h (fun j => ds_gn (by omega))
  exact r301_0 (hA1 := rgo hI2 (RSv_17 hs) (PLw_ok h.1 hl) (rpPLw hI2 (RSv_17 hs) hl)) (k1 := fun M1 r => hQ M1 ⟨r.1, r.2.1, r.2.2.1, Fr_rq r.2.2.2 (by omega) Fr_refl⟩)
theorem rq302 {M : dsMem} {W : dsW} {l : Int} (h : RI0 M W) : bCt 302 [uR 11 84, uI l] M (fun _ => [uI (aBy W l)]) (fun M' => RI0 M' W ∧ Fr RQ M M') := by
  intro Q hQ
  have b := RI_b h
  refine r302_0 (hA1 := asksChoir_ct h) (k1 := fun M1 r1 q => q_eq ?_ (hQ M1 ⟨r1.1.1, r1.2⟩)) (hA2 := fun M1 r1 q q2 => goBy_ct r1.1.1 q2 r1.1.2.1) (s1 := fun M1 r1 q q2 M2 r i a i0 i1 => by have b2 := RI_b r.2.1; omega) (s2 := fun M1 r1 q q2 M2 r i a i0 i1 => by have b2 := RI_b r.2.1; omega) (k2 := fun M1 r1 q q2 M2 r => q_eq ?_ (hQ M2 ⟨r.2.1, Fr_trans r1.2 r.2.2.2⟩)) (k3 := fun M1 r1 q q2 => q_eq ?_ (hQ M1 ⟨r1.1.1, r1.2⟩))
  · have := if01_0 q
    unfold aBy; rw [if_neg (by omega)]
  · have := if01_1 q
    unfold aBy; rw [if_pos (by omega), v243_eq r.1 r.2.1 rfl rfl]
  · unfold aBy; rw [if_neg (by omega)]
def fLaw (W : dsW) (l : Int) : Int := bitc (sU (stP (PLw W l) (wY W)))
def aLaw (W : dsW) : Int := if 0 < wLn W then (dsIter (bst (fLaw W)) 0 4 (0, -1)).1 else -2
theorem cq124 {M : dsMem} {W : dsW} (h : CI M W) : bCt 124 [uR 10 0, uX 0, uX 0, uX 0, uX 0] M (fun _ => [uI (aLaw W)]) (fun M' => CI M' W ∧ Fr CQ M M') := by
  intro Q hQ
  have b := CI_b h
  refine r124n_0 (k1 := fun q1 => ?_) (k2 := fun q1 => ?_)
  · refine b_loop (fun (a : Int × Int × Int) => [uR 10 0, uI a.1, uI a.2.1, uI a.2.2, uX 0]) (fun a M' => 0 ≤ a.2.2 ∧ CI M' W ∧ Fr CQ M M' ∧ (dsIter (bst (fLaw W)) a.2.2 4 (a.1, a.2.1)).1 = aLaw W) (fun a => (4 - a.2.2).toNat) ?_ (0, -1, 0) M ⟨by show (0 : Int) ≤ 0; omega, h, Fr_refl, by unfold aLaw; rw [if_pos (by omega)]⟩
    rintro ⟨x1, x2, x3⟩ M' ⟨h0, hI, hF, e⟩ ih
    have bI := CI_b hI
    show bB 124 16 [uR 10 0, uI x1, uI x2, uI x3, uX 0] [] M' Q
    simp only at h0 e
    have eU : ∀ M1, FR M1 62 (PLw W x3) ∧ Fr CQ2 M' M1 → M1 69 (M1 24 1) = sU (stP (PLw W x3) (wY W)) := fun M1 r => by rw [cY1 (CI_q hI r.2), FQ_U r.1 (by show 0 ≤ wY W ∧ wY W ≤ wY W; omega)]
    refine r124n_16 (k1 := fun q => ?_) (hA1 := fun q => byl_ct hI (by omega)) (s1 := fun q M1 r1 => by have b1 := CI_b (CI_q hI r1.2); omega) (hA2 := fun q M1 r1 => cnt_ct (x := M1 69 (M1 24 1)) (by rw [eU M1 r1]; have := @stU_b (PLw W x3) (wY W) (PLw_ok hI.1 (by omega)); omega)) (k2 := fun q M1 r1 M2 r2 q2 => ?_) (k3 := fun q M1 r1 M2 r2 q2 => ?_)
    · rw [dsIter_end (by omega)] at e
      exact q_eq e (hQ M' ⟨hI, hF⟩)
    · subst r2
      rw [eU _ r1] at q2
      rw [dsIter_step (by omega), bst_y (f := fLaw W) q2] at e
      exact ih (x1, x2, x3 + 1) M2 (by show (4 - (x3 + 1)).toNat < (4 - x3).toNat; omega) ⟨by show 0 ≤ x3 + 1; omega, CI_q hI r1.2, Fr_trans hF (CQ2_q r1.2), e⟩
    · subst r2
      rw [eU _ r1] at q2 ⊢
      rw [dsIter_step (by omega), bst_n (f := fLaw W) q2] at e
      obtain ⟨z, hz⟩ : ∃ z, fLaw W x3 = z := ⟨_, rfl⟩
      have hz' : bitc (sU (stP (PLw W x3) (wY W))) = z := hz
      rw [hz]  at e
      rw [hz']
      exact ih (x3, z, x3 + 1) M2 (by show (4 - (x3 + 1)).toNat < (4 - x3).toNat; omega) ⟨by show 0 ≤ x3 + 1; omega, CI_q hI r1.2, Fr_trans hF (CQ2_q r1.2), e⟩
  · refine q_eq ?_ (hQ M ⟨h, Fr_refl⟩)
    unfold aLaw; rw [if_neg (by omega)]
theorem rq303 {M : dsMem} {W : dsW} (h : RI0 M W) : bCt 303 [uR 11 84, uX 0, uX 0, uX 0] M (fun _ => [uI (aLaw W)]) (fun M' => RI0 M' W ∧ Fr RQ M M') := by
  intro Q hQ
  have b := RI_b h
  refine r303_0 (hA1 := asksChoir_ct h) (k1 := fun M1 r1 q1 => ?_) (k2 := fun M1 r1 q1 => ?_)
  · have z1 := if01_1 q1
    refine b_loop (fun (a : Int × Int × Int) => [uR 11 84, uI a.1, uI a.2.1, uI a.2.2]) (fun a M' => 0 ≤ a.2.2 ∧ RI0 M' W ∧ (∃ c, RSv M' W c 255 63 (dsShl 1 (wN W) - 1) 0 0 (-1) (wRo W) (wBe W)) ∧ Fr RQ M M' ∧ (dsIter (bst (fLaw W)) a.2.2 4 (a.1, a.2.1)).1 = aLaw W) (fun a => (4 - a.2.2).toNat) ?_ (0, -1, 0) M1 ⟨by show (0 : Int) ≤ 0; omega, r1.1.1, ⟨_, r1.1.2.1⟩, r1.2, by unfold aLaw; rw [if_pos z1]⟩
    rintro ⟨x1, x2, x3⟩ M' ⟨h0, hI, ⟨c, hS⟩, hF, e⟩ ih
    have bI := RI_b hI
    show bB 303 16 [uR 11 84, uI x1, uI x2, uI x3] [] M' Q
    simp only at h0 e
    refine r303_16 (k1 := fun q => ?_) (hA1 := fun q => goBy_ct hI (by omega) hS) (s1 := fun q M1 r => by have b1 := RI_b r.2.1; omega) (k2 := fun q M1 r q2 => ?_) (k3 := fun q M1 r q2 => ?_)
    · rw [dsIter_end (by omega)] at e
      exact q_eq e (hQ M' ⟨hI, hF⟩)
    · rw [v244_eq r.1 r.2.1 rfl] at q2 ⊢
      rw [dsIter_step (by omega), bst_n (f := fLaw W) (show ¬ bitc (sU (stP (PLw W x3) (wY W))) ≤ x2 by omega)] at e
      obtain ⟨z, hz⟩ : ∃ z, fLaw W x3 = z := ⟨_, rfl⟩
      have hz' : bitc (sU (stP (PLw W x3) (wY W))) = z := hz
      rw [hz] at e
      rw [hz']
      exact ih (x3, z, x3 + 1) M1 (by show (4 - (x3 + 1)).toNat < (4 - x3).toNat; omega) ⟨by show 0 ≤ x3 + 1; omega, r.2.1, ⟨_, r.2.2.1⟩, Fr_trans hF r.2.2.2, e⟩
    · rw [v244_eq r.1 r.2.1 rfl] at q2
      rw [dsIter_step (by omega), bst_y (f := fLaw W) (show bitc (sU (stP (PLw W x3) (wY W))) ≤ x2 by omega)] at e
      exact ih (x1, x2, x3 + 1) M1 (by show (4 - (x3 + 1)).toNat < (4 - x3).toNat; omega) ⟨by show 0 ≤ x3 + 1; omega, r.2.1, ⟨_, r.2.2.1⟩, Fr_trans hF r.2.2.2, e⟩
  · have z1 := if01_0 q1
    refine q_eq ?_ (hQ M1 ⟨r1.1.1, r1.2⟩)
    unfold aLaw; rw [if_neg (by omega)]
