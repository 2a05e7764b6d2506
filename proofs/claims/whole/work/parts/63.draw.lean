/-! centuries drawn -/
def drX (x : Int) : Int := (1103515245 * x + 12345) % 2147483648
def drF (W : dsW) (i : Int) (a : Int × Int) : Int × Int := (drX a.1, if wOd W ≤ drX a.1 / 65536 % 10 then a.2 else dsOr a.2 (dsShl 1 i))
def drS (W : dsW) (seed : Int) : Int := (dsIter (drF W) 0 (evN (wR W)) (seed, 0)).2
theorem drX_b (x : Int) : 0 ≤ drX x ∧ drX x < 2147483648 := ⟨Int.emod_nonneg _ (by omega), Int.emod_lt_of_pos _ (by omega)⟩
theorem draw_ct {M : dsMem} {W : dsW} {seed : Int} (h : CI M W) (hs : 0 ≤ seed ∧ seed < 2147483648) : bCt 174 [uR 10 0, uI seed, uX 0, uX 0, uX 0, uX 0] M (fun _ => [uI (drS W seed)]) (fun M' => M' = M) := by
  intro Q hQ
  have b := CI_b h
  have fin := hQ M rfl
  refine r174n_0 (k1 := ?_)
  have key : ∀ x5 x2 x4 : Int, 0 ≤ x5 → 0 ≤ x2 ∧ x2 < 2147483648 → (dsIter (drF W) x5 (evN (wR W)) (x2, x4)).2 = drS W seed → bB 174 9 [uR 10 0, uX 0, uJ x2, uX 0, uI x4, uI x5] [] M Q := by
    refine ds_ind (P := fun x5 => ∀ x2 x4 : Int, 0 ≤ x5 → 0 ≤ x2 ∧ x2 < 2147483648 → (dsIter (drF W) x5 (evN (wR W)) (x2, x4)).2 = drS W seed → bB 174 9 [uR 10 0, uX 0, uJ x2, uX 0, uI x4, uI x5] [] M Q) (evN (wR W)) ?_ ?_
    · intro x5 h5 x2 x4 h0 hx e
      rw [dsIter_end h5] at e
      exact r174n_9 (k1 := fun q => q_eq e fin) (k2 := fun q => by omega) (k3 := fun q => by omega)
    · intro x5 h5 ih x2 x4 h0 hx e
      rw [dsIter_step h5] at e
      have hb := drX_b x2
      refine r174n_9 (k1 := fun q => by omega) (k2 := fun q q2 => ?_) (k3 := fun q q2 => ?_)
      · have e2 : drF W x5 (x2, x4) = (drX x2, x4) := by
          show (drX x2, if wOd W ≤ drX x2 / 65536 % 10 then x4 else dsOr x4 (dsShl 1 x5)) = _
          rw [if_pos (by have : wOd W ≤ (1103515245 * x2 + 12345) % 2147483648 / 65536 % 10 := by omega
                         exact this)]
        rw [e2] at e
        exact ih (drX x2) x4 (by omega) hb e
      · have e2 : drF W x5 (x2, x4) = (drX x2, dsOr x4 (dsShl 1 x5)) := by
          show (drX x2, if wOd W ≤ drX x2 / 65536 % 10 then x4 else dsOr x4 (dsShl 1 x5)) = _
          rw [if_neg (by have : ¬ wOd W ≤ (1103515245 * x2 + 12345) % 2147483648 / 65536 % 10 := by omega
                         exact this)]
        rw [e2] at e
        exact ih (drX x2) _ (by omega) hb e
  exact key 0 seed 0 (by omega) hs rfl
theorem wld_ct {M : dsMem} {W : dsW} {seed : Int} (h : CI M W) (hs : 0 ≤ seed ∧ seed < 2147483648) : bCt 175 [uR 10 0, uI seed] M (fun _ => [uI (sU (stP (PR W (drS W seed)) (wY W)))]) (fun M' => Fr CQ2 M M') := by
  intro Q hQ
  have hq : ∀ M1, Dfl M1 63 ∧ Fr (fun a _ => a = 63) M M1 → CI M1 W := fun M1 r => CI_q h (Fr_mono (fun a j q => by unfold CQ2; omega) r.2)
  have hc : ∀ M1 M2, Dfl M1 63 ∧ Fr (fun a _ => a = 63) M M1 → M2 = M1 → (CWp (dsSet M2 63 1 (drS W seed)) 62 (PR W (drS W seed)) ∧ CE (dsSet M2 63 1 (drS W seed)) 62 (PR W (drS W seed))) ∧ Fr CQ2 M (dsSet M2 63 1 (drS W seed)) := fun M1 M2 r e => by subst e; exact cpPR h.1 h.2.1 r trivial
  exact r175n_0 (hA1 := oth_ct) (hA2 := fun M1 r => draw_ct (hq M1 r) hs) (hA3 := fun M1 r M2 r2 => wl_ct h (hc M1 M2 r r2).2 (PR_ok h.1 trivial) (fun _ _ => rfl) (hc M1 M2 r r2).1 rfl) (k1 := fun M1 r M2 r2 M3 r3 => hQ M3 r3)
def aDrw (W : dsW) (seed x : Int) : Int := if 0 < wLn W ∧ (0 ≤ seed ∧ seed ≤ 2000000000) ∧ 0 ≤ x ∧ x ≤ 1 then (if x = 0 then drS W seed else sU (stP (PR W (drS W seed)) (wY W))) else -2
theorem cq135 {M : dsMem} {W : dsW} {seed x : Int} (h : CI M W) : bCt 135 [uR 10 0, uI seed, uI x] M (fun _ => [uI (aDrw W seed x)]) (fun M' => CI M' W ∧ Fr CQ M M') := by
  intro Q hQ
  have b := CI_b h
  refine r135n_0 (k1 := fun q => q_eq ?_ (hQ M ⟨h, Fr_refl⟩)) (k2 := fun q q2 => q_eq ?_ (hQ M ⟨h, Fr_refl⟩)) (hA1 := fun q q2 q3 q4 => wld_ct h (by omega)) (k3 := fun q q2 q3 q4 M1 r => q_eq ?_ (hQ M1 ⟨CI_q h r, CQ2_q r⟩)) (hA2 := fun q q2 q3 q4 => draw_ct h (by omega)) (k4 := fun q q2 q3 q4 M1 r => ?_) (k5 := fun q q2 q3 => q_eq ?_ (hQ M ⟨h, Fr_refl⟩))
  · unfold aDrw; rw [if_neg (by omega)]
  · unfold aDrw; rw [if_neg (by omega)]
  · unfold aDrw; rw [if_pos (by omega), if_neg q4]
  · subst r
    refine q_eq ?_ (hQ M1 ⟨h, Fr_refl⟩)
    unfold aDrw; rw [if_pos (by omega), if_pos q4]
  · unfold aDrw; rw [if_neg (by omega)]
def lcF (W : dsW) (seed w i a : Int) : Int := a + dsAnd (dsShr (sU (stP (PR W (drS W (seed + i))) (wY W))) w) 1
def aLck (W : dsW) (seed n w : Int) : Int := if (0 ≤ seed ∧ seed ≤ 2000000000) ∧ (1 ≤ n ∧ n ≤ 20) ∧ 0 ≤ w ∧ w ≤ wW W - 1 then dsIter (lcF W seed w) 0 n 0 else -2
theorem cq136 {M : dsMem} {W : dsW} {seed n w : Int} (h : CI M W) : bCt 136 [uR 10 0, uI seed, uI n, uI w, uX 0, uX 0] M (fun _ => [uI (aLck W seed n w)]) (fun M' => CI M' W ∧ Fr CQ M M') := by
  intro Q hQ
  have b := CI_b h
  refine r136_0 (k1 := fun q => q_eq ?_ (hQ M ⟨h, Fr_refl⟩)) (k2 := fun q q2 => q_eq ?_ (hQ M ⟨h, Fr_refl⟩)) (k3 := fun q q2 q3 => ?_) (k4 := fun q q2 q3 => q_eq ?_ (hQ M ⟨h, Fr_refl⟩))
  · unfold aLck; rw [if_neg (by omega)]
  · unfold aLck; rw [if_neg (by omega)]
  · refine b_loop (fun (a : Int × Int) => [uR 10 0, uI seed, uI n, uI w, uI a.1, uI a.2]) (fun a M' => (0 ≤ a.2 ∧ a.2 ≤ n ∧ 0 ≤ a.1 ∧ a.1 ≤ a.2) ∧ CI M' W ∧ Fr CQ M M' ∧ dsIter (lcF W seed w) a.2 n a.1 = aLck W seed n w) (fun a => (n - a.2).toNat) ?_ (0, 0) M ⟨⟨by show (0 : Int) ≤ 0; omega, by show (0 : Int) ≤ n; omega, by show (0 : Int) ≤ 0; omega, by show (0 : Int) ≤ 0; omega⟩, h, Fr_refl, by unfold aLck; rw [if_pos (by omega)]⟩
    rintro ⟨x4, x5⟩ M' ⟨hx, hI, hF, e⟩ ih
    simp only at hx e
    show bB 136 38 [uR 10 0, uI seed, uI n, uI w, uI x4, uI x5] [] M' Q
    have h01 := ds_b01 (dsShr (sU (stP (PR W (drS W (seed + x5))) (wY W))) w)
    refine r136_38 (k1 := fun q => ?_) (hA1 := fun q => wld_ct hI (by omega)) (k2 := fun q M1 r q2 => ?_) (k3 := fun q M1 r q2 => ?_)
    · rw [dsIter_end (by omega)] at e
      exact q_eq e (hQ M' ⟨hI, hF⟩)
    · have e2 : lcF W seed w x5 x4 = x4 := by unfold lcF; omega
      rw [dsIter_step (by omega), e2] at e
      exact ih (x4, x5 + 1) M1 (by show (n - (x5 + 1)).toNat < (n - x5).toNat; omega) ⟨⟨by show 0 ≤ x5 + 1; omega, by show x5 + 1 ≤ n; omega, hx.2.2.1, by show x4 ≤ x5 + 1; omega⟩, CI_q hI r, Fr_trans hF (CQ2_q r), e⟩
    · have e2 : lcF W seed w x5 x4 = x4 + 1 := by unfold lcF; omega
      rw [dsIter_step (by omega), e2] at e
      exact ih (x4 + 1, x5 + 1) M1 (by show (n - (x5 + 1)).toNat < (n - x5).toNat; omega) ⟨⟨by show 0 ≤ x5 + 1; omega, by show x5 + 1 ≤ n; omega, by show 0 ≤ x4 + 1; omega, by show x4 + 1 ≤ x5 + 1; omega⟩, CI_q hI r, Fr_trans hF (CQ2_q r), e⟩
  · unfold aLck; rw [if_neg (by omega)]
-- the reference
theorem goD_ct {M : dsMem} {W : dsW} {seed : Int} (h : RI0 M W) (hs : 0 ≤ seed ∧ seed < 2147483648) : bCt 322 [uR 11 84, uJ seed, uX 0, uX 0, uX 0, uX 0] M (fun _ => []) (fun M' => RR M' (PR W (drS W seed)) ∧ RI0 M' W ∧ M' 84 18 = drS W seed ∧ Fr RQ M M') := by
  intro Q hQ
  have b := RI_b h
  have hi : ∀ M1, (RSt M1 W ∧ Fr (fun a j => (a = 84 ∧ 17 ≤ j ∧ j ≤ 23) ∨ a = 91 ∨ a = 92) M M1) → RI0 M1 W ∧ Fr RQ M M1 := fun M1 r => ⟨RI0_e h (fun j => r.2 _ _ (by omega)), Fr_mono (fun a j q => by unfold RQ; omega) r.2⟩
  refine r322_0 (hA1 := asItIs_ct h) (k1 := fun M1 r => ?_)
  refine b_loop (fun (a : Int × Int × Int) => [uR 11 84, uX 0, uX 0, uJ a.1, uX 0, uI a.2.2]) (fun a M' => (0 ≤ a.2.2 ∧ a.2.2 ≤ evN (wR W) ∧ 0 ≤ a.1 ∧ a.1 < 2147483648) ∧ RI0 M' W ∧ RSv M' W (wLw W) a.2.1 63 (dsShl 1 (wN W) - 1) 0 0 (-1) (wRo W) (wBe W) ∧ dsw a.2.1 = a.2.1 ∧ Fr RQ M M' ∧ (dsIter (drF W) a.2.2 (evN (wR W)) (a.1, a.2.1)).2 = drS W seed) (fun a => (evN (wR W) - a.2.2).toNat) ?_ (seed, 0, 0) _ ⟨⟨by show (0 : Int) ≤ 0; omega, by show (0 : Int) ≤ evN (wR W); omega, hs.1, hs.2⟩, RI0_e (hi M1 r).1 (fun j => ds_gn (by omega)), RSv_18 r.1, rfl, Fr_set (hi M1 r).2 (by unfold RQ; omega), rfl⟩
  rintro ⟨x3, bt, x5⟩ M' ⟨hx, hI, hS, hw, hF, e⟩ ih
  simp only at hx hS hw e
  show bB 322 14 [uR 11 84, uX 0, uX 0, uJ x3, uX 0, uI x5] [] M' Q
  have bI := RI_b hI
  have hb := drX_b x3
  have e18 : M' 84 18 = bt := hS.1.2.1
  have e2o : M' 85 2 = wOd W := bI.1.2.2.1
  refine r322_14 (hA1 := fun q => rgo (P := PR W bt) hI hS (PR_ok hI.1 trivial) (rpPR hI hS trivial)) (k1 := fun q M2 r2 => ?_) (k2 := fun q q2 => ?_) (k3 := fun q q2 => ?_)
  · rw [dsIter_end (by omega)] at e
    have eb : bt = drS W seed := e
    subst eb
    exact hQ M2 ⟨r2.1, r2.2.1, r2.2.2.1.1.2.1, Fr_trans hF r2.2.2.2⟩
  · have e2 : drF W x5 (x3, bt) = (drX x3, bt) := by
      show (drX x3, if wOd W ≤ drX x3 / 65536 % 10 then bt else dsOr bt (dsShl 1 x5)) = _
      rw [if_pos (by have : wOd W ≤ (1103515245 * x3 + 12345) % 2147483648 / 65536 % 10 := by omega
                     exact this)]
    rw [dsIter_step (by omega), e2] at e
    rw [e18, dsOr_0 hw]
    exact ih (drX x3, bt, x5 + 1) _ (by show (evN (wR W) - (x5 + 1)).toNat < (evN (wR W) - x5).toNat; omega) ⟨⟨by show 0 ≤ x5 + 1; omega, by show x5 + 1 ≤ evN (wR W); omega, hb.1, hb.2⟩, RI0_e hI (fun j => ds_gn (by omega)), RSv_18 hS, hw, Fr_set hF (by unfold RQ; omega), e⟩
  · have e2 : drF W x5 (x3, bt) = (drX x3, dsOr bt (dsShl 1 x5)) := by
      show (drX x3, if wOd W ≤ drX x3 / 65536 % 10 then bt else dsOr bt (dsShl 1 x5)) = _
      rw [if_neg (by have : ¬ wOd W ≤ (1103515245 * x3 + 12345) % 2147483648 / 65536 % 10 := by omega
                     exact this)]
    rw [dsIter_step (by omega), e2] at e
    rw [e18]
    exact ih (drX x3, dsOr bt (dsShl 1 x5), x5 + 1) _ (by show (evN (wR W) - (x5 + 1)).toNat < (evN (wR W) - x5).toNat; omega) ⟨⟨by show 0 ≤ x5 + 1; omega, by show x5 + 1 ≤ evN (wR W); omega, hb.1, hb.2⟩, RI0_e hI (fun j => ds_gn (by omega)), RSv_18 hS, dsOr_w _ _, Fr_set hF (by unfold RQ; omega), e⟩
theorem rq324 {M : dsMem} {W : dsW} {seed x : Int} (h : RI0 M W) : bCt 324 [uR 11 84, uI seed, uI x] M (fun _ => [uI (aDrw W seed x)]) (fun M' => RI0 M' W ∧ Fr RQ M M') := by
  intro Q hQ
  have b := RI_b h
  refine r324_0 (k1 := fun q => q_eq ?_ (hQ M ⟨h, Fr_refl⟩)) (k2 := fun q q2 => q_eq ?_ (hQ M ⟨h, Fr_refl⟩)) (hA1 := fun q q2 q3 => goD_ct h (by omega)) (s1 := fun q q2 q3 M1 r q4 => by have b1 := RI_b r.2.1; omega) (k3 := fun q q2 q3 M1 r q4 => q_eq ?_ (hQ M1 ⟨r.2.1, r.2.2.2⟩)) (k4 := fun q q2 q3 M1 r q4 => q_eq ?_ (hQ M1 ⟨r.2.1, r.2.2.2⟩)) (k5 := fun q q2 q3 => q_eq ?_ (hQ M ⟨h, Fr_refl⟩))
  · unfold aDrw; rw [if_neg (by omega)]
  · unfold aDrw; rw [if_neg (by omega)]
  · unfold aDrw; rw [if_pos (by omega), if_neg q4, rY0 r.2.1, RR_U r.1 (by show 0 ≤ wY W ∧ wY W ≤ wY W; omega)]
  · unfold aDrw; rw [if_pos (by omega), if_pos q4]; exact r.2.2.1
  · unfold aDrw; rw [if_neg (by omega)]
theorem rq325 {M : dsMem} {W : dsW} {seed n w : Int} (h : RI0 M W) : bCt 325 [uR 11 84, uI seed, uI n, uI w, uX 0, uX 0] M (fun _ => [uI (aLck W seed n w)]) (fun M' => RI0 M' W ∧ Fr RQ M M') := by
  intro Q hQ
  have b := RI_b h
  refine r325_0 (k1 := fun q => q_eq ?_ (hQ M ⟨h, Fr_refl⟩)) (k2 := fun q q2 => q_eq ?_ (hQ M ⟨h, Fr_refl⟩)) (k3 := fun q q2 q3 => ?_) (k4 := fun q q2 q3 => q_eq ?_ (hQ M ⟨h, Fr_refl⟩))
  · unfold aLck; rw [if_neg (by omega)]
  · unfold aLck; rw [if_neg (by omega)]
  · refine b_loop (fun (a : Int × Int) => [uR 11 84, uI seed, uI n, uI w, uI a.1, uI a.2]) (fun a M' => (0 ≤ a.2 ∧ a.2 ≤ n ∧ 0 ≤ a.1 ∧ a.1 ≤ a.2) ∧ RI0 M' W ∧ Fr RQ M M' ∧ dsIter (lcF W seed w) a.2 n a.1 = aLck W seed n w) (fun a => (n - a.2).toNat) ?_ (0, 0) M ⟨⟨by show (0 : Int) ≤ 0; omega, by show (0 : Int) ≤ n; omega, by show (0 : Int) ≤ 0; omega, by show (0 : Int) ≤ 0; omega⟩, h, Fr_refl, by unfold aLck; rw [if_pos (by omega)]⟩
    rintro ⟨x4, x5⟩ M' ⟨hx, hI, hF, e⟩ ih
    simp only at hx e
    show bB 325 37 [uR 11 84, uI seed, uI n, uI w, uI x4, uI x5] [] M' Q
    have bI := RI_b hI
    have h01 := ds_b01 (dsShr (sU (stP (PR W (drS W (seed + x5))) (wY W))) w)
    have eU : ∀ M1, RR M1 (PR W (drS W (seed + x5))) ∧ RI0 M1 W ∧ M1 84 18 = drS W (seed + x5) ∧ Fr RQ M' M1 → M1 107 (M1 85 0) = sU (stP (PR W (drS W (seed + x5))) (wY W)) := fun M1 r => by rw [rY0 r.2.1, RR_U r.1 (by show 0 ≤ wY W ∧ wY W ≤ wY W; omega)]
    refine r325_37 (k1 := fun q => ?_) (hA1 := fun q => goD_ct hI (by omega)) (s2 := fun q M1 r => by have b1 := RI_b r.2.1; omega) (s3 := fun q M1 r => by rw [eU M1 r]; omega) (k2 := fun q M1 r => ?_)
    · rw [dsIter_end (by omega)] at e
      exact q_eq e (hQ M' ⟨hI, hF⟩)
    · rw [dsIter_step (by omega)] at e
      rw [eU M1 r]
      exact ih (lcF W seed w x5 x4, x5 + 1) M1 (by show (n - (x5 + 1)).toNat < (n - x5).toNat; omega) ⟨⟨by show 0 ≤ x5 + 1; omega, by show x5 + 1 ≤ n; omega, by show 0 ≤ lcF W seed w x5 x4; unfold lcF; omega, by show lcF W seed w x5 x4 ≤ x5 + 1; unfold lcF; omega⟩, r.2.1, Fr_trans hF r.2.2.2, e⟩
  · unfold aLck; rw [if_neg (by omega)]
