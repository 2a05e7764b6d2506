/-! save, saves, latest: both sides -/
theorem svI_b {W : dsW} {y : Int} (h : WOK W) : svI W y = -1 ∨ (0 ≤ svI W y ∧ svI W y < 64) := by
  have k := h.1
  have hs := @dsShl_b (wN W) (by omega)
  unfold svI
  refine dsIter_all (fun a => a = -1 ∨ (0 ≤ a ∧ a < 64)) 0 (-1) (Or.inl rfl) (fun j c j0 j1 hc => ?_)
  show svF W y j c = -1 ∨ (0 ≤ svF W y j c ∧ svF W y j c < 64)
  unfold svF
  split
  · right; omega
  · exact hc
def aSvs (W : dsW) (y : Int) : Int := if 0 < wLn W ∧ 0 ≤ y ∧ y ≤ wY W - 1 then svI W y else -2
def aSav (W : dsW) (y : Int) : Int := if 0 < wLn W ∧ 0 ≤ y ∧ y ≤ wY W - 1 then (if svI W y = -1 then -1 else bitc (svI W y)) else -2
theorem cq111 {M : dsMem} {W : dsW} {y : Int} (h : CI M W) : bCt 111 [uR 10 0, uI y] M (fun _ => [uI (aSvs W y)]) (fun M' => CI M' W ∧ Fr CQ M M') := by
  intro Q hQ
  have b := CI_b h
  refine r111_0 (k1 := fun q => q_eq ?_ (hQ M ⟨h, Fr_refl⟩)) (hA1 := fun q => asNow_ct h) (hA2 := fun q M1 r => fewest_ct r.1 (by omega)) (k2 := fun q M1 r M2 r2 => q_eq ?_ (hQ M2 ⟨r2.1.1, Fr_trans r.2 r2.2⟩))
  · unfold aSvs; rw [if_neg (by omega)]
  · unfold aSvs; rw [if_pos (by omega)]
theorem cq110 {M : dsMem} {W : dsW} {y : Int} (h : CI M W) : bCt 110 [uR 10 0, uI y, uX 0] M (fun _ => [uI (aSav W y)]) (fun M' => CI M' W ∧ Fr CQ M M') := by
  intro Q hQ
  have b := CI_b h
  have hb := @svI_b W y h.1
  refine r110n_0 (hA1 := fun q => asNow_ct h) (hA2 := fun q M1 r => fewest_ct r.1 (by omega)) (hA3 := fun q M1 r M2 r2 q2 => cnt_ct (by omega)) (k1 := fun q M1 r M2 r2 q2 M3 r3 => ?_) (k2 := fun q M1 r M2 r2 q2 => q_eq ?_ (hQ M2 ⟨r2.1.1, Fr_trans r.2 r2.2⟩)) (k3 := fun q => q_eq ?_ (hQ M ⟨h, Fr_refl⟩))
  · subst r3
    refine q_eq ?_ (hQ M3 ⟨r2.1.1, Fr_trans r.2 r2.2⟩)
    unfold aSav; rw [if_pos (by omega), if_neg q2]
  · unfold aSav; rw [if_pos (by omega), if_pos q2]
  · unfold aSav; rw [if_neg (by omega)]
def latF (W : dsW) : Nat → Int
  | 0 => -1
  | k + 1 => if svI W (k : Int) = -1 then latF W k else (k : Int)
def aLat (W : dsW) : Int := if 0 < wLn W then latF W (wY W).toNat else -2
theorem cq112 {M : dsMem} {W : dsW} (h : CI M W) : bCt 112 [uR 10 0, uX 0] M (fun _ => [uI (aLat W)]) (fun M' => CI M' W ∧ Fr CQ M M') := by
  intro Q hQ
  have b := CI_b h
  refine r112_0 (k1 := fun q => ?_) (k2 := fun q => q_eq ?_ (hQ M ⟨h, Fr_refl⟩))
  · have key : ∀ (k : Nat) (M' : dsMem), (k : Int) ≤ wY W → CI M' W → Fr CQ M M' → latF W k = aLat W → bB 112 20 [uR 10 0, uI ((k : Int) - 1)] [] M' Q := by
      intro k
      induction k with
      | zero =>
        intro M' hk hI hF e
        exact r112_20 (R1 := fun _ => False) (R2 := fun _ _ => False) (g2 := fun _ _ => 0) (k1 := fun _ => q_eq e (hQ M' ⟨hI, hF⟩)) (hA1 := fun q => by omega) (hA2 := fun q => by omega) (s1 := fun q => by omega) (k2 := fun q => by omega) (k3 := fun q => by omega)
      | succ k ih =>
        intro M' hk hI hF e
        have ek : ((k + 1 : Nat) : Int) - 1 = (k : Int) := by omega
        rw [ek]
        have e' : (if svI W (k : Int) = -1 then latF W k else (k : Int)) = aLat W := e
        refine r112_20 (k1 := fun q => by omega) (hA1 := fun q => asNow_ct hI) (hA2 := fun q M1 r => fewest_ct r.1 (by omega)) (s1 := fun q M1 r M2 r2 q2 => by omega) (k2 := fun q M1 r M2 r2 q2 => ?_) (k3 := fun q M1 r M2 r2 q2 => ?_)
        · rw [if_pos q2] at e'
          rw [show (k : Int) + -1 = (k : Int) - 1 by omega]
          exact ih M2 (by omega) r2.1.1 (Fr_trans hF (Fr_trans r.2 r2.2)) e'
        · rw [if_neg q2] at e'
          exact q_eq e' (hQ M2 ⟨r2.1.1, Fr_trans hF (Fr_trans r.2 r2.2)⟩)
    have e1 := cY1 h
    rw [e1]
    have := key (wY W).toNat M (by omega) h Fr_refl (by unfold aLat; rw [if_pos (by omega)])
    rw [show (((wY W).toNat : Nat) : Int) = wY W by omega] at this
    exact this
  · unfold aLat; rw [if_neg (by omega)]
-- the reference
theorem bitc_eq0 : ∀ n : Fin 4, ∀ u : Fin 8, ((u.val : Nat) : Int) ≤ dsShl 1 ((n.val : Nat) : Int) - 1 → (bitc ((u.val : Nat) : Int) = ((n.val : Nat) : Int) ↔ ((u.val : Nat) : Int) = dsShl 1 ((n.val : Nat) : Int) - 1) := by decide +kernel
theorem bitc_eq {n u : Int} (hn : 0 ≤ n ∧ n ≤ 3) (hu : 0 ≤ u ∧ u ≤ dsShl 1 n - 1) : bitc u = n ↔ u = dsShl 1 n - 1 := by
  have hs := shl_w hn
  obtain ⟨u, rfl⟩ : ∃ m : Nat, u = m := ⟨u.toNat, by omega⟩
  obtain ⟨n, rfl⟩ : ∃ m : Nat, n = m := ⟨n.toNat, by omega⟩
  exact bitc_eq0 ⟨n, by omega⟩ ⟨u, by omega⟩ hu.2
theorem rpPS {M : dsMem} {W : dsW} {y set : Int} (h : RI0 M W) (hs : RSv M W (wLw W) 255 63 (dsShl 1 (wN W) - 1) 0 set y (wRo W) (wBe W)) : RW M (PS W y set) ∧ REv M (PS W y set) := by
  have k := h.1.1
  refine RPv h hs ?_ ?_ ?_ ?_ ?_ ?_
  · intro s s0 s1
    have := h.1.2.2.1 s s0 s1
    rw [if_neg (bit_0 (by omega))]
    exact ⟨rfl, by omega, by omega⟩
  · intro s s0 s1
    rw [bit_all (by omega) (by omega), if_pos s1]
    exact ⟨fun _ => rfl, fun _ => by omega⟩
  · intro w w0 w1
    rfl
  · intro i i0 i1
    exact ⟨fun _ => rfl, fun _ => bit_255 (by omega)⟩
  · intro i i0 i1
    exact ⟨fun _ => rfl, fun _ => bit_63 (by omega)⟩
  · intro y s y0 s0 s1
    exact dec_iff.symm
theorem rsaves_ct {M : dsMem} {W : dsW} {y c d : Int} (h : RI0 M W) (hs : RSv M W (wLw W) 255 63 (dsShl 1 (wN W) - 1) 0 c d (wRo W) (wBe W)) (hy : 0 ≤ y ∧ y < wY W) : bCt 281 [uR 11 84, uI y, uX 0, uX 0] M (fun _ => [uI (svI W y)]) (fun M' => RI0 M' W ∧ (∃ c d, RSv M' W (wLw W) 255 63 (dsShl 1 (wN W) - 1) 0 c d (wRo W) (wBe W)) ∧ Fr RQ M M') := by
  intro Q hQ
  have b := RI_b h
  have hsh := @dsShl_b (wN W) (by omega)
  refine r281_0 (k1 := ?_)
  refine b_loop (fun (a : Int × Int) => [uR 11 84, uX 0, uI a.1, uI a.2]) (fun a M' => (0 ≤ a.2 ∧ a.2 ≤ dsShl 1 (wN W)) ∧ RI0 M' W ∧ (∃ c, RSv M' W (wLw W) 255 63 (dsShl 1 (wN W) - 1) 0 c y (wRo W) (wBe W)) ∧ Fr RQ M M' ∧ dsIter (svF W y) a.2 (dsShl 1 (wN W)) a.1 = svI W y) (fun a => (dsShl 1 (wN W) - a.2).toNat) ?_ (-1, 0) _ ⟨⟨by show (0 : Int) ≤ 0; omega, by show (0 : Int) ≤ dsShl 1 (wN W); omega⟩, RI0_e h (fun j => ds_gn (by omega)), ⟨_, RSv_23 hs⟩, Fr_set Fr_refl (by unfold RQ; omega), rfl⟩
  rintro ⟨x2, x3⟩ M' ⟨⟨h0, hn⟩, hI, ⟨c, hS⟩, hF, e⟩ ih
  simp only at h0 hn e
  show bB 281 9 [uR 11 84, uX 0, uI x2, uI x3] [] M' Q
  have bI := RI_b hI
  have e4 := rN4 hI
  have hI2 : RI0 (dsSet M' 84 22 x3) W := RI0_e hI (fun j => ds_gn (by omega))
  have hS2 := RSv_22 (v := x3) hS
  have hgo : bCt 234 [uR 11 84, uX 0] (dsSet M' 84 22 x3) (fun _ => []) _ := rgo (P := PS W y x3) hI2 hS2 (PS_ok hI.1) (rpPS hI2 hS2)
  have hiff : ∀ M2, RR M2 (PS W y x3) ∧ RI0 M2 W ∧ RSv M2 W (wLw W) 255 63 (dsShl 1 (wN W) - 1) 0 x3 y (wRo W) (wBe W) ∧ Fr RQ (dsSet M' 84 22 x3) M2 → (v244 M2 = M2 85 3 ↔ gSv W y x3) := fun M2 r => by
    rw [v244_eq r.1 r.2.1 rfl, rW3 r.2.1]
    exact bitc_eq (by omega) (stP_U (PS_ok (y := y) (set := x3) hI.1) (wY W))
  have step : ∀ M2 z, (0 ≤ x3 + 1 ∧ x3 + 1 ≤ dsShl 1 (wN W)) → (RI0 M2 W ∧ (∃ c, RSv M2 W (wLw W) 255 63 (dsShl 1 (wN W) - 1) 0 c y (wRo W) (wBe W)) ∧ Fr RQ M M2) → svF W y x3 x2 = z → bB 281 9 [uR 11 84, uX 0, uI z, uI (x3 + 1)] [] M2 Q := fun M2 z hz hr ez => by
    rw [dsIter_step (by omega), ez] at e
    exact ih (z, x3 + 1) M2 (by show (dsShl 1 (wN W) - (x3 + 1)).toNat < (dsShl 1 (wN W) - x3).toNat; omega) ⟨hz, hr.1, hr.2.1, hr.2.2, e⟩
  have hr2 : ∀ M2, RR M2 (PS W y x3) ∧ RI0 M2 W ∧ RSv M2 W (wLw W) 255 63 (dsShl 1 (wN W) - 1) 0 x3 y (wRo W) (wBe W) ∧ Fr RQ (dsSet M' 84 22 x3) M2 → (RI0 M2 W ∧ (∃ c, RSv M2 W (wLw W) 255 63 (dsShl 1 (wN W) - 1) 0 c y (wRo W) (wBe W)) ∧ Fr RQ M M2) := fun M2 r => ⟨r.2.1, ⟨_, r.2.2.1⟩, Fr_rq r.2.2.2 (by omega) hF⟩
  refine r281_9 (s1 := by rw [e4]; omega) (k1 := fun q => ?k1) (hA1 := fun q q2 => hgo) (s2 := fun q q2 M2 r => by have b2 := RI_b r.2.1; omega) (s4 := fun q q2 M2 r q3 => by rw [e4] at q; omega) (k2 := fun q q2 M2 r q3 => ?k2) (s5 := fun q q2 M2 r q3 => by rw [e4] at q; omega) (k3 := fun q q2 M2 r q3 => ?k3) (hA2 := fun q q2 q3 => hgo) (s7 := fun q q2 q3 M2 r => by have b2 := RI_b r.2.1; omega) (s8 := fun q q2 q3 M2 r q4 => by rw [e4] at q; omega) (k4 := fun q q2 q3 M2 r q4 => ?k4) (s9 := fun q q2 q3 M2 r q4 => by rw [e4] at q; omega) (k5 := fun q q2 q3 M2 r q4 => ?k5) (s10 := fun q q2 q3 => by rw [e4] at q; omega) (k6 := fun q q2 q3 => ?k6)
  case k1 =>
    rw [e4] at q
    rw [dsIter_end (by omega)] at e
    exact q_eq e (hQ M' ⟨hI, ⟨_, _, hS⟩, hF⟩)
  case k2 =>
    rw [e4] at q
    exact step M2 x2 (by omega) (hr2 M2 r) (if_neg (fun z => q3 ((hiff M2 r).2 z.2)))
  case k3 =>
    rw [e4] at q
    exact step M2 x3 (by omega) (hr2 M2 r) (if_pos ⟨Or.inl q2, (hiff M2 r).1 q3⟩)
  case k4 =>
    rw [e4] at q
    exact step M2 x2 (by omega) (hr2 M2 r) (if_neg (fun z => q4 ((hiff M2 r).2 z.2)))
  case k5 =>
    rw [e4] at q
    exact step M2 x3 (by omega) (hr2 M2 r) (if_pos ⟨Or.inr q3, (hiff M2 r).1 q4⟩)
  case k6 =>
    rw [e4] at q
    exact step M' x2 (by omega) ⟨hI, ⟨_, hS⟩, hF⟩ (if_neg (fun z => z.1.elim q2 q3))
theorem rq283 {M : dsMem} {W : dsW} {y : Int} (h : RI0 M W) : bCt 283 [uR 11 84, uI y] M (fun _ => [uI (aSvs W y)]) (fun M' => RI0 M' W ∧ Fr RQ M M') := by
  intro Q hQ
  refine r283_0 (hA1 := asksAhead_ct h) (k1 := fun M1 r q => q_eq ?_ (hQ M1 ⟨r.1.1, r.2⟩)) (hA2 := fun M1 r q => rsaves_ct r.1.1 r.1.2.1 (by have := if01_1 q; omega)) (k2 := fun M1 r q M2 r2 => q_eq ?_ (hQ M2 ⟨r2.1, Fr_trans r.2 r2.2.2⟩))
  · have := if01_0 q
    unfold aSvs; rw [if_neg (by omega)]
  · have := if01_1 q
    unfold aSvs; rw [if_pos (by omega)]
theorem rq282 {M : dsMem} {W : dsW} {y : Int} (h : RI0 M W) : bCt 282 [uR 11 84, uI y, uX 0] M (fun _ => [uI (aSav W y)]) (fun M' => RI0 M' W ∧ Fr RQ M M') := by
  intro Q hQ
  refine r282_0 (hA1 := asksAhead_ct h) (hA2 := fun M1 r q => rsaves_ct r.1.1 r.1.2.1 (by have := if01_1 q; omega)) (k1 := fun M1 r q M2 r2 q2 => q_eq ?_ (hQ M2 ⟨r2.1, Fr_trans r.2 r2.2.2⟩)) (k2 := fun M1 r q M2 r2 q2 => q_eq ?_ (hQ M2 ⟨r2.1, Fr_trans r.2 r2.2.2⟩)) (k3 := fun M1 r q => q_eq ?_ (hQ M1 ⟨r.1.1, r.2⟩))
  · have := if01_1 q
    unfold aSav; rw [if_pos (by omega), if_neg q2, v178_eq]
  · have := if01_1 q
    unfold aSav; rw [if_pos (by omega), if_pos q2]
  · have := if01_0 q
    unfold aSav; rw [if_neg (by omega)]
theorem rq284 {M : dsMem} {W : dsW} (h : RI0 M W) : bCt 284 [uR 11 84, uX 0] M (fun _ => [uI (aLat W)]) (fun M' => RI0 M' W ∧ Fr RQ M M') := by
  intro Q hQ
  have b := RI_b h
  refine r284_0 (hA1 := asksChoir_ct h) (s1 := fun M1 r q => by have b1 := RI_b r.1.1; omega) (k1 := fun M1 r q => ?_) (k2 := fun M1 r q => q_eq ?_ (hQ M1 ⟨r.1.1, r.2⟩))
  · have z := if01_1 q
    have key : ∀ (k : Nat) (M' : dsMem), (k : Int) ≤ wY W → RI0 M' W → (∃ c d, RSv M' W (wLw W) 255 63 (dsShl 1 (wN W) - 1) 0 c d (wRo W) (wBe W)) → Fr RQ M M' → latF W k = aLat W → bB 284 17 [uR 11 84, uI ((k : Int) - 1)] [] M' Q := by
      intro k
      induction k with
      | zero =>
        intro M' hk hI hS hF e
        exact r284_17 (R1 := fun _ => False) (g1 := fun _ => 0) (k1 := fun _ => q_eq e (hQ M' ⟨hI, hF⟩)) (hA1 := fun q => by omega) (k2 := fun q => by omega) (s1 := fun q => by omega) (k3 := fun q => by omega)
      | succ k ih =>
        intro M' hk hI hS hF e
        obtain ⟨c, d, hS⟩ := hS
        have ek : ((k + 1 : Nat) : Int) - 1 = (k : Int) := by omega
        rw [ek]
        have e' : (if svI W (k : Int) = -1 then latF W k else (k : Int)) = aLat W := e
        refine r284_17 (k1 := fun q => by omega) (hA1 := fun q => rsaves_ct hI hS (by omega)) (k2 := fun q M1 r q2 => ?_) (s1 := fun q M1 r q2 => by omega) (k3 := fun q M1 r q2 => ?_)
        · rw [if_neg q2] at e'
          exact q_eq e' (hQ M1 ⟨r.1, Fr_trans hF r.2.2⟩)
        · rw [if_pos q2] at e'
          rw [show (k : Int) + -1 = (k : Int) - 1 by omega]
          exact ih M1 (by omega) r.1 r.2.1 (Fr_trans hF r.2.2) e'
    have e0 := rY0 r.1.1
    rw [e0]
    have := key (wY W).toNat M1 (by omega) r.1.1 ⟨_, _, r.1.2.1⟩ r.2 (by unfold aLat; rw [if_pos z])
    rw [show (((wY W).toNat : Nat) : Int) = wY W by omega] at this
    exact this
  · have z := if01_0 q
    unfold aLat; rw [if_neg (by omega)]
