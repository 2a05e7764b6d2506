/-! questions: worth, two that are bunged, shares -/
theorem walone_ct {M : dsMem} {W : dsW} {set : Int} (h : CI M W) : bCt 162 [uR 10 0, uI set] M (fun _ => [uI (wTot (PA W set) (wY W))]) (fun M' => Fr CQ2 M M') := by
  intro Q hQ
  have b := CI_b h
  refine r162_0 (hA1 := oth_ct) (hA2 := fun M1 r1 => cRun (cpPA h.1 h.2.1 r1 trivial).2 (PA_ok h.1 trivial) (fun _ _ => rfl) (cpPA h.1 h.2.1 r1 trivial).1) (s1 := fun M1 r1 M2 r i a i0 i1 => by have b2 := CI_b (CI_q h r.2); omega) (s2 := fun M1 r1 M2 r i a i0 i1 => by have b2 := CI_b (CI_q h r.2); omega) (s3 := fun M1 r1 M2 r i a i0 i1 => by have b2 := CI_b (CI_q h r.2); omega) (k1 := fun M1 r1 M2 r => q_eq ?_ (hQ M2 r.2))
  have hI2 := CI_q h r.2
  rw [cY1 hI2, q24 r.1 (cN5 hI2) (by show 0 ≤ wY W ∧ wY W ≤ wY W; omega)]
def aWor (W : dsW) (set : Int) : Int := if 0 < wLn W ∧ 0 ≤ set ∧ set ≤ dsShl 1 (wN W) - 1 then wTot (PA W set) (wY W) else -2
theorem cq125 {M : dsMem} {W : dsW} {set : Int} (h : CI M W) : bCt 125 [uR 10 0, uI set] M (fun _ => [uI (aWor W set)]) (fun M' => CI M' W ∧ Fr CQ M M') := by
  intro Q hQ
  have b := CI_b h
  have hs := @dsShl_b (wN W) (by omega)
  have e5 := cN5 h
  refine r125_0 (k1 := fun q => q_eq ?_ (hQ M ⟨h, Fr_refl⟩)) (s1 := fun q => by rw [e5]; omega) (hA1 := fun q q2 q3 => walone_ct h) (k2 := fun q q2 q3 M1 r => q_eq ?_ (hQ M1 ⟨CI_q h r, CQ2_q r⟩)) (s2 := fun q q2 q3 => by rw [e5] at q2; omega) (k3 := fun q q2 q3 => q_eq ?_ (hQ M ⟨h, Fr_refl⟩)) (k4 := fun q q2 => q_eq ?_ (hQ M ⟨h, Fr_refl⟩))
  · unfold aWor; rw [if_neg (by omega)]
  · rw [e5] at q2
    unfold aWor; rw [if_pos (by omega)]
  · rw [e5] at q2
    unfold aWor; rw [if_pos (by omega)]
    rcases h.2.2.2.2.1 with d | d
    · omega
    · exact d.2 set (by omega) (by omega)
  · rw [e5] at q2
    unfold aWor; rw [if_neg (by omega)]
theorem worthOf_ct {M : dsMem} {W : dsW} {set c : Int} (h : RI0 M W) (hs : RSv M W (wLw W) 255 63 c 0 0 (-1) (wRo W) (wBe W)) : bCt 304 [uR 11 84, uI set] M (fun _ => [uI (wTot (PA W set) (wY W))]) (fun M' => RI0 M' W ∧ RVPA M' W set ∧ Fr RQ M M' ∧ ∀ j, M' 110 j = M 110 j) := by
  intro Q hQ
  have b := RI_b h
  have hI2 : RI0 (dsSet M 84 20 set) W := RI0_e h (fun j => ds_gn (by omega))
  have hS2 : RVPA (dsSet M 84 20 set) W set := RSv_20 hs
  have hP := rpPA hI2 hS2 trivial
  have hg : bCt 234 [uR 11 84, uX 0] (dsSet M 84 20 set) (fun _ => []) (fun M' => RR M' (PA W set) ∧ RI0 M' W ∧ RVPA M' W set ∧ Fr RQ M M' ∧ ∀ j, M' 110 j = M 110 j) := by
    intro Q hQ
    refine goAll_ct (PA_ok h.1 trivial) hP.1 hP.2 Q (fun M' r => hQ M' ⟨r.1, RI0_e hI2 (fun j => r.2.2.2 _ _ (by unfold GF; omega)), RSv_e hS2 (fun a j q => r.2.2.2 a j (by unfold GF; omega)), ?_, ?_⟩)
    · refine Fr_trans (Fr_set Fr_refl (by unfold RQ; omega)) (Fr_mono ?_ r.2.2.2)
      intro a j q; unfold GF at q; unfold RQ; omega
    · intro j
      rw [r.2.2.2 _ _ (by unfold GF; omega), ds_gn (by omega)]
  exact r304_0 (hA1 := hg) (s1 := fun M1 r i a i0 i1 => by have b2 := RI_b r.2.1; omega) (s2 := fun M1 r i a i0 i1 => by have b2 := RI_b r.2.1; omega) (k1 := fun M1 r => q_eq (v243_eq r.1 r.2.1 rfl rfl) (hQ M1 r.2))
theorem rq305 {M : dsMem} {W : dsW} {set : Int} (h : RI0 M W) : bCt 305 [uR 11 84, uI set] M (fun _ => [uI (aWor W set)]) (fun M' => RI0 M' W ∧ Fr RQ M M') := by
  intro Q hQ
  have b := RI_b h
  have hs := @dsShl_b (wN W) (by omega)
  have hi : ∀ M1, (RSt M1 W ∧ Fr (fun a j => (a = 84 ∧ 17 ≤ j ∧ j ≤ 23) ∨ a = 91 ∨ a = 92) M M1) → RI0 M1 W ∧ Fr RQ M M1 := fun M1 r => ⟨RI0_e h (fun j => r.2 _ _ (by omega)), Fr_mono (fun a j q => by unfold RQ; omega) r.2⟩
  refine r305_0 (hA1 := asItIs_ct h) (k1 := fun M1 r q => q_eq ?_ (hQ M1 (hi M1 r))) (s1 := fun M1 r q => by rw [rN4 (hi M1 r).1]; omega) (k2 := fun M1 r q q2 => q_eq ?_ (hQ M1 (hi M1 r))) (hA2 := fun M1 r q q2 => worthOf_ct (hi M1 r).1 r.1) (k3 := fun M1 r q q2 M2 r2 => q_eq ?_ (hQ M2 ⟨r2.1, Fr_trans (hi M1 r).2 r2.2.2.1⟩))
  · have b1 := RI_b (hi M1 r).1
    unfold aWor; rw [if_neg (by omega)]
  · rw [rN4 (hi M1 r).1] at q2
    unfold aWor; rw [if_neg (by omega)]
  · have b1 := RI_b (hi M1 r).1
    rw [rN4 (hi M1 r).1] at q2
    unfold aWor; rw [if_pos (by omega)]
-- two that are bunged
abbrev gSet (s o x y : Int) : Int := dsOr (dsShl x s) (dsShl y o)
def gn (W : dsW) (s o x y : Int) : Int := aH (PBu W (gSet s o x y)) (wY W) s + x * 7 - (if dsBit (sU (stP (PBu W (gSet s o x y)) (wY W))) (wOn W s) then 0 else 10)
theorem dsOr_comm (a b : Int) : dsOr a b = dsOr b a := by
  unfold dsOr; rw [Int32.or_comm]
theorem bu_b {W : dsW} {set s : Int} (hW : WOK W) (hs : 0 ≤ s ∧ s < wN W) (h : WS (PBu W set) (stP (PBu W set) (wY W))) : 0 ≤ aH (PBu W set) (wY W) s ∧ aH (PBu W set) (wY W) s ≤ 60 := by
  have h1 := h s hs.1 hs.2
  have h2 := (PBu_ok (set := set) hW trivial).2.1 s hs.1 hs.2
  exact ⟨dySum_nn h1.1, Int.le_trans h1.2 h2.2.1⟩
theorem gain_ct {M : dsMem} {W : dsW} {s o x y : Int} (h : CI M W) (hs : 0 ≤ s ∧ s < wN W) (hx : 0 ≤ x ∧ x ≤ 1) : bCt 164 [uR 10 0, uI s, uI o, uI x, uI y, uX 0, uX 0] M (fun _ => [uI (gn W s o x y)]) (fun M' => Fr CQ2 M M') := by
  intro Q hQ
  have b := CI_b h
  have F : ∀ M2, (FR M2 62 (PBu W (gSet s o x y)) ∧ Fr CQ2 M M2) → (M2 24 1 = wY W ∧ M2 29 s = wOn W s ∧ M2 69 (wY W) = sU (stP (PBu W (gSet s o x y)) (wY W)) ∧ M2 67 (wY W * 6 + s) = aH (PBu W (gSet s o x y)) (wY W) s ∧ 0 ≤ aH (PBu W (gSet s o x y)) (wY W) s ∧ aH (PBu W (gSet s o x y)) (wY W) s ≤ 60) := by
    intro M2 r
    have hI2 := CI_q h r.2
    have hy : 0 ≤ wY W ∧ wY W ≤ pY (PBu W (gSet s o x y)) := by show 0 ≤ wY W ∧ wY W ≤ wY W; omega
    exact ⟨cY1 hI2, cOn hI2 hs, FQ_U r.1 hy, FQ_H r.1 hy hs, bu_b h.1 hs (FQ_y r.1 hy).2⟩
  refine r164_0 (hA1 := oth_ct) (hA2 := fun M1 r1 => cRun (cpPBu h.1 h.2.1 r1 trivial).2 (PBu_ok h.1 trivial) (fun _ _ => rfl) (cpPBu h.1 h.2.1 r1 trivial).1) (s1 := fun M1 rr1 M2 rr2 => ?s1) (s2 := fun M1 rr1 M2 rr2 => ?s2) (s3 := fun M1 rr1 M2 rr2 q1 => ?s3) (s4 := fun M1 rr1 M2 rr2 q1 => ?s4) (s5 := fun M1 rr1 M2 rr2 q1 => ?s5) (k1 := fun M1 rr1 M2 rr2 q1 => ?k1) (s6 := fun M1 rr1 M2 rr2 q1 => ?s6) (s7 := fun M1 rr1 M2 rr2 q1 => ?s7) (s8 := fun M1 rr1 M2 rr2 q1 => ?s8) (k2 := fun M1 rr1 M2 rr2 q1 => ?k2)
  case s1 =>
    obtain ⟨f1, f2, f3, f4, f5, f6⟩ := F M2 rr2
    first | omega | (rw [f1, f4]; omega)
  case s2 =>
    obtain ⟨f1, f2, f3, f4, f5, f6⟩ := F M2 rr2
    first | omega | (rw [f1, f4]; omega)
  case s3 =>
    obtain ⟨f1, f2, f3, f4, f5, f6⟩ := F M2 rr2
    first | omega | (rw [f1, f4]; omega)
  case s4 =>
    obtain ⟨f1, f2, f3, f4, f5, f6⟩ := F M2 rr2
    first | omega | (rw [f1, f4]; omega)
  case s5 =>
    obtain ⟨f1, f2, f3, f4, f5, f6⟩ := F M2 rr2
    first | omega | (rw [f1, f4]; omega)
  case k1 =>
    obtain ⟨f1, f2, f3, f4, f5, f6⟩ := F M2 rr2
    rw [f1, f2, f3] at q1
    refine q_eq ?_ (hQ M2 rr2.2)
    unfold gn; rw [f1, f4, if_pos q1]
  case s6 =>
    obtain ⟨f1, f2, f3, f4, f5, f6⟩ := F M2 rr2
    first | omega | (rw [f1, f4]; omega)
  case s7 =>
    obtain ⟨f1, f2, f3, f4, f5, f6⟩ := F M2 rr2
    first | omega | (rw [f1, f4]; omega)
  case s8 =>
    obtain ⟨f1, f2, f3, f4, f5, f6⟩ := F M2 rr2
    first | omega | (rw [f1, f4]; omega)
  case k2 =>
    obtain ⟨f1, f2, f3, f4, f5, f6⟩ := F M2 rr2
    rw [f1, f2, f3] at q1
    refine q_eq ?_ (hQ M2 rr2.2)
    unfold gn; rw [f1, f4, if_neg q1]
theorem getsBy_ct {M : dsMem} {W : dsW} {a c x y who : Int} (h : RI0 M W) (ha : 0 ≤ a ∧ a < wN W) (hc : 0 ≤ c ∧ c < wN W) (hx : 0 ≤ x ∧ x ≤ 1) (hy : 0 ≤ y ∧ y ≤ 1) (hw : who = 0 ∨ who = 1) : bCt 310 [uR 11 84, uI a, uI c, uI x, uI y, uI who, uX 0] M (fun _ => [uI (if who = 0 then gn W a c x y else gn W c a y x)]) (fun M' => RI0 M' W ∧ Fr RQ M M') := by
  intro Q hQ
  have b := RI_b h
  have hi : ∀ M1, (RSt M1 W ∧ Fr (fun a j => (a = 84 ∧ 17 ≤ j ∧ j ≤ 23) ∨ a = 91 ∨ a = 92) M M1) → RI0 M1 W ∧ Fr RQ M M1 := fun M1 r => ⟨RI0_e h (fun j => r.2 _ _ (by omega)), Fr_mono (fun a j q => by unfold RQ; omega) r.2⟩
  have hS : gSet c a y x = gSet a c x y := dsOr_comm _ _
  have F : ∀ M1 M2 s, 0 ≤ s ∧ s < wN W → (RR M2 (PBu W (gSet a c x y)) ∧ RI0 M2 W ∧ RVPBu M2 W (gSet a c x y) ∧ Fr RQ (dsSet M1 84 21 (gSet a c x y)) M2) → (M2 85 0 = wY W ∧ M2 85 (15 + 3 * s + 2) = wOn W s ∧ M2 107 (wY W) = sU (stP (PBu W (gSet a c x y)) (wY W)) ∧ M2 102 (6 * wY W + s) = aH (PBu W (gSet a c x y)) (wY W) s ∧ 0 ≤ aH (PBu W (gSet a c x y)) (wY W) s ∧ aH (PBu W (gSet a c x y)) (wY W) s ≤ 60) := by
    intro M1 M2 s hs r
    have hy : 0 ≤ wY W ∧ wY W ≤ pY (PBu W (gSet a c x y)) := by show 0 ≤ wY W ∧ wY W ≤ wY W; omega
    exact ⟨rY0 r.2.1, rOn r.2.1 hs, RR_U r.1 hy, RR_H r.1 hy hs, bu_b h.1 hs (RR_y r.1 hy).2⟩
  refine r310_0 (hA1 := asItIs_ct h) (hA2 := fun M1 r1 => rgo (RI0_e (hi M1 r1).1 (fun j => ds_gn (by omega))) (RSv_21 r1.1) (PBu_ok h.1 trivial) (rpPBu (RI0_e (hi M1 r1).1 (fun j => ds_gn (by omega))) (RSv_21 r1.1) trivial)) (s1 := fun M1 rr1 M2 rr2 q1 => ?s1) (s2 := fun M1 rr1 M2 rr2 q1 q2 => ?s2) (s3 := fun M1 rr1 M2 rr2 q1 q2 => ?s3) (s4 := fun M1 rr1 M2 rr2 q1 q2 q3 => ?s4) (k1 := fun M1 rr1 M2 rr2 q1 q2 q3 => ?k1) (s5 := fun M1 rr1 M2 rr2 q1 q2 q3 => ?s5) (k2 := fun M1 rr1 M2 rr2 q1 q2 q3 => ?k2) (s6 := fun M1 rr1 M2 rr2 q1 q2 => ?s6) (s7 := fun M1 rr1 M2 rr2 q1 q2 => ?s7) (s8 := fun M1 rr1 M2 rr2 q1 q2 q3 => ?s8) (k3 := fun M1 rr1 M2 rr2 q1 q2 q3 => ?k3) (s9 := fun M1 rr1 M2 rr2 q1 q2 q3 => ?s9) (k4 := fun M1 rr1 M2 rr2 q1 q2 q3 => ?k4) (s10 := fun M1 rr1 M2 rr2 q1 => ?s10) (s11 := fun M1 rr1 M2 rr2 q1 q2 => ?s11) (s12 := fun M1 rr1 M2 rr2 q1 q2 => ?s12) (s13 := fun M1 rr1 M2 rr2 q1 q2 q3 => ?s13) (k5 := fun M1 rr1 M2 rr2 q1 q2 q3 => ?k5) (s14 := fun M1 rr1 M2 rr2 q1 q2 q3 => ?s14) (k6 := fun M1 rr1 M2 rr2 q1 q2 q3 => ?k6) (s15 := fun M1 rr1 M2 rr2 q1 q2 => ?s15) (s16 := fun M1 rr1 M2 rr2 q1 q2 => ?s16) (s17 := fun M1 rr1 M2 rr2 q1 q2 q3 => ?s17) (k7 := fun M1 rr1 M2 rr2 q1 q2 q3 => ?k7) (s18 := fun M1 rr1 M2 rr2 q1 q2 q3 => ?s18) (k8 := fun M1 rr1 M2 rr2 q1 q2 q3 => ?k8)
  case s1 =>
    obtain ⟨f1, f2, f3, f4, f5, f6⟩ := F M1 M2 a ha rr2
    obtain ⟨g1, g2, g3, g4, g5, g6⟩ := F M1 M2 c hc rr2
    first | omega | (rw [f1, f4]; omega) | (rw [f1, g4]; omega)
  case s2 =>
    obtain ⟨f1, f2, f3, f4, f5, f6⟩ := F M1 M2 a ha rr2
    obtain ⟨g1, g2, g3, g4, g5, g6⟩ := F M1 M2 c hc rr2
    first | omega | (rw [f1, f4]; omega) | (rw [f1, g4]; omega)
  case s3 =>
    obtain ⟨f1, f2, f3, f4, f5, f6⟩ := F M1 M2 a ha rr2
    obtain ⟨g1, g2, g3, g4, g5, g6⟩ := F M1 M2 c hc rr2
    first | omega | (rw [f1, f4]; omega) | (rw [f1, g4]; omega)
  case s4 =>
    obtain ⟨f1, f2, f3, f4, f5, f6⟩ := F M1 M2 a ha rr2
    obtain ⟨g1, g2, g3, g4, g5, g6⟩ := F M1 M2 c hc rr2
    first | omega | (rw [f1, f4]; omega) | (rw [f1, g4]; omega)
  case k1 =>
    obtain ⟨f1, f2, f3, f4, f5, f6⟩ := F M1 M2 c hc rr2
    rw [f1, f2, f3] at q3
    refine q_eq ?_ (hQ M2 ⟨rr2.2.1, Fr_rq rr2.2.2.2 (by omega) (hi M1 rr1).2⟩)
    rw [if_neg q1]; unfold gn; rw [hS, f1, f4, if_neg q3]; omega
  case s5 =>
    obtain ⟨f1, f2, f3, f4, f5, f6⟩ := F M1 M2 a ha rr2
    obtain ⟨g1, g2, g3, g4, g5, g6⟩ := F M1 M2 c hc rr2
    first | omega | (rw [f1, f4]; omega) | (rw [f1, g4]; omega)
  case k2 =>
    obtain ⟨f1, f2, f3, f4, f5, f6⟩ := F M1 M2 c hc rr2
    rw [f1, f2, f3] at q3
    refine q_eq ?_ (hQ M2 ⟨rr2.2.1, Fr_rq rr2.2.2.2 (by omega) (hi M1 rr1).2⟩)
    rw [if_neg q1]; unfold gn; rw [hS, f1, f4, if_pos q3]; omega
  case s6 =>
    obtain ⟨f1, f2, f3, f4, f5, f6⟩ := F M1 M2 a ha rr2
    obtain ⟨g1, g2, g3, g4, g5, g6⟩ := F M1 M2 c hc rr2
    first | omega | (rw [f1, f4]; omega) | (rw [f1, g4]; omega)
  case s7 =>
    obtain ⟨f1, f2, f3, f4, f5, f6⟩ := F M1 M2 a ha rr2
    obtain ⟨g1, g2, g3, g4, g5, g6⟩ := F M1 M2 c hc rr2
    first | omega | (rw [f1, f4]; omega) | (rw [f1, g4]; omega)
  case s8 =>
    obtain ⟨f1, f2, f3, f4, f5, f6⟩ := F M1 M2 a ha rr2
    obtain ⟨g1, g2, g3, g4, g5, g6⟩ := F M1 M2 c hc rr2
    first | omega | (rw [f1, f4]; omega) | (rw [f1, g4]; omega)
  case k3 =>
    exact absurd q2 q1
  case s9 =>
    obtain ⟨f1, f2, f3, f4, f5, f6⟩ := F M1 M2 a ha rr2
    obtain ⟨g1, g2, g3, g4, g5, g6⟩ := F M1 M2 c hc rr2
    first | omega | (rw [f1, f4]; omega) | (rw [f1, g4]; omega)
  case k4 =>
    exact absurd q2 q1
  case s10 =>
    obtain ⟨f1, f2, f3, f4, f5, f6⟩ := F M1 M2 a ha rr2
    obtain ⟨g1, g2, g3, g4, g5, g6⟩ := F M1 M2 c hc rr2
    first | omega | (rw [f1, f4]; omega) | (rw [f1, g4]; omega)
  case s11 =>
    obtain ⟨f1, f2, f3, f4, f5, f6⟩ := F M1 M2 a ha rr2
    obtain ⟨g1, g2, g3, g4, g5, g6⟩ := F M1 M2 c hc rr2
    first | omega | (rw [f1, f4]; omega) | (rw [f1, g4]; omega)
  case s12 =>
    obtain ⟨f1, f2, f3, f4, f5, f6⟩ := F M1 M2 a ha rr2
    obtain ⟨g1, g2, g3, g4, g5, g6⟩ := F M1 M2 c hc rr2
    first | omega | (rw [f1, f4]; omega) | (rw [f1, g4]; omega)
  case s13 =>
    obtain ⟨f1, f2, f3, f4, f5, f6⟩ := F M1 M2 a ha rr2
    obtain ⟨g1, g2, g3, g4, g5, g6⟩ := F M1 M2 c hc rr2
    first | omega | (rw [f1, f4]; omega) | (rw [f1, g4]; omega)
  case k5 =>
    exact absurd q1 q2
  case s14 =>
    obtain ⟨f1, f2, f3, f4, f5, f6⟩ := F M1 M2 a ha rr2
    obtain ⟨g1, g2, g3, g4, g5, g6⟩ := F M1 M2 c hc rr2
    first | omega | (rw [f1, f4]; omega) | (rw [f1, g4]; omega)
  case k6 =>
    exact absurd q1 q2
  case s15 =>
    obtain ⟨f1, f2, f3, f4, f5, f6⟩ := F M1 M2 a ha rr2
    obtain ⟨g1, g2, g3, g4, g5, g6⟩ := F M1 M2 c hc rr2
    first | omega | (rw [f1, f4]; omega) | (rw [f1, g4]; omega)
  case s16 =>
    obtain ⟨f1, f2, f3, f4, f5, f6⟩ := F M1 M2 a ha rr2
    obtain ⟨g1, g2, g3, g4, g5, g6⟩ := F M1 M2 c hc rr2
    first | omega | (rw [f1, f4]; omega) | (rw [f1, g4]; omega)
  case s17 =>
    obtain ⟨f1, f2, f3, f4, f5, f6⟩ := F M1 M2 a ha rr2
    obtain ⟨g1, g2, g3, g4, g5, g6⟩ := F M1 M2 c hc rr2
    first | omega | (rw [f1, f4]; omega) | (rw [f1, g4]; omega)
  case k7 =>
    obtain ⟨f1, f2, f3, f4, f5, f6⟩ := F M1 M2 a ha rr2
    rw [f1, f2, f3] at q3
    refine q_eq ?_ (hQ M2 ⟨rr2.2.1, Fr_rq rr2.2.2.2 (by omega) (hi M1 rr1).2⟩)
    rw [if_pos q1]; unfold gn; rw [f1, f4, if_neg q3]; omega
  case s18 =>
    obtain ⟨f1, f2, f3, f4, f5, f6⟩ := F M1 M2 a ha rr2
    obtain ⟨g1, g2, g3, g4, g5, g6⟩ := F M1 M2 c hc rr2
    first | omega | (rw [f1, f4]; omega) | (rw [f1, g4]; omega)
  case k8 =>
    obtain ⟨f1, f2, f3, f4, f5, f6⟩ := F M1 M2 a ha rr2
    rw [f1, f2, f3] at q3
    refine q_eq ?_ (hQ M2 ⟨rr2.2.1, Fr_rq rr2.2.2.2 (by omega) (hi M1 rr1).2⟩)
    rw [if_pos q1]; unfold gn; rw [f1, f4, if_pos q3]; omega
def aGet (W : dsW) (s o x y : Int) : Int := if ((0 ≤ s ∧ s ≤ wN W - 1) ∧ (0 ≤ o ∧ o ≤ wN W - 1) ∧ ¬ s = o) ∧ (0 ≤ x ∧ x ≤ 1) ∧ 0 ≤ y ∧ y ≤ 1 then gn W s o x y else -1000
theorem cq128 {M : dsMem} {W : dsW} {s o x y : Int} (h : CI M W) : bCt 128 [uR 10 0, uI s, uI o, uI x, uI y, uX 0] M (fun _ => [uI (aGet W s o x y)]) (fun M' => CI M' W ∧ Fr CQ M M') := by
  intro Q hQ
  have b := CI_b h
  refine r128_0 (hA1 := fun q1 q2 q3 q4 q5 => gain_ct h (by omega) q4) (k1 := fun q1 => ?k1) (k2 := fun q1 q2 => ?k2) (k3 := fun q1 q2 q3 => ?k3) (k4 := fun q1 q2 q3 q4 => ?k4) (k5 := fun q1 q2 q3 q4 q5 M1 rr1 => ?k5) (k6 := fun q1 q2 q3 q4 q5 => ?k6)
  case k1 =>
    refine q_eq ?_ (hQ M ⟨h, Fr_refl⟩)
    unfold aGet; rw [if_neg (by omega)]
  case k2 =>
    refine q_eq ?_ (hQ M ⟨h, Fr_refl⟩)
    unfold aGet; rw [if_neg (by omega)]
  case k3 =>
    refine q_eq ?_ (hQ M ⟨h, Fr_refl⟩)
    unfold aGet; rw [if_neg (by omega)]
  case k4 =>
    refine q_eq ?_ (hQ M ⟨h, Fr_refl⟩)
    unfold aGet; rw [if_neg (by omega)]
  case k5 =>
    refine q_eq ?_ (hQ M1 ⟨CI_q h rr1, CQ2_q rr1⟩)
    unfold aGet; rw [if_pos (by omega)]
  case k6 =>
    refine q_eq ?_ (hQ M ⟨h, Fr_refl⟩)
    unfold aGet; rw [if_neg (by omega)]
theorem rq313 {M : dsMem} {W : dsW} {s o x y : Int} (h : RI0 M W) : bCt 313 [uR 11 84, uI s, uI o, uI x, uI y] M (fun _ => [uI (aGet W s o x y)]) (fun M' => RI0 M' W ∧ Fr RQ M M') := by
  intro Q hQ
  have b := RI_b h
  refine r313_0 (hA1 := fun q1 q2 q3 => getsBy_ct h (by omega) (by omega) q2 q3 (Or.inl rfl)) (k1 := fun q1 => ?k1) (k2 := fun q1 q2 => ?k2) (k3 := fun q1 q2 q3 => ?k3) (k4 := fun q1 q2 q3 M1 rr1 => ?k4)
  case k1 =>
    refine q_eq ?_ (hQ M ⟨h, Fr_refl⟩)
    unfold aGet; rw [if_neg (by omega)]
  case k2 =>
    refine q_eq ?_ (hQ M ⟨h, Fr_refl⟩)
    unfold aGet; rw [if_neg (by omega)]
  case k3 =>
    refine q_eq ?_ (hQ M ⟨h, Fr_refl⟩)
    unfold aGet; rw [if_neg (by omega)]
  case k4 =>
    refine q_eq ?_ (hQ M1 rr1)
    unfold aGet; rw [if_pos rfl, if_pos (by omega)]
-- rests
abbrev rst (W : dsW) (s o x y : Int) : Prop := ¬ gn W s o x y < gn W s o (1 - x) y ∧ ¬ gn W o s y x < gn W o s (1 - y) x
def rSt (W : dsW) (s o x y a : Int) : Int := if rst W s o x y then dsOr a (dsShl 1 (x + 2 * y)) else a
def aRst (W : dsW) (s o : Int) : Int := if (0 ≤ s ∧ s ≤ wN W - 1) ∧ (0 ≤ o ∧ o ≤ wN W - 1) ∧ ¬ s = o then rSt W s o 1 1 (rSt W s o 0 1 (rSt W s o 1 0 (rSt W s o 0 0 0))) else -2
theorem rst_ord {W : dsW} {s o : Int} : rSt W s o 1 1 (rSt W s o 1 0 (rSt W s o 0 1 (rSt W s o 0 0 0))) = rSt W s o 1 1 (rSt W s o 0 1 (rSt W s o 1 0 (rSt W s o 0 0 0))) := by
  congr 1
  unfold rSt
  split <;> split <;> first | rfl | (split <;> decide) | (split <;> rfl)
theorem rst_c {M : dsMem} {W : dsW} {s o x y a : Int} {Q : bQT} (h : CI M W) (hs : 0 ≤ s ∧ s < wN W) (ho : 0 ≤ o ∧ o < wN W) (hx : 0 ≤ x ∧ x ≤ 1) (hy : 0 ≤ y ∧ y ≤ 1)
    (K : ∀ M', Fr CQ2 M M' → bB 127 38 [uR 10 0, uI s, uI o, uI (rSt W s o x y a), uI x, uI (y + 1), uX 0, uX 0] [] M' Q) : bB 127 38 [uR 10 0, uI s, uI o, uI a, uI x, uI y, uX 0, uX 0] [] M Q := by
  have b := CI_b h
  refine r127_38 (k1 := fun q => by omega) (hA1 := fun q => gain_ct h hs hx) (hA2 := fun q M1 r1 => gain_ct (CI_q h r1) hs (by omega))
    (hA3 := fun q M1 r1 M2 r2 q2 => gain_ct (CI_q h (Fr_trans r1 r2)) ho hy) (hA4 := fun q M1 r1 M2 r2 q2 M3 r3 => gain_ct (CI_q h (Fr_trans (Fr_trans r1 r2) r3)) ho (by omega))
    (k2 := fun q M1 r1 M2 r2 q2 M3 r3 M4 r4 q3 => ?_) (k3 := fun q M1 r1 M2 r2 q2 M3 r3 M4 r4 q3 => ?_)
    (hA5 := fun q M1 r1 M2 r2 q2 => gain_ct (CI_q h (Fr_trans r1 r2)) ho hy) (hA6 := fun q M1 r1 M2 r2 q2 M3 r3 => gain_ct (CI_q h (Fr_trans (Fr_trans r1 r2) r3)) ho (by omega))
    (k4 := fun q M1 r1 M2 r2 q2 M3 r3 M4 r4 q3 => ?_) (k5 := fun q M1 r1 M2 r2 q2 M3 r3 M4 r4 q3 => ?_)
  · have e : rSt W s o x y a = a := if_neg (fun z => z.1 q2)
    have := K M4 (Fr_trans (Fr_trans (Fr_trans r1 r2) r3) r4)
    rw [e] at this; exact this
  · have e : rSt W s o x y a = a := if_neg (fun z => z.1 q2)
    have := K M4 (Fr_trans (Fr_trans (Fr_trans r1 r2) r3) r4)
    rw [e] at this; exact this
  · have e : rSt W s o x y a = a := if_neg (fun z => z.2 q3)
    have := K M4 (Fr_trans (Fr_trans (Fr_trans r1 r2) r3) r4)
    rw [e] at this; exact this
  · have e : rSt W s o x y a = dsOr a (dsShl 1 (x + 2 * y)) := if_pos ⟨q2, q3⟩
    have := K M4 (Fr_trans (Fr_trans (Fr_trans r1 r2) r3) r4)
    rw [e] at this; exact this
theorem cq127 {M : dsMem} {W : dsW} {s o : Int} (h : CI M W) : bCt 127 [uR 10 0, uI s, uI o, uX 0, uX 0, uX 0, uX 0, uX 0] M (fun _ => [uI (aRst W s o)]) (fun M' => CI M' W ∧ Fr CQ M M') := by
  intro Q hQ
  have b := CI_b h
  refine r127_0 (k1 := fun q => q_eq ?_ (hQ M ⟨h, Fr_refl⟩)) (k2 := fun q q2 => q_eq ?_ (hQ M ⟨h, Fr_refl⟩)) (k3 := fun q q2 q3 => ?_) (k4 := fun q q2 q3 => q_eq ?_ (hQ M ⟨h, Fr_refl⟩))
  · unfold aRst; rw [if_neg (by omega)]
  · unfold aRst; rw [if_neg (by omega)]
  · have row : ∀ M' x a, Fr CQ2 M M' → 0 ≤ x ∧ x ≤ 1 → (∀ M2, Fr CQ2 M M2 → bB 127 29 [uR 10 0, uI s, uI o, uI (rSt W s o x 1 (rSt W s o x 0 a)), uI (x + 1), uX 0, uX 0, uX 0] [] M2 Q) → bB 127 29 [uR 10 0, uI s, uI o, uI a, uI x, uX 0, uX 0, uX 0] [] M' Q := by
      intro M' x a hf hx K
      refine r127_29 (k1 := fun q => by omega) (k2 := fun q => ?_)
      refine rst_c (CI_q h hf) (by omega) (by omega) hx (by omega) (fun M2 r2 => ?_)
      refine rst_c (y := 0 + 1) (CI_q h (Fr_trans hf r2)) (by omega) (by omega) hx (by omega) (fun M3 r3 => ?_)
      have := K M3 (Fr_trans (Fr_trans hf r2) r3)
      refine r127_38 (R1 := fun _ => False) (g1 := fun _ => 0) (R2 := fun _ _ => False) (g2 := fun _ _ => 0) (R3 := fun _ _ _ => False) (g3 := fun _ _ _ => 0) (R4 := fun _ _ _ _ => False) (g4 := fun _ _ _ _ => 0) (R5 := fun _ _ _ => False) (g5 := fun _ _ _ => 0) (R6 := fun _ _ _ _ => False) (g6 := fun _ _ _ _ => 0) (k1 := fun _ => this) (hA1 := fun q => by omega) (hA2 := fun q => by omega) (hA3 := fun q => by omega) (hA4 := fun q => by omega) (k2 := fun q => by omega) (k3 := fun q => by omega) (hA5 := fun q => by omega) (hA6 := fun q => by omega) (k4 := fun q => by omega) (k5 := fun q => by omega)
    refine row M 0 0 Fr_refl (by omega) (fun M2 r2 => row M2 (0 + 1) _ r2 (by omega) (fun M3 r3 => ?_))
    refine r127_29 (k1 := fun q => q_eq ?_ (hQ M3 ⟨CI_q h r3, CQ2_q r3⟩)) (k2 := fun q => by omega)
    unfold aRst; rw [if_pos (by omega)]
    exact rst_ord
  · unfold aRst; rw [if_neg (by omega)]
theorem rq312 {M : dsMem} {W : dsW} {s o : Int} (h : RI0 M W) : bCt 312 [uR 11 84, uI s, uI o, uX 0, uX 0, uX 0, uX 0, uX 0] M (fun _ => [uI (aRst W s o)]) (fun M' => RI0 M' W ∧ Fr RQ M M') := by
  intro Q hQ
  have b := RI_b h
  refine r312_0 (k1 := fun q => ?_) (k2 := fun q => q_eq ?_ (hQ M ⟨h, Fr_refl⟩))
  · have step : ∀ M' k x y a, RI0 M' W ∧ Fr RQ M M' → 0 ≤ k ∧ k < 4 → dsAnd k 1 = x → dsShr k 1 = y → (0 ≤ x ∧ x ≤ 1) ∧ (0 ≤ y ∧ y ≤ 1) → x + 2 * y = k → dsw a = a → (∀ M2, RI0 M2 W ∧ Fr RQ M M2 → bB 312 17 [uR 11 84, uI s, uI o, uI (rSt W s o x y a), uI (k + 1), uX 0, uX 0, uX 0] [] M2 Q) → bB 312 17 [uR 11 84, uI s, uI o, uI a, uI k, uX 0, uX 0, uX 0] [] M' Q := by
      intro M' k x y a hM hk ex ey hxy ek ha K
      subst ex
      subst ey
      refine r312_17 (k1 := fun q => by omega) (hA1 := fun q => getsBy_ct hM.1 (by omega) (by omega) hxy.1 hxy.2 (Or.inl rfl)) (hA2 := fun q M1 r1 => getsBy_ct r1.1 (by omega) (by omega) (by omega) hxy.2 (Or.inl rfl)) (k2 := fun q M1 r1 M2 r2 q2 => ?k2) (hA3 := fun q M1 r1 M2 r2 q2 => getsBy_ct r2.1 (by omega) (by omega) hxy.1 hxy.2 (Or.inr rfl)) (hA4 := fun q M1 r1 M2 r2 q2 M3 r3 => getsBy_ct r3.1 (by omega) (by omega) hxy.1 (by omega) (Or.inr rfl)) (k3 := fun q M1 r1 M2 r2 q2 M3 r3 M4 r4 q3 => ?k3) (k4 := fun q M1 r1 M2 r2 q2 M3 r3 M4 r4 q3 => ?k4)
      case k2 =>
        rw [if_pos rfl, if_pos rfl] at q2
        have e : rSt W s o _ _ a = a := if_neg (fun z => z.1 q2)
        have := K M2 ⟨r2.1, Fr_trans (Fr_trans hM.2 r1.2) r2.2⟩
        rw [e] at this; rw [dsOr_0 ha]; exact this
      case k3 =>
        rw [if_neg (by omega), if_neg (by omega)] at q3
        have e : rSt W s o _ _ a = a := if_neg (fun z => z.2 q3)
        have := K M4 ⟨r4.1, Fr_trans (Fr_trans (Fr_trans (Fr_trans hM.2 r1.2) r2.2) r3.2) r4.2⟩
        rw [e] at this; rw [dsOr_0 ha]; exact this
      case k4 =>
        rw [if_pos rfl, if_pos rfl] at q2
        rw [if_neg (by omega), if_neg (by omega)] at q3
        have e : rSt W s o (dsAnd k 1) (dsShr k 1) a = dsOr a (dsShl 1 k) := by
          have e2 : rSt W s o (dsAnd k 1) (dsShr k 1) a = dsOr a (dsShl 1 (dsAnd k 1 + 2 * dsShr k 1)) := if_pos ⟨q2, q3⟩
          rw [ek] at e2; exact e2
        have := K M4 ⟨r4.1, Fr_trans (Fr_trans (Fr_trans (Fr_trans hM.2 r1.2) r2.2) r3.2) r4.2⟩
        rw [e] at this; exact this
    have hw : ∀ x y a, dsw a = a → dsw (rSt W s o x y a) = rSt W s o x y a := by
      intro x y a ha
      unfold rSt
      split
      · exact dsOr_w _ _
      · exact ha
    refine step M 0 0 0 0 ⟨h, Fr_refl⟩ (by omega) (by decide) (by decide) (by omega) (by omega) rfl (fun M1 r1 => ?_)
    refine step M1 (0 + 1) 1 0 _ r1 (by omega) (by decide) (by decide) (by omega) (by omega) (hw _ _ _ rfl) (fun M2 r2 => ?_)
    refine step M2 (0 + 1 + 1) 0 1 _ r2 (by omega) (by decide) (by decide) (by omega) (by omega) (hw _ _ _ (hw _ _ _ rfl)) (fun M3 r3 => ?_)
    refine step M3 (0 + 1 + 1 + 1) 1 1 _ r3 (by omega) (by decide) (by decide) (by omega) (by omega) (hw _ _ _ (hw _ _ _ (hw _ _ _ rfl))) (fun M4 r4 => ?_)
    refine r312_17 (R1 := fun _ => False) (g1 := fun _ => 0) (R2 := fun _ _ => False) (g2 := fun _ _ => 0) (R3 := fun _ _ _ => False) (g3 := fun _ _ _ => 0) (R4 := fun _ _ _ _ => False) (g4 := fun _ _ _ _ => 0) (k1 := fun q2 => q_eq ?_ (hQ M4 r4)) (s1 := fun q => by omega) (hA1 := fun q => by omega) (hA2 := fun q => by omega) (k2 := fun q => by omega) (hA3 := fun q => by omega) (s3 := fun q => by omega) (hA4 := fun q => by omega) (k3 := fun q => by omega) (k4 := fun q => by omega)
    unfold aRst; rw [if_pos (by omega)]
  · unfold aRst; rw [if_neg (by omega)]
