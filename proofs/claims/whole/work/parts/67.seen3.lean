/-! what was seen: the reference's questions -/
section
variable {M : dsMem} {W : dsW} {l c t a b ss si : Int} {ro be : Int → Int}
theorem rgoG {P : dsP} (h : RI0 M W) (hs : RSv M W l c t a b ss si ro be) (hP : POK P) (hPP : RW M P ∧ REv M P) :
    bCt 234 [uR 11 84, uX 0] M (fun _ => []) (fun M' => RR M' P ∧ RI0 M' W ∧ RSv M' W l c t a b ss si ro be ∧ Fr GF M M') := by
  intro Q hQ
  exact goAll_ct hP hPP.1 hPP.2 Q (fun M' r => hQ M' ⟨r.1, RI0_e h (fun j => r.2.2.2 _ _ (by unfold GF; omega)), RSv_e hs (fun a j q => r.2.2.2 a j (by unfold GF; omega)), r.2.2.2⟩)
theorem isSeen_ct {P : dsP} {S : slT} {u : Int} (h : RI0 M W) (hs : RSv M W l c t a b ss si ro be) (hP : POK P) (hPP : RW M P ∧ REv M P) (hS : RSl M S) (hN : pN P = wN W) (hY : pY P = wY W) (ok : SeenOK W S u) :
    bCt 291 [uR 11 84, uI u, uX 0] M (fun _ => [uI (if seenB P S u = true then 1 else 0)]) (fun M' => RR M' P ∧ RI0 M' W ∧ RSv M' W l c t a b ss si ro be ∧ Fr GF M M') := by
  intro Q hQ
  have hw := h.1.1
  have ot := ok.1.1
  refine r291_0 (hA1 := rgoG h hs hP hPP) (k1 := fun M1 r => ?_)
  have hS1 : RSl M1 S := RSl_e hS (fun a j q1 q2 => r.2.2.2 a j (by unfold GF; omega))
  rcases hS1 u ok.1.1.1 (by omega) with x | ⟨x, xx, cc, d, f, g1, i⟩
  · exact absurd x.1 ok.2.1
  have o3 := ok.2.2.1
  refine b_loop (fun (a : Int) => [uR 11 84, uI u, uI a]) (fun a M' => M' = M1 ∧ ∃ k : Nat, k ≤ 20 ∧ a = 3 * (k : Int) ∧ al3 (fun i => decide (aH P (slF S u (i + 1)) (slF S u i) = slF S u (i + 2))) (slN S u) k = true) (fun a => (63 - a).toNat) ?_ 0 M1 ⟨rfl, 0, by omega, rfl, rfl⟩
  rintro z M' ⟨hM, k, hk, hx, hA⟩ ih
  subst hM
  subst hx
  show bB 291 6 [uR 11 84, uI u, uI (3 * (k : Int))] [] M' Q
  have hf : ¬ M' 111 u ≤ 3 * (k : Int) → (M' 113 (60 * u + 3 * (k : Int)) = slF S u (3 * (k : Int)) ∧ M' 113 (60 * u + (3 * (k : Int) + 1)) = slF S u (3 * (k : Int) + 1) ∧ M' 113 (60 * u + (3 * (k : Int) + 2)) = slF S u (3 * (k : Int) + 2)) ∧ 0 ≤ slF S u (3 * (k : Int)) ∧ slF S u (3 * (k : Int)) < wN W ∧ 0 ≤ slF S u (3 * (k : Int) + 1) ∧ slF S u (3 * (k : Int) + 1) ≤ wY W := fun q =>
    ⟨⟨i _ (by omega) (by omega), i _ (by omega) (by omega), i _ (by omega) (by omega)⟩, ok_f ok xx (by omega)⟩
  have hH : ¬ M' 111 u ≤ 3 * (k : Int) → M' 102 (6 * M' 113 (60 * u + (3 * (k : Int) + 1)) + M' 113 (60 * u + 3 * (k : Int))) = aH P (slF S u (3 * (k : Int) + 1)) (slF S u (3 * (k : Int))) := fun q => by
    have := hf q
    rw [this.1.1, this.1.2.1]
    exact RR_H r.1 (by rw [hY]; omega) (by rw [hN]; omega)
  refine r291_6 (s1 := by omega) (k1 := fun q => ?_) (s2 := fun q => by omega) (s3 := fun q => by omega) (s4 := fun q => by omega) (s5 := fun q => by have := hf q; omega) (s6 := fun q => by have := hf q; omega) (s7 := fun q => by have := hf q; omega) (s8 := fun q => by omega) (s9 := fun q => by omega) (s10 := fun q q2 => by omega) (k2 := fun q q2 => ?_) (k3 := fun q q2 => ?_)
  · refine q_eq ?_ (hQ M' r)
    have z : seenB P S u = true := (al3_end (by omega) hk).2 hA
    rw [if_pos z]
  · rw [hH q, (hf q).1.2.2] at q2
    exact ih (3 * (k : Int) + 3) M' (by show (63 - (3 * (k : Int) + 3)).toNat < (63 - 3 * (k : Int)).toNat; omega) ⟨rfl, k + 1, by omega, by omega, (al3_suc (by omega)).2 ⟨hA, decide_eq_true q2⟩⟩
  · rw [hH q, (hf q).1.2.2] at q2
    refine q_eq ?_ (hQ M' r)
    have z : ¬ seenB P S u = true := fun u => q2 (of_decide_eq_true ((al3_iff 20).1 (show al3 _ _ 20 = true from u) k (by omega) (by omega)))
    rw [if_neg z]
end
theorem askSeen_ct {M : dsMem} {W : dsW} {S : slT} {t : Int} (h : RI0 M W) (hs : RSl M S) : bCt 290 [uR 11 84, uI t, uX 0] M (fun _ => [uI (aRef W S t)]) (fun M' => RI0 M' W ∧ (0 ≤ aRef W S t → RSt M' W) ∧ Fr RQ M M') := by
  intro Q hQ
  have b := RI_b h
  have hw := h.1.1
  have hm : (0 ≤ t ∧ t ≤ 3) → ¬ M 111 t = -1 → 0 ≤ slN S t ∧ slN S t ≤ 60 ∧ M 111 t = slN S t ∧ ∀ j, 0 ≤ j → j < 60 → M 113 (60 * t + j) = slF S t j := fun q1 q2 => by
    rcases hs t q1.1 (by omega) with x | ⟨x, xx, cc, d, f, g1, i⟩
    · exact absurd x.2 q2
    · exact ⟨x, xx, f, i⟩
  have no : aRef W S t = -2 → Q [uI (-2)] M := fun e => q_eq e.symm (hQ M ⟨h, fun q => by omega, Fr_refl⟩)
  refine r290_0 (k1 := fun q => no (by unfold aRef; rw [if_neg (fun u => q u.1)])) (s1 := fun q1 q2 => by omega) (s2 := fun q1 q2 q3 => by have := hm q1 q3; omega) (k2 := fun q1 q2 q3 q4 => ?_) (k3 := fun q1 q2 q3 q4 => no ?_) (k4 := fun q1 q2 q3 => ?_) (k5 := fun q1 q2 => no (by unfold aRef; rw [if_neg (fun u => by omega)]))
  · obtain ⟨m0, m1, m2, m3⟩ := hm q1 q3
    rw [m2] at q4
    have hr : aRef W S t = if al3 (goodAt W (slF S t)) (slN S t) 20 = true then 0 else -2 := by
      unfold aRef; rw [if_pos ⟨q1, by omega⟩, if_neg (by omega)]
      exact if_iff ⟨fun u => u.2, fun u => ⟨q4, u⟩⟩
    refine b_loop (fun (a : Int) => [uR 11 84, uI t, uI a]) (fun a M' => M' = M ∧ ∃ k : Nat, k ≤ 20 ∧ a = 3 * (k : Int) ∧ al3 (goodAt W (slF S t)) (slN S t) k = true) (fun a => (63 - a).toNat) ?_ 0 M ⟨rfl, 0, by omega, rfl, rfl⟩
    rintro z M' ⟨hM, k, hk, hx, hA⟩ ih
    subst hM
    subst hx
    show bB 290 46 [uR 11 84, uI t, uI (3 * (k : Int))] [] M' Q
    have ef : ¬ M' 111 t ≤ 3 * (k : Int) → M' 113 (60 * t + 3 * (k : Int)) = slF S t (3 * (k : Int)) ∧ M' 113 (60 * t + (3 * (k : Int) + 1)) = slF S t (3 * (k : Int) + 1) ∧ M' 113 (60 * t + (3 * (k : Int) + 2)) = slF S t (3 * (k : Int) + 2) := fun q => ⟨m3 _ (by omega) (by omega), m3 _ (by omega) (by omega), m3 _ (by omega) (by omega)⟩
    have bad : ¬ M' 111 t ≤ 3 * (k : Int) → ¬ (0 ≤ slF S t (3 * (k : Int)) ∧ slF S t (3 * (k : Int)) < wN W ∧ 0 ≤ slF S t (3 * (k : Int) + 1) ∧ slF S t (3 * (k : Int) + 1) ≤ wY W ∧ 0 ≤ slF S t (3 * (k : Int) + 2) ∧ slF S t (3 * (k : Int) + 2) ≤ 60) → Q [uI (-2)] M' := fun q u => no (by rw [hr, if_neg (fun v => u (of_decide_eq_true ((al3_iff 20).1 v k (by omega) (by omega))))])
    refine r290_46 (s1 := by omega) (hA1 := fun q => asItIs_ct h) (k1 := fun q M1 r1 => ?_) (s2 := fun q => by omega) (s3 := fun q => by omega) (k2 := fun q q2 => bad q (by have := ef q; omega)) (s4 := fun q q2 => by omega) (s5 := fun q q2 => by omega) (k3 := fun q q2 q3 => bad q (by have := ef q; omega)) (s6 := fun q q2 q3 => by omega) (s7 := fun q q2 q3 => by omega) (s8 := fun q q2 q3 q4 => by omega) (k4 := fun q q2 q3 q4 => ?_) (k5 := fun q q2 q3 q4 => bad q (by have := ef q; omega))
    · have e0 : aRef W S t = 0 := by rw [hr, if_pos ((al3_end (by omega) hk).2 hA)]
      refine q_eq e0.symm (hQ M1 ⟨RI0_e h (fun j => r1.2 _ _ (by omega)), fun _ => r1.1, Fr_mono (fun a j u => by unfold RQ; omega) r1.2⟩)
    · have := ef q
      exact ih (3 * (k : Int) + 3) M' (by show (63 - (3 * (k : Int) + 3)).toNat < (63 - 3 * (k : Int)).toNat; omega) ⟨rfl, k + 1, by omega, by omega, (al3_suc (by omega)).2 ⟨hA, decide_eq_true (by omega)⟩⟩
  · have := hm q1 q3
    rw [this.2.2.1] at q4
    unfold aRef; rw [if_pos ⟨q1, by omega⟩, if_neg (by omega), if_neg (fun u => q4 u.1)]
  · have e : slN S t = -1 := by
      rcases hs t q1.1 (by omega) with x | ⟨x, xx, cc, d, f, g1, i⟩
      · exact x.1
      · omega
    have e6 : aRef W S t = -6 := by unfold aRef; rw [if_pos ⟨q1, by omega⟩, if_pos e]
    exact q_eq e6.symm (hQ M ⟨h, fun q => by omega, Fr_refl⟩)
def GRs (M : dsMem) (W : dsW) (g : gsT) : Prop := M 84 43 = g.1 ∧ ∀ k, 0 ≤ k → k < g.1 → M 108 k = g.2.1 k ∧ ∀ y, 0 ≤ y → y ≤ wY W → M 109 (13 * k + y) = g.2.2 k y
theorem GRs_e {M M' : dsMem} {W : dsW} {g : gsT} (h : GRs M W g) (e : ∀ a j, (a = 84 ∧ j = 43) ∨ a = 108 ∨ a = 109 → M' a j = M a j) : GRs M' W g :=
  ⟨by rw [e _ _ (by omega)]; exact h.1, fun k k0 k1 => ⟨by rw [e _ _ (by omega)]; exact (h.2 k k0 k1).1, fun y y0 y1 => by rw [e _ _ (by omega)]; exact (h.2 k k0 k1).2 y y0 y1⟩⟩
theorem aRfs_0 {W : dsW} {S : slT} {t s : Int} (h : 0 ≤ aRfs W S t s) : aRfs W S t s = 0 := by
  unfold aRfs at h ⊢
  split at h
  · rename_i q
    rw [if_pos q]
    have ok := aRef_ok h
    unfold aRef
    rw [if_pos ok.1, if_neg ok.2.1, if_pos ok.2.2]
  · omega
theorem GF_q {M M' : dsMem} (h : Fr GF M M') : Fr RQ M M' := Fr_mono (fun a j q => by unfold GF at q; unfold RQ; omega) h
theorem layFits_ct {M : dsMem} {W : dsW} {S : slT} {t s : Int} (h : RI0 M W) (hs : RSl M S) : bCt 292 [uR 11 84, uI t, uI s, uX 0, uX 0, uX 0] M (fun _ => [uI (aRfs W S t s)]) (fun M' => RI0 M' W ∧ (0 ≤ aRfs W S t s → GRs M' W (gFin W S t s)) ∧ Fr RQ M M') := by
  intro Q hQ
  have b := RI_b h
  have hw := h.1.1
  refine r292_0 (hA1 := fun q => askSeen_ct h hs) (k1 := fun q M1 r1 q2 => ?_) (k2 := fun q M1 r1 q2 => q_eq ?_ (hQ M1 ⟨r1.1, fun u => ?_, r1.2.2⟩)) (k3 := fun q => q_eq ?_ (hQ M ⟨h, fun u => ?_, Fr_refl⟩))
  · have hst : 0 ≤ s ∧ s < wN W := by omega
    have ok := aRef_ok q2
    have e0 : aRfs W S t s = 0 := aRfs_0 (by unfold aRfs; rw [if_pos (by omega)]; exact q2)
    have hR0 : RVPRm M1 W s (wRo W s) := by
      have e : (fun x => if x = s then wRo W s else wRo W x) = wRo W := by
        funext x
        by_cases hx : x = s
        · rw [if_pos hx, hx]
        · rw [if_neg hx]
      show RSv M1 W (wLw W) 255 63 (dsShl 1 (wN W) - 1) 0 0 (-1) (fun x => if x = s then wRo W s else wRo W x) (wBe W)
      rw [e]; exact r1.2.1 q2
    refine b_loop (fun (a : Int) => [uR 11 84, uI t, uI s, uX 0, uI a, uX 0]) (fun a M' => ∃ k : Nat, k ≤ 60 ∧ a = (k : Int) + 1 ∧ RI0 M' W ∧ (∃ v, RVPRm M' W s v) ∧ GRs M' W (gN W S t s k) ∧ Fr RQ M M') (fun a => (62 - a).toNat) ?_ 1 _ ⟨0, by omega, rfl, RI0_e r1.1 (fun j => ds_gn (by omega)), ⟨wRo W s, RSv_e hR0 (fun a j q => ds_gn (by omega))⟩, ⟨by rw [ds_ge (by omega)]; rfl, fun k k0 k1 => by have : k < 0 := k1; omega⟩, Fr_set r1.2.2 (by unfold RQ; omega)⟩
    rintro x M' ⟨k, hk, hx, hI, ⟨v, hv⟩, hG, hF⟩ ih
    subst hx
    show bB 292 32 [uR 11 84, uI t, uI s, uX 0, uI ((k : Int) + 1), uX 0] [] M' Q
    have gb := gN_b (S := S) (t := t) h.1 hst k hk
    have step : gN W S t s (k + 1) = gStep W S t s ((k : Int) + 1) (gN W S t s k) := rfl
    have hI2 : RI0 (dsSet M' 91 s ((k : Int) + 1)) W := RI0_e hI (fun j => ds_gn (by omega))
    have hV2 : RVPRm (dsSet M' 91 s ((k : Int) + 1)) W s ((k : Int) + 1) := by
      have e : (fun x => if x = s then ((k : Int) + 1) else (fun x => if x = s then v else wRo W x) x) = (fun x => if x = s then ((k : Int) + 1) else wRo W x) := by
        funext x
        by_cases hx : x = s
        · rw [if_pos hx, if_pos hx]
        · rw [if_neg hx, if_neg hx]; show (if x = s then v else wRo W x) = wRo W x; rw [if_neg hx]
      show RSv _ W (wLw W) 255 63 (dsShl 1 (wN W) - 1) 0 0 (-1) (fun x => if x = s then ((k : Int) + 1) else wRo W x) (wBe W)
      rw [← e]; exact RSv_ro hv
    have hS2 : RSl (dsSet M' 91 s ((k : Int) + 1)) S := RSl_e (RSl_q hs hF) (fun a j q1 q2 => ds_gn (by omega))
    have hG2 : GRs (dsSet M' 91 s ((k : Int) + 1)) W (gN W S t s k) := GRs_e hG (fun a j q => ds_gn (by omega))
    have hF2 : Fr RQ M (dsSet M' 91 s ((k : Int) + 1)) := Fr_set hF (by unfold RQ; omega)
    have g1 : ∀ M2, Fr GF (dsSet M' 91 s ((k : Int) + 1)) M2 → GRs M2 W (gN W S t s k) := fun M2 r => GRs_e hG2 (fun a j q => r a j (by unfold GF; omega))
    refine r292_32 (k1 := fun q => ?_) (s1 := fun q => by omega) (hA1 := fun q => isSeen_ct hI2 hV2 (PRm_ok h.1 (by omega)) (rpPRm hI2 hV2 (by omega)) hS2 rfl rfl ok) (s2 := fun q M2 r2 q3 => by have := (g1 M2 r2.2.2.2).1; omega) (k2 := fun q M2 r2 q3 => ?_) (s3 := fun q M2 r2 q3 => by omega) (k3 := fun q M2 r2 q3 => ?_)
    · have e60 : k = 60 := by omega
      subst e60
      exact q_eq e0.symm (hQ M' ⟨hI, fun _ => hG, hF⟩)
    · have z := if01_1 q3
      have hG3 := g1 M2 r2.2.2.2
      have e43 : M2 84 43 = (gN W S t s k).1 := hG3.1
      rw [e43]
      refine b_loop (fun (a : Int) => [uR 11 84, uI t, uI s, uX 0, uI ((k : Int) + 1), uI a]) (fun a M3 => (0 ≤ a ∧ a ≤ wY W + 1) ∧ M3 108 (gN W S t s k).1 = (k : Int) + 1 ∧ (∀ y, 0 ≤ y → y < a → M3 109 (13 * (gN W S t s k).1 + y) = aH (PRm W s ((k : Int) + 1)) y s) ∧ Fr (fun a j => (a = 108 ∧ j = (gN W S t s k).1) ∨ (a = 109 ∧ 13 * (gN W S t s k).1 ≤ j)) M2 M3) (fun a => (14 - a).toNat) ?_ 0 _ ⟨by omega, by rw [ds_ge (by omega)], fun y y0 y1 => by omega, Fr_set Fr_refl (by omega)⟩
      rintro y0 M3 ⟨hy, h108, h109, hF3⟩ ih3
      have e43' : M3 84 43 = (gN W S t s k).1 := by rw [hF3 _ _ (by omega)]; exact e43
      have e85 : M3 85 0 = wY W := by rw [hF3 _ _ (by omega)]; have := RI_b r2.2.1; omega
      show bB 292 72 [uR 11 84, uI t, uI s, uX 0, uI ((k : Int) + 1), uI y0] [] M3 Q
      refine r292_72 (s1 := fun q => by omega) (s2 := fun q => by omega) (k1 := fun q => ?_) (s3 := fun q => by omega) (s4 := fun q => by omega) (s5 := fun q => by omega) (k2 := fun q => ?_)
      · refine ih ((k : Int) + 1 + 1) _ (by show (62 - ((k : Int) + 1 + 1)).toNat < (62 - ((k : Int) + 1)).toNat; omega) ⟨k + 1, by omega, by omega, RI0_e r2.2.1 (fun j => by rw [ds_gn (by omega)]; exact hF3 _ _ (by omega)), ⟨_, RSv_e r2.2.2.1 (fun a j q => by rw [ds_gn (by omega)]; exact hF3 _ _ (by omega))⟩, ?_, Fr_set (Fr_trans (Fr_trans hF2 (GF_q r2.2.2.2)) (Fr_mono (fun a j q => by unfold RQ; omega) hF3)) (by unfold RQ; omega)⟩
        rw [step]
        unfold gStep
        rw [if_pos z]
        refine ⟨by rw [ds_ge (by omega), e43'], fun i i0 i1 => ?_⟩
        have i2 : i < (gN W S t s k).1 + 1 := i1
        show dsSet M3 84 43 (M3 84 43 + 1) 108 i = dsUpd (gN W S t s k).2.1 (gN W S t s k).1 ((k : Int) + 1) i ∧ ∀ y, 0 ≤ y → y ≤ wY W → dsSet M3 84 43 (M3 84 43 + 1) 109 (13 * i + y) = dsUpd (gN W S t s k).2.2 (gN W S t s k).1 (fun y => aH (PRm W s ((k : Int) + 1)) y s) i y
        by_cases hi : i = (gN W S t s k).1
        · rw [hi, upd_e, upd_e]
          refine ⟨by rw [ds_gn (by omega)]; exact h108, fun y y0 y1 => ?_⟩
          rw [ds_gn (by omega)]; exact h109 y y0 (by omega)
        · rw [upd_n _ _ hi, upd_n _ _ hi]
          have := hG3.2 i i0 (by omega)
          refine ⟨by rw [ds_gn (by omega), hF3 _ _ (by omega)]; exact this.1, fun y y0 y1 => ?_⟩
          rw [ds_gn (by omega), hF3 _ _ (by omega)]; exact this.2 y y0 y1
      · rw [e43']
        refine ih3 (y0 + 1) _ (by show (14 - (y0 + 1)).toNat < (14 - y0).toNat; omega) ⟨by omega, by rw [ds_gn (by omega)]; exact h108, fun y u0 u1 => ?_, Fr_set hF3 (by omega)⟩
        by_cases hy2 : y = y0
        · subst hy2
          rw [ds_ge (by omega), hF3 _ _ (by omega)]
          exact RR_H r2.1 (by show 0 ≤ y ∧ y ≤ wY W; omega) hst
        · rw [ds_gn (by omega)]; exact h109 y u0 (by omega)
    · have z := if01_0 q3
      refine ih ((k : Int) + 1 + 1) M2 (by show (62 - ((k : Int) + 1 + 1)).toNat < (62 - ((k : Int) + 1)).toNat; omega) ⟨k + 1, by omega, by omega, r2.2.1, ⟨_, r2.2.2.1⟩, ?_, Fr_trans hF2 (GF_q r2.2.2.2)⟩
      rw [step]
      unfold gStep
      rw [if_neg z]
      exact g1 M2 r2.2.2.2
  · unfold aRfs; rw [if_pos (by omega)]
  · unfold aRfs at u; rw [if_pos (by omega)] at u; exact absurd u q2
  · unfold aRfs; rw [if_neg (by omega)]
  · unfold aRfs at u; rw [if_neg (by omega)] at u; omega
theorem v296_eq {M : dsMem} {W : dsW} {g : gsT} {y : Int} (hG : GRs M W g) (hb : GBd W g) (hy : 0 ≤ y ∧ y ≤ wY W) : v296 M y = wsG g y := by
  have hc : ∀ v, dsIter (fun (i : Int) (a : Int) => (if (M 109 ((13 * i) + y)) = v then (dsw ((a + 1))) else (dsw ((a + 0))))) 0 (M 84 43) 0 = cntV (fun k => g.2.2 k y) g.1 v := by
    intro v
    rw [hG.1]
    unfold cntV
    refine dsIter_congrI (fun j a => 0 ≤ a ∧ a ≤ j) 0 0 ⟨Int.le_refl _, Int.le_refl _⟩ (fun j a j0 j1 ha => ?_)
    have := hb.2.1
    rw [(hG.2 j j0 j1).2 y hy.1 hy.2]
    by_cases hv : g.2.2 j y = v
    · rw [if_pos hv, if_pos hv, dsw_id (by omega) (by omega)]; exact ⟨rfl, by omega, by omega⟩
    · rw [if_neg hv, if_neg hv, dsw_id (by omega) (by omega)]; exact ⟨by omega, by omega, by omega⟩
  unfold v296 wsG wst
  rw [show (60 + 1 : Int) = 61 from rfl]
  refine dsIter_congr _ _ (fun j a _ _ => ?_)
  rw [hc j]
theorem askOf_ct {M : dsMem} {W : dsW} {g : gsT} (h : RI0 M W) (hG : GRs M W g) (hb : GBd W g) : bCt 297 [uR 11 84, uX 0, uX 0, uX 0] M (fun _ => [uI (bYr W g).1]) (fun M' => M' 84 44 = (bYr W g).2 ∧ Fr (fun a j => a = 84 ∧ j = 44) M M') := by
  intro Q hQ
  have b := RI_b h
  have hw := h.1.1
  have hb1 := hb.1
  have hb2 := hb.2.1
  refine r297_0 (k1 := ?_)
  rw [hG.1]
  refine b_loop (fun (a : Int × Int × Int) => [uR 11 84, uI a.1, uI a.2.2, uX 0]) (fun a M' => (0 ≤ a.2.2 ∧ a.2.2 ≤ wY W + 1) ∧ dsIter (bYs g) a.2.2 (wY W + 1) (a.1, a.2.1) = bYr W g ∧ M' 84 44 = a.2.1 ∧ Fr (fun a j => a = 84 ∧ j = 44) M M') (fun a => (wY W + 1 - a.2.2).toNat) ?_ (-1, g.1, 0) _ ⟨by show (0 : Int) ≤ 0 ∧ (0 : Int) ≤ wY W + 1; omega, rfl, by rw [ds_ge (by omega)], Fr_set Fr_refl (by omega)⟩
  rintro ⟨x1, x3, x2⟩ M1 ⟨h2, e, e44, hF⟩ ih
  simp only at h2 e e44
  show bB 297 12 [uR 11 84, uI x1, uI x2, uX 0] [] M1 Q
  have hG1 : GRs M1 W g := GRs_e hG (fun a j q => hF a j (by omega))
  have e85 : M1 85 0 = wY W := by rw [hF _ _ (by omega)]; omega
  have e43 := hG1.1
  refine r297_12 (k1 := fun q => ?_) (s1 := fun q i a i0 i1 i' a' i0' i1' => by omega) (s2 := fun q i a i0 i1 i' a' i0' i1' => by omega) (s3 := fun q i a i0 i1 => by omega) (s4 := fun q q2 => by omega) (k2 := fun q q2 => ?_) (s5 := fun q q2 => by omega) (k3 := fun q q2 => ?_)
  · rw [dsIter_end (by omega)] at e
    refine q_eq ?_ (hQ M1 ⟨?_, hF⟩)
    · rw [← e]
    · rw [← e]; exact e44
  · rw [v296_eq hG1 hb (by omega), e44] at q2
    rw [v296_eq hG1 hb (by omega)]
    rw [dsIter_step (by omega)] at e
    unfold bYs at e
    rw [if_neg (by show ¬ x3 ≤ wsG g x2; omega)] at e
    obtain ⟨z, hz⟩ : ∃ z, wsG g x2 = z := ⟨_, rfl⟩
    rw [hz] at e ⊢
    exact ih (x2, z, x2 + 1) _ (by show (wY W + 1 - (x2 + 1)).toNat < (wY W + 1 - x2).toNat; omega) ⟨by show 0 ≤ x2 + 1 ∧ x2 + 1 ≤ wY W + 1; omega, e, by rw [ds_ge (by omega)], Fr_set hF (by omega)⟩
  · rw [v296_eq hG1 hb (by omega), e44] at q2
    rw [dsIter_step (by omega)] at e
    unfold bYs at e
    rw [if_pos (by show x3 ≤ wsG g x2; omega)] at e
    exact ih (x1, x3, x2 + 1) M1 (by show (wY W + 1 - (x2 + 1)).toNat < (wY W + 1 - x2).toNat; omega) ⟨by show 0 ≤ x2 + 1 ∧ x2 + 1 ≤ wY W + 1; omega, e, e44, hF⟩
theorem Fr_44 {M M' : dsMem} (h : Fr (fun a j => a = 84 ∧ j = 44) M M') : Fr RQ M M' := Fr_mono (fun a j q => by unfold RQ; omega) h
theorem rq293 {M : dsMem} {W : dsW} {S : slT} {t s : Int} (h : RI0 M W) (hs : RSl M S) : bCt 293 [uR 11 84, uI t, uI s, uX 0] M (fun _ => [uI (aSeen W S t s fRoo)]) (fun M' => RI0 M' W ∧ Fr RQ M M') := by
  intro Q hQ
  refine r293_0 (hA1 := layFits_ct h hs) (k1 := fun M1 r1 q => q_eq ?_ (hQ M1 ⟨r1.1, r1.2.2⟩)) (k2 := fun M1 r1 q => q_eq ?_ (hQ M1 ⟨r1.1, r1.2.2⟩))
  · unfold aSeen; rw [if_pos q]; exact (r1.2.1 q).1
  · unfold aSeen; rw [if_neg q]
theorem rq294 {M : dsMem} {W : dsW} {S : slT} {t s : Int} (h : RI0 M W) (hs : RSl M S) : bCt 294 [uR 11 84, uI t, uI s, uX 0] M (fun _ => [uI (aSeen W S t s fLea)]) (fun M' => RI0 M' W ∧ Fr RQ M M') := by
  intro Q hQ
  refine r294_0 (hA1 := layFits_ct h hs) (k1 := fun M1 r1 q q2 => q_eq ?_ (hQ M1 ⟨r1.1, r1.2.2⟩)) (k2 := fun M1 r1 q q2 => q_eq ?_ (hQ M1 ⟨r1.1, r1.2.2⟩)) (k3 := fun M1 r1 q => q_eq ?_ (hQ M1 ⟨r1.1, r1.2.2⟩))
  · have bd := gFin_bd (S := S) (t := t) h.1 (aRfs_ok q).2
    have e := (r1.2.1 q).1
    unfold aSeen; rw [if_pos q]
    unfold fLea
    rw [if_neg (by omega)]
    exact ((r1.2.1 q).2 0 (by omega) (by have := bd.1; omega)).1
  · have e := (r1.2.1 q).1
    unfold aSeen; rw [if_pos q]
    unfold fLea
    rw [if_pos (by omega)]
  · unfold aSeen; rw [if_neg q]
theorem rq295 {M : dsMem} {W : dsW} {S : slT} {t s : Int} (h : RI0 M W) (hs : RSl M S) : bCt 295 [uR 11 84, uI t, uI s, uX 0] M (fun _ => [uI (aSeen W S t s fGre)]) (fun M' => RI0 M' W ∧ Fr RQ M M') := by
  intro Q hQ
  refine r295_0 (hA1 := layFits_ct h hs) (s1 := fun M1 r1 q q2 => by have bd := gFin_bd (S := S) (t := t) h.1 (aRfs_ok q).2; have e := (r1.2.1 q).1; have b1 := bd.1; have b2 := bd.2.1; omega) (k1 := fun M1 r1 q q2 => q_eq ?_ (hQ M1 ⟨r1.1, r1.2.2⟩)) (k2 := fun M1 r1 q q2 => q_eq ?_ (hQ M1 ⟨r1.1, r1.2.2⟩)) (k3 := fun M1 r1 q => q_eq ?_ (hQ M1 ⟨r1.1, r1.2.2⟩))
  · have bd := gFin_bd (S := S) (t := t) h.1 (aRfs_ok q).2
    have e := (r1.2.1 q).1
    unfold aSeen; rw [if_pos q]
    unfold fGre
    rw [if_neg (by omega), e]
    exact ((r1.2.1 q).2 _ (by have := bd.1; omega) (by omega)).1
  · have e := (r1.2.1 q).1
    unfold aSeen; rw [if_pos q]
    unfold fGre
    rw [if_pos (by omega)]
  · unfold aSeen; rw [if_neg q]
theorem rq298 {M : dsMem} {W : dsW} {S : slT} {t s : Int} (h : RI0 M W) (hs : RSl M S) : bCt 298 [uR 11 84, uI t, uI s, uX 0] M (fun _ => [uI (aSeen W S t s (fAsk W))]) (fun M' => RI0 M' W ∧ Fr RQ M M') := by
  intro Q hQ
  refine r298_0 (hA1 := layFits_ct h hs) (hA2 := fun M1 r1 q => askOf_ct r1.1 (r1.2.1 q) (gFin_bd h.1 (aRfs_ok q).2)) (k1 := fun M1 r1 q M2 r2 => q_eq ?_ (hQ M2 ⟨RI0_e r1.1 (fun j => r2.2 _ _ (by omega)), Fr_trans r1.2.2 (Fr_44 r2.2)⟩)) (k2 := fun M1 r1 q => q_eq ?_ (hQ M1 ⟨r1.1, r1.2.2⟩))
  · unfold aSeen; rw [if_pos q]; rfl
  · unfold aSeen; rw [if_neg q]
theorem rq299 {M : dsMem} {W : dsW} {S : slT} {t s : Int} (h : RI0 M W) (hs : RSl M S) : bCt 299 [uR 11 84, uI t, uI s, uX 0] M (fun _ => [uI (aSeen W S t s (fLvs W))]) (fun M' => RI0 M' W ∧ Fr RQ M M') := by
  intro Q hQ
  refine r299_0 (hA1 := layFits_ct h hs) (hA2 := fun M1 r1 q => askOf_ct r1.1 (r1.2.1 q) (gFin_bd h.1 (aRfs_ok q).2)) (k1 := fun M1 r1 q M2 r2 => q_eq ?_ (hQ M2 ⟨RI0_e r1.1 (fun j => r2.2 _ _ (by omega)), Fr_trans r1.2.2 (Fr_44 r2.2)⟩)) (k2 := fun M1 r1 q => q_eq ?_ (hQ M1 ⟨r1.1, r1.2.2⟩))
  · unfold aSeen; rw [if_pos q]; exact r2.1
  · unfold aSeen; rw [if_neg q]
theorem rq300 {M : dsMem} {W : dsW} {S : slT} {t : Int} (h : RI0 M W) (hs : RSl M S) : bCt 300 [uR 11 84, uI t, uX 0, uX 0] M (fun _ => [uI (aLws W S t)]) (fun M' => RI0 M' W ∧ Fr RQ M M') := by
  intro Q hQ
  refine r300_0 (hA1 := askSeen_ct h hs) (k1 := fun M1 r1 q => ?_) (k2 := fun M1 r1 q => q_eq ?_ (hQ M1 ⟨r1.1, r1.2.2⟩))
  · have ok := aRef_ok q
    refine b_loop (fun (a : Int × Int) => [uR 11 84, uI t, uX 0, uI a.1]) (fun a M' => (0 ≤ a.2 ∧ a.2 ≤ 4) ∧ dsw a.1 = a.1 ∧ dsIter (lwS W S t) a.2 4 a.1 = aLws W S t ∧ M' 84 17 = a.2 ∧ RI0 M' W ∧ RVPLw M' W a.2 ∧ Fr RQ M M') (fun a => (4 - a.2).toNat) ?_ (0, 0) _ ⟨by show (0 : Int) ≤ 0 ∧ (0 : Int) ≤ 4; omega, rfl, by unfold aLws; rw [if_pos q], by rw [ds_ge (by omega)], RI0_e r1.1 (fun j => ds_gn (by omega)), RSv_17 (r1.2.1 q), Fr_set r1.2.2 (by unfold RQ; omega)⟩
    rintro ⟨x3, x4⟩ M' ⟨h4, hd, e, e17, hI, hV, hF⟩ ih
    simp only at h4 hd e e17 hV
    show bB 300 19 [uR 11 84, uI t, uX 0, uI x3] [] M' Q
    have e17' : ∀ M2, Fr GF M' M2 → M2 84 17 = x4 := fun M2 r => by rw [r _ _ (by unfold GF; omega)]; exact e17
    refine r300_19 (k1 := fun q => ?_) (hA1 := fun q => isSeen_ct hI hV (PLw_ok h.1 (by omega)) (rpPLw hI hV (by omega)) (RSl_q hs hF) rfl rfl ok) (s1 := fun q M2 r2 q2 => by have := e17' M2 r2.2.2.2; omega) (k2 := fun q M2 r2 q2 => ?_) (s2 := fun q M2 r2 q2 => by have := e17' M2 r2.2.2.2; omega) (k3 := fun q M2 r2 q2 => ?_)
    · rw [dsIter_end (by omega)] at e
      exact q_eq e (hQ M' ⟨hI, hF⟩)
    · rw [dsOr_0 hd, e17' M2 r2.2.2.2]
      rw [dsIter_step (by omega)] at e
      unfold lwS at e
      rw [if_neg (if01_0 q2)] at e
      exact ih (x3, x4 + 1) _ (by show (4 - (x4 + 1)).toNat < (4 - x4).toNat; omega) ⟨by show 0 ≤ x4 + 1 ∧ x4 + 1 ≤ 4; omega, hd, e, by rw [ds_ge (by omega)], RI0_e r2.2.1 (fun j => ds_gn (by omega)), RSv_17 r2.2.2.1, Fr_set (Fr_trans hF (GF_q r2.2.2.2)) (by unfold RQ; omega)⟩
    · rw [e17' M2 r2.2.2.2]
      rw [dsIter_step (by omega)] at e
      unfold lwS at e
      rw [if_pos (if01_1 q2)] at e
      exact ih (_, x4 + 1) _ (by show (4 - (x4 + 1)).toNat < (4 - x4).toNat; omega) ⟨by show 0 ≤ x4 + 1 ∧ x4 + 1 ≤ 4; omega, dsOr_w _ _, e, by rw [ds_ge (by omega)], RI0_e r2.2.1 (fun j => ds_gn (by omega)), RSv_17 r2.2.2.1, Fr_set (Fr_trans hF (GF_q r2.2.2.2)) (by unfold RQ; omega)⟩
  · unfold aLws; rw [if_neg q]
