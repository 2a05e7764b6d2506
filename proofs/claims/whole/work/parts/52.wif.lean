/-! what would be otherwise: both sides -/
theorem cnt_s : ∀ x : Fin 256, (-2147483648 ≤ (((x.val : Nat) : Int) - (dsAnd (dsUsh ((x.val : Nat) : Int) 1) 1431655765)) ∧ (((x.val : Nat) : Int) - (dsAnd (dsUsh ((x.val : Nat) : Int) 1) 1431655765)) < 2147483648) ∧ (-2147483648 ≤ ((dsAnd (((x.val : Nat) : Int) - (dsAnd (dsUsh ((x.val : Nat) : Int) 1) 1431655765)) 858993459) + (dsAnd (dsUsh (((x.val : Nat) : Int) - (dsAnd (dsUsh ((x.val : Nat) : Int) 1) 1431655765)) 2) 858993459)) ∧ ((dsAnd (((x.val : Nat) : Int) - (dsAnd (dsUsh ((x.val : Nat) : Int) 1) 1431655765)) 858993459) + (dsAnd (dsUsh (((x.val : Nat) : Int) - (dsAnd (dsUsh ((x.val : Nat) : Int) 1) 1431655765)) 2) 858993459)) < 2147483648) ∧ (-2147483648 ≤ (((dsAnd (((x.val : Nat) : Int) - (dsAnd (dsUsh ((x.val : Nat) : Int) 1) 1431655765)) 858993459) + (dsAnd (dsUsh (((x.val : Nat) : Int) - (dsAnd (dsUsh ((x.val : Nat) : Int) 1) 1431655765)) 2) 858993459)) + (dsUsh ((dsAnd (((x.val : Nat) : Int) - (dsAnd (dsUsh ((x.val : Nat) : Int) 1) 1431655765)) 858993459) + (dsAnd (dsUsh (((x.val : Nat) : Int) - (dsAnd (dsUsh ((x.val : Nat) : Int) 1) 1431655765)) 2) 858993459)) 4)) ∧ (((dsAnd (((x.val : Nat) : Int) - (dsAnd (dsUsh ((x.val : Nat) : Int) 1) 1431655765)) 858993459) + (dsAnd (dsUsh (((x.val : Nat) : Int) - (dsAnd (dsUsh ((x.val : Nat) : Int) 1) 1431655765)) 2) 858993459)) + (dsUsh ((dsAnd (((x.val : Nat) : Int) - (dsAnd (dsUsh ((x.val : Nat) : Int) 1) 1431655765)) 858993459) + (dsAnd (dsUsh (((x.val : Nat) : Int) - (dsAnd (dsUsh ((x.val : Nat) : Int) 1) 1431655765)) 2) 858993459)) 4)) < 2147483648) ∧ (-2147483648 ≤ ((dsAnd (((dsAnd (((x.val : Nat) : Int) - (dsAnd (dsUsh ((x.val : Nat) : Int) 1) 1431655765)) 858993459) + (dsAnd (dsUsh (((x.val : Nat) : Int) - (dsAnd (dsUsh ((x.val : Nat) : Int) 1) 1431655765)) 2) 858993459)) + (dsUsh ((dsAnd (((x.val : Nat) : Int) - (dsAnd (dsUsh ((x.val : Nat) : Int) 1) 1431655765)) 858993459) + (dsAnd (dsUsh (((x.val : Nat) : Int) - (dsAnd (dsUsh ((x.val : Nat) : Int) 1) 1431655765)) 2) 858993459)) 4)) 252645135) + (dsUsh (dsAnd (((dsAnd (((x.val : Nat) : Int) - (dsAnd (dsUsh ((x.val : Nat) : Int) 1) 1431655765)) 858993459) + (dsAnd (dsUsh (((x.val : Nat) : Int) - (dsAnd (dsUsh ((x.val : Nat) : Int) 1) 1431655765)) 2) 858993459)) + (dsUsh ((dsAnd (((x.val : Nat) : Int) - (dsAnd (dsUsh ((x.val : Nat) : Int) 1) 1431655765)) 858993459) + (dsAnd (dsUsh (((x.val : Nat) : Int) - (dsAnd (dsUsh ((x.val : Nat) : Int) 1) 1431655765)) 2) 858993459)) 4)) 252645135) 8)) ∧ ((dsAnd (((dsAnd (((x.val : Nat) : Int) - (dsAnd (dsUsh ((x.val : Nat) : Int) 1) 1431655765)) 858993459) + (dsAnd (dsUsh (((x.val : Nat) : Int) - (dsAnd (dsUsh ((x.val : Nat) : Int) 1) 1431655765)) 2) 858993459)) + (dsUsh ((dsAnd (((x.val : Nat) : Int) - (dsAnd (dsUsh ((x.val : Nat) : Int) 1) 1431655765)) 858993459) + (dsAnd (dsUsh (((x.val : Nat) : Int) - (dsAnd (dsUsh ((x.val : Nat) : Int) 1) 1431655765)) 2) 858993459)) 4)) 252645135) + (dsUsh (dsAnd (((dsAnd (((x.val : Nat) : Int) - (dsAnd (dsUsh ((x.val : Nat) : Int) 1) 1431655765)) 858993459) + (dsAnd (dsUsh (((x.val : Nat) : Int) - (dsAnd (dsUsh ((x.val : Nat) : Int) 1) 1431655765)) 2) 858993459)) + (dsUsh ((dsAnd (((x.val : Nat) : Int) - (dsAnd (dsUsh ((x.val : Nat) : Int) 1) 1431655765)) 858993459) + (dsAnd (dsUsh (((x.val : Nat) : Int) - (dsAnd (dsUsh ((x.val : Nat) : Int) 1) 1431655765)) 2) 858993459)) 4)) 252645135) 8)) < 2147483648) ∧ (-2147483648 ≤ (((dsAnd (((dsAnd (((x.val : Nat) : Int) - (dsAnd (dsUsh ((x.val : Nat) : Int) 1) 1431655765)) 858993459) + (dsAnd (dsUsh (((x.val : Nat) : Int) - (dsAnd (dsUsh ((x.val : Nat) : Int) 1) 1431655765)) 2) 858993459)) + (dsUsh ((dsAnd (((x.val : Nat) : Int) - (dsAnd (dsUsh ((x.val : Nat) : Int) 1) 1431655765)) 858993459) + (dsAnd (dsUsh (((x.val : Nat) : Int) - (dsAnd (dsUsh ((x.val : Nat) : Int) 1) 1431655765)) 2) 858993459)) 4)) 252645135) + (dsUsh (dsAnd (((dsAnd (((x.val : Nat) : Int) - (dsAnd (dsUsh ((x.val : Nat) : Int) 1) 1431655765)) 858993459) + (dsAnd (dsUsh (((x.val : Nat) : Int) - (dsAnd (dsUsh ((x.val : Nat) : Int) 1) 1431655765)) 2) 858993459)) + (dsUsh ((dsAnd (((x.val : Nat) : Int) - (dsAnd (dsUsh ((x.val : Nat) : Int) 1) 1431655765)) 858993459) + (dsAnd (dsUsh (((x.val : Nat) : Int) - (dsAnd (dsUsh ((x.val : Nat) : Int) 1) 1431655765)) 2) 858993459)) 4)) 252645135) 8)) + (dsUsh ((dsAnd (((dsAnd (((x.val : Nat) : Int) - (dsAnd (dsUsh ((x.val : Nat) : Int) 1) 1431655765)) 858993459) + (dsAnd (dsUsh (((x.val : Nat) : Int) - (dsAnd (dsUsh ((x.val : Nat) : Int) 1) 1431655765)) 2) 858993459)) + (dsUsh ((dsAnd (((x.val : Nat) : Int) - (dsAnd (dsUsh ((x.val : Nat) : Int) 1) 1431655765)) 858993459) + (dsAnd (dsUsh (((x.val : Nat) : Int) - (dsAnd (dsUsh ((x.val : Nat) : Int) 1) 1431655765)) 2) 858993459)) 4)) 252645135) + (dsUsh (dsAnd (((dsAnd (((x.val : Nat) : Int) - (dsAnd (dsUsh ((x.val : Nat) : Int) 1) 1431655765)) 858993459) + (dsAnd (dsUsh (((x.val : Nat) : Int) - (dsAnd (dsUsh ((x.val : Nat) : Int) 1) 1431655765)) 2) 858993459)) + (dsUsh ((dsAnd (((x.val : Nat) : Int) - (dsAnd (dsUsh ((x.val : Nat) : Int) 1) 1431655765)) 858993459) + (dsAnd (dsUsh (((x.val : Nat) : Int) - (dsAnd (dsUsh ((x.val : Nat) : Int) 1) 1431655765)) 2) 858993459)) 4)) 252645135) 8)) 16)) ∧ (((dsAnd (((dsAnd (((x.val : Nat) : Int) - (dsAnd (dsUsh ((x.val : Nat) : Int) 1) 1431655765)) 858993459) + (dsAnd (dsUsh (((x.val : Nat) : Int) - (dsAnd (dsUsh ((x.val : Nat) : Int) 1) 1431655765)) 2) 858993459)) + (dsUsh ((dsAnd (((x.val : Nat) : Int) - (dsAnd (dsUsh ((x.val : Nat) : Int) 1) 1431655765)) 858993459) + (dsAnd (dsUsh (((x.val : Nat) : Int) - (dsAnd (dsUsh ((x.val : Nat) : Int) 1) 1431655765)) 2) 858993459)) 4)) 252645135) + (dsUsh (dsAnd (((dsAnd (((x.val : Nat) : Int) - (dsAnd (dsUsh ((x.val : Nat) : Int) 1) 1431655765)) 858993459) + (dsAnd (dsUsh (((x.val : Nat) : Int) - (dsAnd (dsUsh ((x.val : Nat) : Int) 1) 1431655765)) 2) 858993459)) + (dsUsh ((dsAnd (((x.val : Nat) : Int) - (dsAnd (dsUsh ((x.val : Nat) : Int) 1) 1431655765)) 858993459) + (dsAnd (dsUsh (((x.val : Nat) : Int) - (dsAnd (dsUsh ((x.val : Nat) : Int) 1) 1431655765)) 2) 858993459)) 4)) 252645135) 8)) + (dsUsh ((dsAnd (((dsAnd (((x.val : Nat) : Int) - (dsAnd (dsUsh ((x.val : Nat) : Int) 1) 1431655765)) 858993459) + (dsAnd (dsUsh (((x.val : Nat) : Int) - (dsAnd (dsUsh ((x.val : Nat) : Int) 1) 1431655765)) 2) 858993459)) + (dsUsh ((dsAnd (((x.val : Nat) : Int) - (dsAnd (dsUsh ((x.val : Nat) : Int) 1) 1431655765)) 858993459) + (dsAnd (dsUsh (((x.val : Nat) : Int) - (dsAnd (dsUsh ((x.val : Nat) : Int) 1) 1431655765)) 2) 858993459)) 4)) 252645135) + (dsUsh (dsAnd (((dsAnd (((x.val : Nat) : Int) - (dsAnd (dsUsh ((x.val : Nat) : Int) 1) 1431655765)) 858993459) + (dsAnd (dsUsh (((x.val : Nat) : Int) - (dsAnd (dsUsh ((x.val : Nat) : Int) 1) 1431655765)) 2) 858993459)) + (dsUsh ((dsAnd (((x.val : Nat) : Int) - (dsAnd (dsUsh ((x.val : Nat) : Int) 1) 1431655765)) 858993459) + (dsAnd (dsUsh (((x.val : Nat) : Int) - (dsAnd (dsUsh ((x.val : Nat) : Int) 1) 1431655765)) 2) 858993459)) 4)) 252645135) 8)) 16)) < 2147483648) ∧ v333 (fun _ _ => 0) ((x.val : Nat) : Int) = bitc ((x.val : Nat) : Int) := by decide +kernel
theorem cnt_ct {M : dsMem} {x : Int} (h : 0 ≤ x ∧ x < 256) : bCt 333 [uI x] M (fun _ => [uI (bitc x)]) (fun M' => M' = M) := by
  intro Q hQ
  obtain ⟨n, rfl⟩ : ∃ n : Nat, x = n := ⟨x.toNat, by omega⟩
  have c := cnt_s ⟨n, by omega⟩
  exact fx333 (s1 := c.1) (s2 := c.2.1) (s3 := c.2.2.1) (s4 := c.2.2.2.1) (s5 := c.2.2.2.2.1) (k := q_eq c.2.2.2.2.2 (hQ M rfl))
theorem clear_ct {M : dsMem} {x0 : Int} : bCt 1 [uR 0 x0] M (fun _ => []) (fun M' => Dfl M' x0 ∧ Fr (fun a _ => a = x0) M M') := by
  intro Q hQ
  refine r1_0 (k1 := hQ _ ⟨?_, ?_⟩)
  · refine ⟨?_, ?_, ?_, ?_, ?_, ?_, ?_, ?_, ?_⟩ <;> simp (disch := omega) only [ds_gn, ds_ge]
  · refine Fr_set (Fr_set (Fr_set (Fr_set (Fr_set (Fr_set (Fr_set (Fr_set (Fr_set Fr_refl ?_) ?_) ?_) ?_) ?_) ?_) ?_) ?_) ?_ <;> rfl
theorem oth_ct {M : dsMem} : bCt 158 [uR 10 0] M (fun _ => [uR 0 63]) (fun M' => Dfl M' 63 ∧ Fr (fun a _ => a = 63) M M') := by
  intro Q hQ
  exact r158_0 (hA1 := clear_ct) (k1 := fun M1 r1 => hQ M1 r1)
theorem CI_w {M M' : dsMem} {W : dsW} (h : CI M W) (e : ∀ a j, 0 ≤ a → a ≤ 83 → (a < 62 ∨ 80 < a) → M' a j = M a j) : CI M' W := by
  obtain ⟨a, b, c, d, f, g⟩ := h
  refine ⟨a, C24_e b (fun a j q1 q2 => e a j (by omega) (by omega) (by omega)), Dfl_e c (fun j => e _ _ (by omega) (by omega) (by omega)), ?_, ?_, ?_⟩
  · rw [e 0 10 (by omega) (by omega) (by omega)]
    rcases d with d | d
    · exact Or.inl d
    · exact Or.inr ⟨d.1, FR_e (P0_ok a) d.2 (fun a j q1 q2 => e a j (by omega) (by omega) (by omega))⟩
  · rw [e 0 11 (by omega) (by omega) (by omega)]
    simp only [e 83 _ (by omega) (by omega) (by omega)]; exact f
  · rw [e 81 0 (by omega) (by omega) (by omega), e 81 1 (by omega) (by omega) (by omega), e 81 2 (by omega) (by omega) (by omega)]
    simp only [e 82 _ (by omega) (by omega) (by omega)]; exact g
theorem CN_w {M M' : dsMem} {W : dsW} (h : CN M W) (e : ∀ a j, 0 ≤ a → a ≤ 83 → (a < 62 ∨ 80 < a) → M' a j = M a j) : CN M' W :=
  ⟨CI_w h.1 e, (e 0 10 (by omega) (by omega) (by omega)).trans h.2⟩
/-- what the other flow may change -/
def CQ2 : Int → Int → Prop := fun a _ => 62 ≤ a ∧ a ≤ 80
theorem CQ2_q {M M' : dsMem} (h : Fr CQ2 M M') : Fr CQ M M' := Fr_mono (fun a j q => by unfold CQ2 at q; unfold CQ; omega) h
theorem CI_q {M M' : dsMem} {W : dsW} (h : CI M W) (e : Fr CQ2 M M') : CI M' W := CI_w h (fun a j _ _ q => e a j (by unfold CQ2; omega))
theorem CN_q {M M' : dsMem} {W : dsW} (h : CN M W) (e : Fr CQ2 M M') : CN M' W := CN_w h (fun a j _ _ q => e a j (by unfold CQ2; omega))
theorem cRun {M M1 : dsMem} {P : dsP} (hf : Fr CQ2 M M1) (hP : POK P) (hsv : ∀ y s, pSv P y s = false) (hC : CWp M1 62 P ∧ CE M1 62 P) :
    bCt 7 [uR 5 62, uI 0, uI 0, uX 0, uX 0] M1 (fun M' => [uI (if M' (62 + 7) (pY P) = dsShl 1 (pW P) - 1 then 1 else 0)]) (fun M' => FR M' 62 P ∧ Fr CQ2 M M') := by
  intro Q hQ
  refine run_ct hP (Or.inr rfl) hsv hC.1 hC.2 Q (fun M' r => hQ M' ⟨r.1, Fr_trans hf (Fr_mono ?_ r.2.2)⟩)
  intro a j q; unfold FX at q; unfold CQ2; omega
section
variable {M : dsMem} {P : dsP} {y s w i k : Int}
theorem FQ_y (h : FR M 62 P) (hy : 0 ≤ y ∧ y ≤ pY P) : CK M 62 P y (stP P y) ∧ WS P (stP P y) := by
  have e := h.1 y.toNat (by omega)
  rw [show ((y.toNat : Nat) : Int) = y by omega] at e
  exact e
theorem FQ_H (h : FR M 62 P) (hy : 0 ≤ y ∧ y ≤ pY P) (hs : 0 ≤ s ∧ s < pN P) : M 67 (y * 6 + s) = aH P y s := ((FQ_y h hy).1.1 s hs.1 hs.2).2.1
theorem FQ_U (h : FR M 62 P) (hy : 0 ≤ y ∧ y ≤ pY P) : M 69 y = sU (stP P y) := (FQ_y h hy).1.2.2
theorem q24 (h : FR M 62 P) (e : M 24 5 = pN P) (hy : 0 ≤ y ∧ y ≤ pY P) : v24 M 62 y = wTot P y := by
  unfold v24 wTot
  rw [e]
  refine dsIter_congr _ _ (fun i a i0 i1 => ?_)
  show dsw (a + M 67 (y * 6 + i)) = _
  rw [FQ_H h hy ⟨i0, i1⟩]
theorem RR242 (h : RR M P) (e : M 85 4 = pN P) (hy : 0 ≤ y ∧ y ≤ pY P) : v242 M y = wTot P y := by
  unfold v242 wTot
  rw [e]
  refine dsIter_congr _ _ (fun i a i0 i1 => ?_)
  rw [RR_H h hy ⟨i0, i1⟩]
end
theorem wl_ct {M M1 : dsMem} {W : dsW} {P : dsP} (h : CI M W) (hf : Fr CQ2 M M1) (hP : POK P) (hsv : ∀ y s, pSv P y s = false) (hC : CWp M1 62 P ∧ CE M1 62 P) (hY : pY P = wY W) :
    bCt 159 [uR 10 0] M1 (fun _ => [uI (sU (stP P (wY W)))]) (fun M' => Fr CQ2 M M') := by
  intro Q hQ
  have b := CI_b h
  refine r159_0 (hA1 := cRun hf hP hsv hC) (s1 := fun M2 r => by have b2 := CI_b (CI_q h r.2); omega) (k1 := fun M2 r => q_eq ?_ (hQ M2 r.2))
  rw [cY1 (CI_q h r.2)]
  exact FQ_U r.1 (by omega)
-- the reference's fields of a run
def RSv (M : dsMem) (W : dsW) (l c t a b ss si : Int) (ro be : Int → Int) : Prop :=
  (M 84 17 = l ∧ M 84 18 = c ∧ M 84 19 = t ∧ M 84 20 = a ∧ M 84 21 = b ∧ M 84 22 = ss ∧ M 84 23 = si) ∧
  (∀ s, 0 ≤ s → s < wN W → M 91 s = ro s) ∧ (∀ w, 0 ≤ w → w < wW W → M 92 w = be w)
section
variable {M M' : dsMem} {W : dsW} {l c t a b ss si v : Int} {ro be : Int → Int}
theorem RSt_v (h : RSt M W) : RSv M W (wLw W) 255 63 (dsShl 1 (wN W) - 1) 0 0 (-1) (wRo W) (wBe W) := h
theorem RSv_e (h : RSv M W l c t a b ss si ro be) (e : ∀ a j, (a = 84 ∧ 17 ≤ j ∧ j ≤ 23) ∨ a = 91 ∨ a = 92 → M' a j = M a j) : RSv M' W l c t a b ss si ro be := by
  unfold RSv at h ⊢
  have e91 : ∀ j, M' 91 j = M 91 j := fun j => e 91 j (by omega)
  have e92 : ∀ j, M' 92 j = M 92 j := fun j => e 92 j (by omega)
  simp only [e 84 17 (by omega), e 84 18 (by omega), e 84 19 (by omega), e 84 20 (by omega), e 84 21 (by omega), e 84 22 (by omega), e 84 23 (by omega), e91, e92]
  exact h
theorem RSv_17 (h : RSv M W l c t a b ss si ro be) : RSv (dsSet M 84 17 v) W v c t a b ss si ro be := by
  obtain ⟨⟨h1, h2, h3, h4, h5, h6, h7⟩, h8, h9⟩ := h
  refine ⟨⟨by rw [ds_ge (by omega)], (ds_gn (by omega)).trans h2, (ds_gn (by omega)).trans h3, (ds_gn (by omega)).trans h4, (ds_gn (by omega)).trans h5, (ds_gn (by omega)).trans h6, (ds_gn (by omega)).trans h7⟩, fun s s0 s1 => ?_, fun w w0 w1 => ?_⟩
  · rw [ds_gn (by omega)]; exact h8 s s0 s1
  · rw [ds_gn (by omega)]; exact h9 w w0 w1
theorem RSv_18 (h : RSv M W l c t a b ss si ro be) : RSv (dsSet M 84 18 v) W l v t a b ss si ro be := by
  obtain ⟨⟨h1, h2, h3, h4, h5, h6, h7⟩, h8, h9⟩ := h
  refine ⟨⟨(ds_gn (by omega)).trans h1, by rw [ds_ge (by omega)], (ds_gn (by omega)).trans h3, (ds_gn (by omega)).trans h4, (ds_gn (by omega)).trans h5, (ds_gn (by omega)).trans h6, (ds_gn (by omega)).trans h7⟩, fun s s0 s1 => ?_, fun w w0 w1 => ?_⟩
  · rw [ds_gn (by omega)]; exact h8 s s0 s1
  · rw [ds_gn (by omega)]; exact h9 w w0 w1
theorem RSv_19 (h : RSv M W l c t a b ss si ro be) : RSv (dsSet M 84 19 v) W l c v a b ss si ro be := by
  obtain ⟨⟨h1, h2, h3, h4, h5, h6, h7⟩, h8, h9⟩ := h
  refine ⟨⟨(ds_gn (by omega)).trans h1, (ds_gn (by omega)).trans h2, by rw [ds_ge (by omega)], (ds_gn (by omega)).trans h4, (ds_gn (by omega)).trans h5, (ds_gn (by omega)).trans h6, (ds_gn (by omega)).trans h7⟩, fun s s0 s1 => ?_, fun w w0 w1 => ?_⟩
  · rw [ds_gn (by omega)]; exact h8 s s0 s1
  · rw [ds_gn (by omega)]; exact h9 w w0 w1
theorem RSv_20 (h : RSv M W l c t a b ss si ro be) : RSv (dsSet M 84 20 v) W l c t v b ss si ro be := by
  obtain ⟨⟨h1, h2, h3, h4, h5, h6, h7⟩, h8, h9⟩ := h
  refine ⟨⟨(ds_gn (by omega)).trans h1, (ds_gn (by omega)).trans h2, (ds_gn (by omega)).trans h3, by rw [ds_ge (by omega)], (ds_gn (by omega)).trans h5, (ds_gn (by omega)).trans h6, (ds_gn (by omega)).trans h7⟩, fun s s0 s1 => ?_, fun w w0 w1 => ?_⟩
  · rw [ds_gn (by omega)]; exact h8 s s0 s1
  · rw [ds_gn (by omega)]; exact h9 w w0 w1
theorem RSv_21 (h : RSv M W l c t a b ss si ro be) : RSv (dsSet M 84 21 v) W l c t a v ss si ro be := by
  obtain ⟨⟨h1, h2, h3, h4, h5, h6, h7⟩, h8, h9⟩ := h
  refine ⟨⟨(ds_gn (by omega)).trans h1, (ds_gn (by omega)).trans h2, (ds_gn (by omega)).trans h3, (ds_gn (by omega)).trans h4, by rw [ds_ge (by omega)], (ds_gn (by omega)).trans h6, (ds_gn (by omega)).trans h7⟩, fun s s0 s1 => ?_, fun w w0 w1 => ?_⟩
  · rw [ds_gn (by omega)]; exact h8 s s0 s1
  · rw [ds_gn (by omega)]; exact h9 w w0 w1
theorem RSv_22 (h : RSv M W l c t a b ss si ro be) : RSv (dsSet M 84 22 v) W l c t a b v si ro be := by
  obtain ⟨⟨h1, h2, h3, h4, h5, h6, h7⟩, h8, h9⟩ := h
  refine ⟨⟨(ds_gn (by omega)).trans h1, (ds_gn (by omega)).trans h2, (ds_gn (by omega)).trans h3, (ds_gn (by omega)).trans h4, (ds_gn (by omega)).trans h5, by rw [ds_ge (by omega)], (ds_gn (by omega)).trans h7⟩, fun s s0 s1 => ?_, fun w w0 w1 => ?_⟩
  · rw [ds_gn (by omega)]; exact h8 s s0 s1
  · rw [ds_gn (by omega)]; exact h9 w w0 w1
theorem RSv_23 (h : RSv M W l c t a b ss si ro be) : RSv (dsSet M 84 23 v) W l c t a b ss v ro be := by
  obtain ⟨⟨h1, h2, h3, h4, h5, h6, h7⟩, h8, h9⟩ := h
  refine ⟨⟨(ds_gn (by omega)).trans h1, (ds_gn (by omega)).trans h2, (ds_gn (by omega)).trans h3, (ds_gn (by omega)).trans h4, (ds_gn (by omega)).trans h5, (ds_gn (by omega)).trans h6, by rw [ds_ge (by omega)]⟩, fun s s0 s1 => ?_, fun w w0 w1 => ?_⟩
  · rw [ds_gn (by omega)]; exact h8 s s0 s1
  · rw [ds_gn (by omega)]; exact h9 w w0 w1
theorem RSv_ro {s : Int} (h : RSv M W l c t a b ss si ro be) : RSv (dsSet M 91 s v) W l c t a b ss si (fun x => if x = s then v else ro x) be := by
  obtain ⟨⟨h1, h2, h3, h4, h5, h6, h7⟩, h8, h9⟩ := h
  refine ⟨⟨(ds_gn (by omega)).trans h1, (ds_gn (by omega)).trans h2, (ds_gn (by omega)).trans h3, (ds_gn (by omega)).trans h4, (ds_gn (by omega)).trans h5, (ds_gn (by omega)).trans h6, (ds_gn (by omega)).trans h7⟩, fun x s0 s1 => ?_, fun w w0 w1 => ?_⟩
  · rw [dsSet_get, h8 x s0 s1]; exact if_iff ⟨fun q => q.2, fun q => ⟨rfl, q⟩⟩
  · rw [ds_gn (by omega)]; exact h9 w w0 w1
theorem RSv_be {w : Int} (h : RSv M W l c t a b ss si ro be) : RSv (dsSet M 92 w v) W l c t a b ss si ro (fun x => if x = w then v else be x) := by
  obtain ⟨⟨h1, h2, h3, h4, h5, h6, h7⟩, h8, h9⟩ := h
  refine ⟨⟨(ds_gn (by omega)).trans h1, (ds_gn (by omega)).trans h2, (ds_gn (by omega)).trans h3, (ds_gn (by omega)).trans h4, (ds_gn (by omega)).trans h5, (ds_gn (by omega)).trans h6, (ds_gn (by omega)).trans h7⟩, fun x s0 s1 => ?_, fun x w0 w1 => ?_⟩
  · rw [ds_gn (by omega)]; exact h8 x s0 s1
  · rw [dsSet_get, h9 x w0 w1]; exact if_iff ⟨fun q => q.2, fun q => ⟨rfl, q⟩⟩
theorem RPv (h : RI0 M W) (hs : RSv M W l c t a b ss si ro be) {room bears : Int → Int} {al rs ts : Int → Bool} {sv : Int → Int → Bool}
    (hr : ∀ s, 0 ≤ s → s < wN W → (if dsBit b s then 0 else ro s) = room s ∧ 0 ≤ ro s ∧ ro s ≤ 60)
    (ha : ∀ s, 0 ≤ s → s < wN W → (¬ dsAnd (dsShr a s) 1 = 0 ↔ al s = true))
    (hb : ∀ w, 0 ≤ w → w < wW W → be w = bears w)
    (hrs : ∀ i, 0 ≤ i → i < evN (wR W) → (dsBit c i ↔ rs i = true)) (hts : ∀ i, 0 ≤ i → i < evN (wT W) → (dsBit t i ↔ ts i = true))
    (hsv : ∀ y s, 0 ≤ y → 0 ≤ s → s < wN W → (sv y s = true ↔ y = si ∧ dsBit ss s)) :
    RW M (mkP W l room bears al rs ts sv) ∧ REv M (mkP W l room bears al rs ts sv) := by
  obtain ⟨⟨h1, h2, h3, h4, h5, h6, h7⟩, h8, h9⟩ := hs
  refine RP_mk h.1 h.2 h1 ?_ ?_ ?_ ?_ ?_ ?_
  · intro s s0 s1
    rw [h5, h8 s s0 s1]; exact hr s s0 s1
  · intro s s0 s1
    rw [h4]; exact ha s s0 s1
  · intro w w0 w1
    rw [h9 w w0 w1]; exact hb w w0 w1
  · intro i i0 i1
    rw [h2]; exact hrs i i0 i1
  · intro i i0 i1
    rw [h3]; exact hts i i0 i1
  · intro y s y0 s0 s1
    rw [h6, h7]; exact hsv y s y0 s0 s1
theorem rgo {P : dsP} (h : RI0 M W) (hs : RSv M W l c t a b ss si ro be) (hP : POK P) (hPP : RW M P ∧ REv M P) :
    bCt 234 [uR 11 84, uX 0] M (fun _ => []) (fun M' => RR M' P ∧ RI0 M' W ∧ RSv M' W l c t a b ss si ro be ∧ Fr RQ M M') := by
  intro Q hQ
  refine goAll_ct hP hPP.1 hPP.2 Q (fun M' r => hQ M' ⟨r.1, RI0_e h (fun j => r.2.2.2 _ _ (by unfold GF; omega)), RSv_e hs (fun a j q => r.2.2.2 a j (by unfold GF; omega)), Fr_mono ?_ r.2.2.2⟩)
  intro a j q; unfold GF at q; unfold RQ; omega
end
theorem Fr_rq {M M1 M2 : dsMem} {i v : Int} (h : Fr RQ (dsSet M1 84 i v) M2) (hi : 17 ≤ i ∧ i ≤ 48) (h0 : Fr RQ M M1) : Fr RQ M M2 := Fr_trans h0 (Fr_trans (Fr_set Fr_refl (by unfold RQ; omega)) h)
theorem bit_x0 : ∀ r i : Fin 8, (dsBit (dsXor (dsShl 1 ((r.val : Nat) : Int)) (-1)) ((i.val : Nat) : Int) ↔ i.val ≠ r.val) ∧ (dsBit (dsAnd 255 (dsXor (dsShl 1 ((r.val : Nat) : Int)) (-1))) ((i.val : Nat) : Int) ↔ i.val ≠ r.val) := by decide +kernel
theorem bit_x1 : ∀ r i : Fin 6, (dsBit (dsAnd 63 (dsXor (dsShl 1 ((r.val : Nat) : Int)) (-1))) ((i.val : Nat) : Int) ↔ i.val ≠ r.val) := by decide +kernel
theorem bit_x {r i : Int} (hr : 0 ≤ r ∧ r < 8) (hi : 0 ≤ i ∧ i < 8) : (dsBit (dsXor (dsShl 1 r) (-1)) i ↔ ¬ i = r) ∧ (dsBit (dsAnd 255 (dsXor (dsShl 1 r) (-1))) i ↔ ¬ i = r) := by
  obtain ⟨m, rfl⟩ : ∃ m : Nat, r = m := ⟨r.toNat, by omega⟩
  obtain ⟨n, rfl⟩ : ∃ n : Nat, i = n := ⟨i.toNat, by omega⟩
  have h := bit_x0 ⟨m, by omega⟩ ⟨n, by omega⟩
  exact ⟨h.1.trans ⟨fun q e => q (Int.ofNat.inj e), fun q e => q (congrArg Int.ofNat e)⟩, h.2.trans ⟨fun q e => q (Int.ofNat.inj e), fun q e => q (congrArg Int.ofNat e)⟩⟩
theorem bit_y {r i : Int} (hr : 0 ≤ r ∧ r < 6) (hi : 0 ≤ i ∧ i < 6) : (dsBit (dsAnd 63 (dsXor (dsShl 1 r) (-1))) i ↔ ¬ i = r) := by
  obtain ⟨m, rfl⟩ : ∃ m : Nat, r = m := ⟨r.toNat, by omega⟩
  obtain ⟨n, rfl⟩ : ∃ n : Nat, i = n := ⟨i.toNat, by omega⟩
  have h := bit_x1 ⟨m, by omega⟩ ⟨n, by omega⟩
  exact h.trans ⟨fun q e => q (Int.ofNat.inj e), fun q e => q (congrArg Int.ofNat e)⟩
theorem dec_iff {p : Prop} [Decidable p] : p ↔ decide p = true := ⟨fun q => decide_eq_true q, fun q => of_decide_eq_true q⟩
theorem bit_ne {x s : Int} : ¬ dsAnd (dsShr x s) 1 = 0 ↔ decide (dsBit x s) = true := by
  have := ds_b01 (dsShr x s)
  refine Iff.trans ?_ dec_iff
  unfold dsBit
  omega
def PBl (W : dsW) (r : Int) : dsP := mkP W (wLw W) (wRo W) (wBe W) (fun _ => true) (fun i => decide (¬ i = r)) (fun _ => true) (fun _ _ => false)
theorem PBl_ok {W : dsW} {r : Int} (h : WOK W) (hr : 0 ≤ r ∧ r < 8) : POK (PBl W r) := by
  refine POK_mk h (fun s s0 s1 => ?_) (fun w w0 w1 => ?_)
  · have := h.2.2.1 s s0 s1
    omega
  · have := h.2.1 w w0 w1
    omega
theorem PBl_T {W : dsW} {r : Int} (h : WOK W) : 0 ≤ pTn (PBl W r) ∧ pTn (PBl W r) ≤ 36 := by
  have := h.1
  show 0 ≤ evN (wT W) + evN (wA W) ∧ evN (wT W) + evN (wA W) ≤ 36
  omega
theorem cpPBl {M M1 : dsMem} {W : dsW} {r : Int} (hK : WOK W) (h : C24 M W) (hd : Dfl M1 63 ∧ Fr (fun a _ => a = 63) M M1) (hr : 0 ≤ r ∧ r < 8) : (CWp (dsSet M1 63 1 (dsXor (dsShl 1 r) (-1))) 62 (PBl W r) ∧ CE (dsSet M1 63 1 (dsXor (dsShl 1 r) (-1))) 62 (PBl W r)) ∧ Fr CQ2 M (dsSet M1 63 1 (dsXor (dsShl 1 r) (-1))) := by
  obtain ⟨⟨d0, d1, d2, d3, d4, d5, d6, d7, d8⟩, hf⟩ := hd
  have k := hK.1
  have h' : C24 (dsSet M1 63 1 (dsXor (dsShl 1 r) (-1))) W := C24_e h (fun a j q1 q2 => by rw [ds_gn (by omega)]; exact hf a j (by omega))
  have c0 : (dsSet M1 63 1 (dsXor (dsShl 1 r) (-1))) (62 + 1) 0 = (-1) := by
    simp (disch := omega) only [ds_gn, ds_ge]
    exact d0
  have c1 : (dsSet M1 63 1 (dsXor (dsShl 1 r) (-1))) (62 + 1) 1 = (dsXor (dsShl 1 r) (-1)) := by simp (disch := omega) only [ds_gn, ds_ge]
  have c2 : (dsSet M1 63 1 (dsXor (dsShl 1 r) (-1))) (62 + 1) 2 = (-1) := by
    simp (disch := omega) only [ds_gn, ds_ge]
    exact d2
  have c3 : (dsSet M1 63 1 (dsXor (dsShl 1 r) (-1))) (62 + 1) 3 = 0 := by
    simp (disch := omega) only [ds_gn, ds_ge]
    exact d3
  have c4 : (dsSet M1 63 1 (dsXor (dsShl 1 r) (-1))) (62 + 1) 4 = (-1) := by
    simp (disch := omega) only [ds_gn, ds_ge]
    exact d4
  have c5 : (dsSet M1 63 1 (dsXor (dsShl 1 r) (-1))) (62 + 1) 5 = (-1) := by
    simp (disch := omega) only [ds_gn, ds_ge]
    exact d5
  have c6 : (dsSet M1 63 1 (dsXor (dsShl 1 r) (-1))) (62 + 1) 6 = 0 := by
    simp (disch := omega) only [ds_gn, ds_ge]
    exact d6
  have c7 : (dsSet M1 63 1 (dsXor (dsShl 1 r) (-1))) (62 + 1) 7 = (-1) := by
    simp (disch := omega) only [ds_gn, ds_ge]
    exact d7
  have c8 : (dsSet M1 63 1 (dsXor (dsShl 1 r) (-1))) (62 + 1) 8 = 0 := by
    simp (disch := omega) only [ds_gn, ds_ge]
    exact d8
  refine ⟨CP_mk hK h' ?_ ?_ ?_ ?_ ?_ ?_, ?_⟩
  · rw [if_pos c0]
  · intro s s0 s1
    rw [c3]
    rw [if_neg (bit_0 (by omega)), if_neg (by omega)]
  · intro s s0 s1
    rw [c4]
    exact ⟨fun _ => rfl, fun _ => bit_m1 (by omega)⟩
  · intro w w0 w1
    rw [if_neg (by omega)]
  · intro i i0 i1
    rw [c1]
    exact (bit_x hr (by omega)).1.trans dec_iff
  · intro i i0 i1
    rw [c2]
    exact ⟨fun _ => rfl, fun _ => bit_m1 (by omega)⟩
  · exact Fr_set (Fr_mono (fun a j q => by unfold CQ2; omega) hf) (by unfold CQ2; omega)
abbrev RVPBl (M : dsMem) (W : dsW) (r : Int) : Prop := RSv M W (wLw W) (dsAnd 255 (dsXor (dsShl 1 r) (-1))) 63 (dsShl 1 (wN W) - 1) 0 0 (-1) (wRo W) (wBe W)
theorem rpPBl {M : dsMem} {W : dsW} {r : Int} (h : RI0 M W) (hs : RVPBl M W r) (hr : 0 ≤ r ∧ r < 8) : RW M (PBl W r) ∧ REv M (PBl W r) := by
  have k := h.1.1
  refine RPv h hs ?_ ?_ ?_ ?_ ?_ ?_
  · intro s s0 s1
    have := h.1.2.2.1 s s0 s1
    rw [if_neg (bit_0 (by omega))]
    exact ⟨rfl, by omega, by omega⟩
  · intro s s0 s1
    rw [bit_all (by omega) (by omega), if_pos s1]
    exact ⟨fun _ => rfl, fun _ => by omega⟩
  · intro w w0 w1
    rfl
  · intro i i0 i1
    exact (bit_x hr (by omega)).2.trans dec_iff
  · intro i i0 i1
    exact ⟨fun _ => rfl, fun _ => bit_63 (by omega)⟩
  · intro y s y0 s0 s1
    exact ⟨fun q => (by cases q), fun q => by omega⟩
def PTl (W : dsW) (r : Int) : dsP := mkP W (wLw W) (wRo W) (wBe W) (fun _ => true) (fun _ => true) (fun i => decide (¬ i = r)) (fun _ _ => false)
theorem PTl_ok {W : dsW} {r : Int} (h : WOK W) (hr : 0 ≤ r ∧ r < 6) : POK (PTl W r) := by
  refine POK_mk h (fun s s0 s1 => ?_) (fun w w0 w1 => ?_)
  · have := h.2.2.1 s s0 s1
    omega
  · have := h.2.1 w w0 w1
    omega
theorem PTl_T {W : dsW} {r : Int} (h : WOK W) : 0 ≤ pTn (PTl W r) ∧ pTn (PTl W r) ≤ 36 := by
  have := h.1
  show 0 ≤ evN (wT W) + evN (wA W) ∧ evN (wT W) + evN (wA W) ≤ 36
  omega
theorem cpPTl {M M1 : dsMem} {W : dsW} {r : Int} (hK : WOK W) (h : C24 M W) (hd : Dfl M1 63 ∧ Fr (fun a _ => a = 63) M M1) (hr : 0 ≤ r ∧ r < 6) : (CWp (dsSet M1 63 2 (dsXor (dsShl 1 r) (-1))) 62 (PTl W r) ∧ CE (dsSet M1 63 2 (dsXor (dsShl 1 r) (-1))) 62 (PTl W r)) ∧ Fr CQ2 M (dsSet M1 63 2 (dsXor (dsShl 1 r) (-1))) := by
  obtain ⟨⟨d0, d1, d2, d3, d4, d5, d6, d7, d8⟩, hf⟩ := hd
  have k := hK.1
  have h' : C24 (dsSet M1 63 2 (dsXor (dsShl 1 r) (-1))) W := C24_e h (fun a j q1 q2 => by rw [ds_gn (by omega)]; exact hf a j (by omega))
  have c0 : (dsSet M1 63 2 (dsXor (dsShl 1 r) (-1))) (62 + 1) 0 = (-1) := by
    simp (disch := omega) only [ds_gn, ds_ge]
    exact d0
  have c1 : (dsSet M1 63 2 (dsXor (dsShl 1 r) (-1))) (62 + 1) 1 = (-1) := by
    simp (disch := omega) only [ds_gn, ds_ge]
    exact d1
  have c2 : (dsSet M1 63 2 (dsXor (dsShl 1 r) (-1))) (62 + 1) 2 = (dsXor (dsShl 1 r) (-1)) := by simp (disch := omega) only [ds_gn, ds_ge]
  have c3 : (dsSet M1 63 2 (dsXor (dsShl 1 r) (-1))) (62 + 1) 3 = 0 := by
    simp (disch := omega) only [ds_gn, ds_ge]
    exact d3
  have c4 : (dsSet M1 63 2 (dsXor (dsShl 1 r) (-1))) (62 + 1) 4 = (-1) := by
    simp (disch := omega) only [ds_gn, ds_ge]
    exact d4
  have c5 : (dsSet M1 63 2 (dsXor (dsShl 1 r) (-1))) (62 + 1) 5 = (-1) := by
    simp (disch := omega) only [ds_gn, ds_ge]
    exact d5
  have c6 : (dsSet M1 63 2 (dsXor (dsShl 1 r) (-1))) (62 + 1) 6 = 0 := by
    simp (disch := omega) only [ds_gn, ds_ge]
    exact d6
  have c7 : (dsSet M1 63 2 (dsXor (dsShl 1 r) (-1))) (62 + 1) 7 = (-1) := by
    simp (disch := omega) only [ds_gn, ds_ge]
    exact d7
  have c8 : (dsSet M1 63 2 (dsXor (dsShl 1 r) (-1))) (62 + 1) 8 = 0 := by
    simp (disch := omega) only [ds_gn, ds_ge]
    exact d8
  refine ⟨CP_mk hK h' ?_ ?_ ?_ ?_ ?_ ?_, ?_⟩
  · rw [if_pos c0]
  · intro s s0 s1
    rw [c3]
    rw [if_neg (bit_0 (by omega)), if_neg (by omega)]
  · intro s s0 s1
    rw [c4]
    exact ⟨fun _ => rfl, fun _ => bit_m1 (by omega)⟩
  · intro w w0 w1
    rw [if_neg (by omega)]
  · intro i i0 i1
    rw [c1]
    exact ⟨fun _ => rfl, fun _ => bit_m1 (by omega)⟩
  · intro i i0 i1
    rw [c2]
    exact (bit_x (by omega) (by omega)).1.trans dec_iff
  · exact Fr_set (Fr_mono (fun a j q => by unfold CQ2; omega) hf) (by unfold CQ2; omega)
abbrev RVPTl (M : dsMem) (W : dsW) (r : Int) : Prop := RSv M W (wLw W) 255 (dsAnd 63 (dsXor (dsShl 1 r) (-1))) (dsShl 1 (wN W) - 1) 0 0 (-1) (wRo W) (wBe W)
theorem rpPTl {M : dsMem} {W : dsW} {r : Int} (h : RI0 M W) (hs : RVPTl M W r) (hr : 0 ≤ r ∧ r < 6) : RW M (PTl W r) ∧ REv M (PTl W r) := by
  have k := h.1.1
  refine RPv h hs ?_ ?_ ?_ ?_ ?_ ?_
  · intro s s0 s1
    have := h.1.2.2.1 s s0 s1
    rw [if_neg (bit_0 (by omega))]
    exact ⟨rfl, by omega, by omega⟩
  · intro s s0 s1
    rw [bit_all (by omega) (by omega), if_pos s1]
    exact ⟨fun _ => rfl, fun _ => by omega⟩
  · intro w w0 w1
    rfl
  · intro i i0 i1
    exact ⟨fun _ => rfl, fun _ => bit_255 (by omega)⟩
  · intro i i0 i1
    exact (bit_y hr (by omega)).trans dec_iff
  · intro y s y0 s0 s1
    exact ⟨fun q => (by cases q), fun q => by omega⟩
def PNd (W : dsW) (w n : Int) : dsP := mkP W (wLw W) (wRo W) (fun v => if v = w then n else wBe W v) (fun _ => true) (fun _ => true) (fun _ => true) (fun _ _ => false)
theorem PNd_ok {W : dsW} {w n : Int} (h : WOK W) (hr : 0 ≤ n ∧ n ≤ 300) : POK (PNd W w n) := by
  refine POK_mk h (fun s s0 s1 => ?_) (fun v w0 w1 => ?_)
  · have := h.2.2.1 s s0 s1
    omega
  · have := h.2.1 v w0 w1
    show 0 ≤ (if v = w then n else wBe W v) ∧ (if v = w then n else wBe W v) ≤ 300
    split <;> omega
theorem PNd_T {W : dsW} {w n : Int} (h : WOK W) : 0 ≤ pTn (PNd W w n) ∧ pTn (PNd W w n) ≤ 36 := by
  have := h.1
  show 0 ≤ evN (wT W) + evN (wA W) ∧ evN (wT W) + evN (wA W) ≤ 36
  omega
theorem cpPNd {M M1 : dsMem} {W : dsW} {w n : Int} (hK : WOK W) (h : C24 M W) (hd : Dfl M1 63 ∧ Fr (fun a _ => a = 63) M M1) (hr : 0 ≤ n ∧ n ≤ 300) : (CWp (dsSet (dsSet M1 63 7 w) 63 8 n) 62 (PNd W w n) ∧ CE (dsSet (dsSet M1 63 7 w) 63 8 n) 62 (PNd W w n)) ∧ Fr CQ2 M (dsSet (dsSet M1 63 7 w) 63 8 n) := by
  obtain ⟨⟨d0, d1, d2, d3, d4, d5, d6, d7, d8⟩, hf⟩ := hd
  have k := hK.1
  have h' : C24 (dsSet (dsSet M1 63 7 w) 63 8 n) W := C24_e h (fun a j q1 q2 => by rw [ds_gn (by omega), ds_gn (by omega)]; exact hf a j (by omega))
  have c0 : (dsSet (dsSet M1 63 7 w) 63 8 n) (62 + 1) 0 = (-1) := by
    simp (disch := omega) only [ds_gn, ds_ge]
    exact d0
  have c1 : (dsSet (dsSet M1 63 7 w) 63 8 n) (62 + 1) 1 = (-1) := by
    simp (disch := omega) only [ds_gn, ds_ge]
    exact d1
  have c2 : (dsSet (dsSet M1 63 7 w) 63 8 n) (62 + 1) 2 = (-1) := by
    simp (disch := omega) only [ds_gn, ds_ge]
    exact d2
  have c3 : (dsSet (dsSet M1 63 7 w) 63 8 n) (62 + 1) 3 = 0 := by
    simp (disch := omega) only [ds_gn, ds_ge]
    exact d3
  have c4 : (dsSet (dsSet M1 63 7 w) 63 8 n) (62 + 1) 4 = (-1) := by
    simp (disch := omega) only [ds_gn, ds_ge]
    exact d4
  have c5 : (dsSet (dsSet M1 63 7 w) 63 8 n) (62 + 1) 5 = (-1) := by
    simp (disch := omega) only [ds_gn, ds_ge]
    exact d5
  have c6 : (dsSet (dsSet M1 63 7 w) 63 8 n) (62 + 1) 6 = 0 := by
    simp (disch := omega) only [ds_gn, ds_ge]
    exact d6
  have c7 : (dsSet (dsSet M1 63 7 w) 63 8 n) (62 + 1) 7 = w := by simp (disch := omega) only [ds_gn, ds_ge]
  have c8 : (dsSet (dsSet M1 63 7 w) 63 8 n) (62 + 1) 8 = n := by simp (disch := omega) only [ds_gn, ds_ge]
  refine ⟨CP_mk hK h' ?_ ?_ ?_ ?_ ?_ ?_, ?_⟩
  · rw [if_pos c0]
  · intro s s0 s1
    rw [c3]
    rw [if_neg (bit_0 (by omega)), if_neg (by omega)]
  · intro s s0 s1
    rw [c4]
    exact ⟨fun _ => rfl, fun _ => bit_m1 (by omega)⟩
  · intro w' w0 w1
    rw [c7, c8]
  · intro i i0 i1
    rw [c1]
    exact ⟨fun _ => rfl, fun _ => bit_m1 (by omega)⟩
  · intro i i0 i1
    rw [c2]
    exact ⟨fun _ => rfl, fun _ => bit_m1 (by omega)⟩
  · exact Fr_set (Fr_set (Fr_mono (fun a j q => by unfold CQ2; omega) hf) (by unfold CQ2; omega)) (by unfold CQ2; omega)
abbrev RVPNd (M : dsMem) (W : dsW) (w n : Int) : Prop := RSv M W (wLw W) 255 63 (dsShl 1 (wN W) - 1) 0 0 (-1) (wRo W) (fun x => if x = w then n else wBe W x)
theorem rpPNd {M : dsMem} {W : dsW} {w n : Int} (h : RI0 M W) (hs : RVPNd M W w n) (hr : 0 ≤ n ∧ n ≤ 300) : RW M (PNd W w n) ∧ REv M (PNd W w n) := by
  have k := h.1.1
  refine RPv h hs ?_ ?_ ?_ ?_ ?_ ?_
  · intro s s0 s1
    have := h.1.2.2.1 s s0 s1
    rw [if_neg (bit_0 (by omega))]
    exact ⟨rfl, by omega, by omega⟩
  · intro s s0 s1
    rw [bit_all (by omega) (by omega), if_pos s1]
    exact ⟨fun _ => rfl, fun _ => by omega⟩
  · intro w' w0 w1
    rfl
  · intro i i0 i1
    exact ⟨fun _ => rfl, fun _ => bit_255 (by omega)⟩
  · intro i i0 i1
    exact ⟨fun _ => rfl, fun _ => bit_63 (by omega)⟩
  · intro y s y0 s0 s1
    exact ⟨fun q => (by cases q), fun q => by omega⟩
def PBu (W : dsW) (set : Int) : dsP := mkP W (wLw W) (fun s => if dsBit set s then 0 else wRo W s) (wBe W) (fun _ => true) (fun _ => true) (fun _ => true) (fun _ _ => false)
theorem PBu_ok {W : dsW} {set : Int} (h : WOK W) (hr : True) : POK (PBu W set) := by
  refine POK_mk h (fun s s0 s1 => ?_) (fun w w0 w1 => ?_)
  · have := h.2.2.1 s s0 s1
    show 0 ≤ (if dsBit set s then 0 else wRo W s) ∧ (if dsBit set s then 0 else wRo W s) ≤ 60
    split <;> omega
  · have := h.2.1 w w0 w1
    omega
theorem PBu_T {W : dsW} {set : Int} (h : WOK W) : 0 ≤ pTn (PBu W set) ∧ pTn (PBu W set) ≤ 36 := by
  have := h.1
  show 0 ≤ evN (wT W) + evN (wA W) ∧ evN (wT W) + evN (wA W) ≤ 36
  omega
theorem cpPBu {M M1 : dsMem} {W : dsW} {set : Int} (hK : WOK W) (h : C24 M W) (hd : Dfl M1 63 ∧ Fr (fun a _ => a = 63) M M1) (hr : True) : (CWp (dsSet M1 63 3 set) 62 (PBu W set) ∧ CE (dsSet M1 63 3 set) 62 (PBu W set)) ∧ Fr CQ2 M (dsSet M1 63 3 set) := by
  obtain ⟨⟨d0, d1, d2, d3, d4, d5, d6, d7, d8⟩, hf⟩ := hd
  have k := hK.1
  have h' : C24 (dsSet M1 63 3 set) W := C24_e h (fun a j q1 q2 => by rw [ds_gn (by omega)]; exact hf a j (by omega))
  have c0 : (dsSet M1 63 3 set) (62 + 1) 0 = (-1) := by
    simp (disch := omega) only [ds_gn, ds_ge]
    exact d0
  have c1 : (dsSet M1 63 3 set) (62 + 1) 1 = (-1) := by
    simp (disch := omega) only [ds_gn, ds_ge]
    exact d1
  have c2 : (dsSet M1 63 3 set) (62 + 1) 2 = (-1) := by
    simp (disch := omega) only [ds_gn, ds_ge]
    exact d2
  have c3 : (dsSet M1 63 3 set) (62 + 1) 3 = set := by simp (disch := omega) only [ds_gn, ds_ge]
  have c4 : (dsSet M1 63 3 set) (62 + 1) 4 = (-1) := by
    simp (disch := omega) only [ds_gn, ds_ge]
    exact d4
  have c5 : (dsSet M1 63 3 set) (62 + 1) 5 = (-1) := by
    simp (disch := omega) only [ds_gn, ds_ge]
    exact d5
  have c6 : (dsSet M1 63 3 set) (62 + 1) 6 = 0 := by
    simp (disch := omega) only [ds_gn, ds_ge]
    exact d6
  have c7 : (dsSet M1 63 3 set) (62 + 1) 7 = (-1) := by
    simp (disch := omega) only [ds_gn, ds_ge]
    exact d7
  have c8 : (dsSet M1 63 3 set) (62 + 1) 8 = 0 := by
    simp (disch := omega) only [ds_gn, ds_ge]
    exact d8
  refine ⟨CP_mk hK h' ?_ ?_ ?_ ?_ ?_ ?_, ?_⟩
  · rw [if_pos c0]
  · intro s s0 s1
    rw [c3]
    rw [c5, if_neg (show ¬ s = -1 by omega)]
  · intro s s0 s1
    rw [c4]
    exact ⟨fun _ => rfl, fun _ => bit_m1 (by omega)⟩
  · intro w w0 w1
    rw [if_neg (by omega)]
  · intro i i0 i1
    rw [c1]
    exact ⟨fun _ => rfl, fun _ => bit_m1 (by omega)⟩
  · intro i i0 i1
    rw [c2]
    exact ⟨fun _ => rfl, fun _ => bit_m1 (by omega)⟩
  · exact Fr_set (Fr_mono (fun a j q => by unfold CQ2; omega) hf) (by unfold CQ2; omega)
abbrev RVPBu (M : dsMem) (W : dsW) (set : Int) : Prop := RSv M W (wLw W) 255 63 (dsShl 1 (wN W) - 1) set 0 (-1) (wRo W) (wBe W)
theorem rpPBu {M : dsMem} {W : dsW} {set : Int} (h : RI0 M W) (hs : RVPBu M W set) (hr : True) : RW M (PBu W set) ∧ REv M (PBu W set) := by
  have k := h.1.1
  refine RPv h hs ?_ ?_ ?_ ?_ ?_ ?_
  · intro s s0 s1
    have := h.1.2.2.1 s s0 s1
    exact ⟨rfl, by omega, by omega⟩
  · intro s s0 s1
    rw [bit_all (by omega) (by omega), if_pos s1]
    exact ⟨fun _ => rfl, fun _ => by omega⟩
  · intro w w0 w1
    rfl
  · intro i i0 i1
    exact ⟨fun _ => rfl, fun _ => bit_255 (by omega)⟩
  · intro i i0 i1
    exact ⟨fun _ => rfl, fun _ => bit_63 (by omega)⟩
  · intro y s y0 s0 s1
    exact ⟨fun q => (by cases q), fun q => by omega⟩
def PRm (W : dsW) (st n : Int) : dsP := mkP W (wLw W) (fun s => if s = st then n else wRo W s) (wBe W) (fun _ => true) (fun _ => true) (fun _ => true) (fun _ _ => false)
theorem PRm_ok {W : dsW} {st n : Int} (h : WOK W) (hr : 0 ≤ n ∧ n ≤ 60) : POK (PRm W st n) := by
  refine POK_mk h (fun s s0 s1 => ?_) (fun w w0 w1 => ?_)
  · have := h.2.2.1 s s0 s1
    show 0 ≤ (if s = st then n else wRo W s) ∧ (if s = st then n else wRo W s) ≤ 60
    split <;> omega
  · have := h.2.1 w w0 w1
    omega
theorem PRm_T {W : dsW} {st n : Int} (h : WOK W) : 0 ≤ pTn (PRm W st n) ∧ pTn (PRm W st n) ≤ 36 := by
  have := h.1
  show 0 ≤ evN (wT W) + evN (wA W) ∧ evN (wT W) + evN (wA W) ≤ 36
  omega
theorem cpPRm {M M1 : dsMem} {W : dsW} {st n : Int} (hK : WOK W) (h : C24 M W) (hd : Dfl M1 63 ∧ Fr (fun a _ => a = 63) M M1) (hr : 0 ≤ n ∧ n ≤ 60) : (CWp (dsSet (dsSet M1 63 5 st) 63 6 n) 62 (PRm W st n) ∧ CE (dsSet (dsSet M1 63 5 st) 63 6 n) 62 (PRm W st n)) ∧ Fr CQ2 M (dsSet (dsSet M1 63 5 st) 63 6 n) := by
  obtain ⟨⟨d0, d1, d2, d3, d4, d5, d6, d7, d8⟩, hf⟩ := hd
  have k := hK.1
  have h' : C24 (dsSet (dsSet M1 63 5 st) 63 6 n) W := C24_e h (fun a j q1 q2 => by rw [ds_gn (by omega), ds_gn (by omega)]; exact hf a j (by omega))
  have c0 : (dsSet (dsSet M1 63 5 st) 63 6 n) (62 + 1) 0 = (-1) := by
    simp (disch := omega) only [ds_gn, ds_ge]
    exact d0
  have c1 : (dsSet (dsSet M1 63 5 st) 63 6 n) (62 + 1) 1 = (-1) := by
    simp (disch := omega) only [ds_gn, ds_ge]
    exact d1
  have c2 : (dsSet (dsSet M1 63 5 st) 63 6 n) (62 + 1) 2 = (-1) := by
    simp (disch := omega) only [ds_gn, ds_ge]
    exact d2
  have c3 : (dsSet (dsSet M1 63 5 st) 63 6 n) (62 + 1) 3 = 0 := by
    simp (disch := omega) only [ds_gn, ds_ge]
    exact d3
  have c4 : (dsSet (dsSet M1 63 5 st) 63 6 n) (62 + 1) 4 = (-1) := by
    simp (disch := omega) only [ds_gn, ds_ge]
    exact d4
  have c5 : (dsSet (dsSet M1 63 5 st) 63 6 n) (62 + 1) 5 = st := by simp (disch := omega) only [ds_gn, ds_ge]
  have c6 : (dsSet (dsSet M1 63 5 st) 63 6 n) (62 + 1) 6 = n := by simp (disch := omega) only [ds_gn, ds_ge]
  have c7 : (dsSet (dsSet M1 63 5 st) 63 6 n) (62 + 1) 7 = (-1) := by
    simp (disch := omega) only [ds_gn, ds_ge]
    exact d7
  have c8 : (dsSet (dsSet M1 63 5 st) 63 6 n) (62 + 1) 8 = 0 := by
    simp (disch := omega) only [ds_gn, ds_ge]
    exact d8
  refine ⟨CP_mk hK h' ?_ ?_ ?_ ?_ ?_ ?_, ?_⟩
  · rw [if_pos c0]
  · intro s s0 s1
    rw [c3, c5, c6]
    rw [if_neg (bit_0 (by omega))]
  · intro s s0 s1
    rw [c4]
    exact ⟨fun _ => rfl, fun _ => bit_m1 (by omega)⟩
  · intro w w0 w1
    rw [if_neg (by omega)]
  · intro i i0 i1
    rw [c1]
    exact ⟨fun _ => rfl, fun _ => bit_m1 (by omega)⟩
  · intro i i0 i1
    rw [c2]
    exact ⟨fun _ => rfl, fun _ => bit_m1 (by omega)⟩
  · exact Fr_set (Fr_set (Fr_mono (fun a j q => by unfold CQ2; omega) hf) (by unfold CQ2; omega)) (by unfold CQ2; omega)
abbrev RVPRm (M : dsMem) (W : dsW) (st n : Int) : Prop := RSv M W (wLw W) 255 63 (dsShl 1 (wN W) - 1) 0 0 (-1) (fun x => if x = st then n else wRo W x) (wBe W)
theorem rpPRm {M : dsMem} {W : dsW} {st n : Int} (h : RI0 M W) (hs : RVPRm M W st n) (hr : 0 ≤ n ∧ n ≤ 60) : RW M (PRm W st n) ∧ REv M (PRm W st n) := by
  have k := h.1.1
  refine RPv h hs ?_ ?_ ?_ ?_ ?_ ?_
  · intro s s0 s1
    have := h.1.2.2.1 s s0 s1
    rw [if_neg (bit_0 (by omega))]
    refine ⟨rfl, ?_, ?_⟩ <;> split <;> omega
  · intro s s0 s1
    rw [bit_all (by omega) (by omega), if_pos s1]
    exact ⟨fun _ => rfl, fun _ => by omega⟩
  · intro w w0 w1
    rfl
  · intro i i0 i1
    exact ⟨fun _ => rfl, fun _ => bit_255 (by omega)⟩
  · intro i i0 i1
    exact ⟨fun _ => rfl, fun _ => bit_63 (by omega)⟩
  · intro y s y0 s0 s1
    exact ⟨fun q => (by cases q), fun q => by omega⟩
def PLw (W : dsW) (l : Int) : dsP := mkP W l (wRo W) (wBe W) (fun _ => true) (fun _ => true) (fun _ => true) (fun _ _ => false)
theorem PLw_ok {W : dsW} {l : Int} (h : WOK W) (hr : 0 ≤ l ∧ l ≤ 3) : POK (PLw W l) := by
  refine POK_mk h (fun s s0 s1 => ?_) (fun w w0 w1 => ?_)
  · have := h.2.2.1 s s0 s1
    omega
  · have := h.2.1 w w0 w1
    omega
theorem PLw_T {W : dsW} {l : Int} (h : WOK W) : 0 ≤ pTn (PLw W l) ∧ pTn (PLw W l) ≤ 36 := by
  have := h.1
  show 0 ≤ evN (wT W) + evN (wA W) ∧ evN (wT W) + evN (wA W) ≤ 36
  omega
theorem cpPLw {M M1 : dsMem} {W : dsW} {l : Int} (hK : WOK W) (h : C24 M W) (hd : Dfl M1 63 ∧ Fr (fun a _ => a = 63) M M1) (hr : 0 ≤ l ∧ l ≤ 3) : (CWp (dsSet M1 63 0 l) 62 (PLw W l) ∧ CE (dsSet M1 63 0 l) 62 (PLw W l)) ∧ Fr CQ2 M (dsSet M1 63 0 l) := by
  obtain ⟨⟨d0, d1, d2, d3, d4, d5, d6, d7, d8⟩, hf⟩ := hd
  have k := hK.1
  have h' : C24 (dsSet M1 63 0 l) W := C24_e h (fun a j q1 q2 => by rw [ds_gn (by omega)]; exact hf a j (by omega))
  have c0 : (dsSet M1 63 0 l) (62 + 1) 0 = l := by simp (disch := omega) only [ds_gn, ds_ge]
  have c1 : (dsSet M1 63 0 l) (62 + 1) 1 = (-1) := by
    simp (disch := omega) only [ds_gn, ds_ge]
    exact d1
  have c2 : (dsSet M1 63 0 l) (62 + 1) 2 = (-1) := by
    simp (disch := omega) only [ds_gn, ds_ge]
    exact d2
  have c3 : (dsSet M1 63 0 l) (62 + 1) 3 = 0 := by
    simp (disch := omega) only [ds_gn, ds_ge]
    exact d3
  have c4 : (dsSet M1 63 0 l) (62 + 1) 4 = (-1) := by
    simp (disch := omega) only [ds_gn, ds_ge]
    exact d4
  have c5 : (dsSet M1 63 0 l) (62 + 1) 5 = (-1) := by
    simp (disch := omega) only [ds_gn, ds_ge]
    exact d5
  have c6 : (dsSet M1 63 0 l) (62 + 1) 6 = 0 := by
    simp (disch := omega) only [ds_gn, ds_ge]
    exact d6
  have c7 : (dsSet M1 63 0 l) (62 + 1) 7 = (-1) := by
    simp (disch := omega) only [ds_gn, ds_ge]
    exact d7
  have c8 : (dsSet M1 63 0 l) (62 + 1) 8 = 0 := by
    simp (disch := omega) only [ds_gn, ds_ge]
    exact d8
  refine ⟨CP_mk hK h' ?_ ?_ ?_ ?_ ?_ ?_, ?_⟩
  · rw [c0]; rw [if_neg (by omega)]
  · intro s s0 s1
    rw [c3]
    rw [if_neg (bit_0 (by omega)), if_neg (by omega)]
  · intro s s0 s1
    rw [c4]
    exact ⟨fun _ => rfl, fun _ => bit_m1 (by omega)⟩
  · intro w w0 w1
    rw [if_neg (by omega)]
  · intro i i0 i1
    rw [c1]
    exact ⟨fun _ => rfl, fun _ => bit_m1 (by omega)⟩
  · intro i i0 i1
    rw [c2]
    exact ⟨fun _ => rfl, fun _ => bit_m1 (by omega)⟩
  · exact Fr_set (Fr_mono (fun a j q => by unfold CQ2; omega) hf) (by unfold CQ2; omega)
abbrev RVPLw (M : dsMem) (W : dsW) (l : Int) : Prop := RSv M W l 255 63 (dsShl 1 (wN W) - 1) 0 0 (-1) (wRo W) (wBe W)
theorem rpPLw {M : dsMem} {W : dsW} {l : Int} (h : RI0 M W) (hs : RVPLw M W l) (hr : 0 ≤ l ∧ l ≤ 3) : RW M (PLw W l) ∧ REv M (PLw W l) := by
  have k := h.1.1
  refine RPv h hs ?_ ?_ ?_ ?_ ?_ ?_
  · intro s s0 s1
    have := h.1.2.2.1 s s0 s1
    rw [if_neg (bit_0 (by omega))]
    exact ⟨rfl, by omega, by omega⟩
  · intro s s0 s1
    rw [bit_all (by omega) (by omega), if_pos s1]
    exact ⟨fun _ => rfl, fun _ => by omega⟩
  · intro w w0 w1
    rfl
  · intro i i0 i1
    exact ⟨fun _ => rfl, fun _ => bit_255 (by omega)⟩
  · intro i i0 i1
    exact ⟨fun _ => rfl, fun _ => bit_63 (by omega)⟩
  · intro y s y0 s0 s1
    exact ⟨fun q => (by cases q), fun q => by omega⟩
theorem PA_ok {W : dsW} {set : Int} (h : WOK W) (hr : True) : POK (PA W set) := by
  refine POK_mk h (fun s s0 s1 => ?_) (fun w w0 w1 => ?_)
  · have := h.2.2.1 s s0 s1
    omega
  · have := h.2.1 w w0 w1
    omega
theorem PA_T {W : dsW} {set : Int} (h : WOK W) : 0 ≤ pTn (PA W set) ∧ pTn (PA W set) ≤ 36 := by
  have := h.1
  show 0 ≤ evN (wT W) + evN (wA W) ∧ evN (wT W) + evN (wA W) ≤ 36
  omega
theorem cpPA {M M1 : dsMem} {W : dsW} {set : Int} (hK : WOK W) (h : C24 M W) (hd : Dfl M1 63 ∧ Fr (fun a _ => a = 63) M M1) (hr : True) : (CWp (dsSet M1 63 4 set) 62 (PA W set) ∧ CE (dsSet M1 63 4 set) 62 (PA W set)) ∧ Fr CQ2 M (dsSet M1 63 4 set) := by
  obtain ⟨⟨d0, d1, d2, d3, d4, d5, d6, d7, d8⟩, hf⟩ := hd
  have k := hK.1
  have h' : C24 (dsSet M1 63 4 set) W := C24_e h (fun a j q1 q2 => by rw [ds_gn (by omega)]; exact hf a j (by omega))
  have c0 : (dsSet M1 63 4 set) (62 + 1) 0 = (-1) := by
    simp (disch := omega) only [ds_gn, ds_ge]
    exact d0
  have c1 : (dsSet M1 63 4 set) (62 + 1) 1 = (-1) := by
    simp (disch := omega) only [ds_gn, ds_ge]
    exact d1
  have c2 : (dsSet M1 63 4 set) (62 + 1) 2 = (-1) := by
    simp (disch := omega) only [ds_gn, ds_ge]
    exact d2
  have c3 : (dsSet M1 63 4 set) (62 + 1) 3 = 0 := by
    simp (disch := omega) only [ds_gn, ds_ge]
    exact d3
  have c4 : (dsSet M1 63 4 set) (62 + 1) 4 = set := by simp (disch := omega) only [ds_gn, ds_ge]
  have c5 : (dsSet M1 63 4 set) (62 + 1) 5 = (-1) := by
    simp (disch := omega) only [ds_gn, ds_ge]
    exact d5
  have c6 : (dsSet M1 63 4 set) (62 + 1) 6 = 0 := by
    simp (disch := omega) only [ds_gn, ds_ge]
    exact d6
  have c7 : (dsSet M1 63 4 set) (62 + 1) 7 = (-1) := by
    simp (disch := omega) only [ds_gn, ds_ge]
    exact d7
  have c8 : (dsSet M1 63 4 set) (62 + 1) 8 = 0 := by
    simp (disch := omega) only [ds_gn, ds_ge]
    exact d8
  refine ⟨CP_mk hK h' ?_ ?_ ?_ ?_ ?_ ?_, ?_⟩
  · rw [if_pos c0]
  · intro s s0 s1
    rw [c3]
    rw [if_neg (bit_0 (by omega)), if_neg (by omega)]
  · intro s s0 s1
    rw [c4]
    exact dec_iff
  · intro w w0 w1
    rw [if_neg (by omega)]
  · intro i i0 i1
    rw [c1]
    exact ⟨fun _ => rfl, fun _ => bit_m1 (by omega)⟩
  · intro i i0 i1
    rw [c2]
    exact ⟨fun _ => rfl, fun _ => bit_m1 (by omega)⟩
  · exact Fr_set (Fr_mono (fun a j q => by unfold CQ2; omega) hf) (by unfold CQ2; omega)
abbrev RVPA (M : dsMem) (W : dsW) (set : Int) : Prop := RSv M W (wLw W) 255 63 set 0 0 (-1) (wRo W) (wBe W)
theorem rpPA {M : dsMem} {W : dsW} {set : Int} (h : RI0 M W) (hs : RVPA M W set) (hr : True) : RW M (PA W set) ∧ REv M (PA W set) := by
  have k := h.1.1
  refine RPv h hs ?_ ?_ ?_ ?_ ?_ ?_
  · intro s s0 s1
    have := h.1.2.2.1 s s0 s1
    rw [if_neg (bit_0 (by omega))]
    exact ⟨rfl, by omega, by omega⟩
  · intro s s0 s1
    exact bit_ne
  · intro w w0 w1
    rfl
  · intro i i0 i1
    exact ⟨fun _ => rfl, fun _ => bit_255 (by omega)⟩
  · intro i i0 i1
    exact ⟨fun _ => rfl, fun _ => bit_63 (by omega)⟩
  · intro y s y0 s0 s1
    exact ⟨fun q => (by cases q), fun q => by omega⟩
theorem PR_ok {W : dsW} {set : Int} (h : WOK W) (hr : True) : POK (PR W set) := by
  refine POK_mk h (fun s s0 s1 => ?_) (fun w w0 w1 => ?_)
  · have := h.2.2.1 s s0 s1
    omega
  · have := h.2.1 w w0 w1
    omega
theorem PR_T {W : dsW} {set : Int} (h : WOK W) : 0 ≤ pTn (PR W set) ∧ pTn (PR W set) ≤ 36 := by
  have := h.1
  show 0 ≤ evN (wT W) + evN (wA W) ∧ evN (wT W) + evN (wA W) ≤ 36
  omega
theorem cpPR {M M1 : dsMem} {W : dsW} {set : Int} (hK : WOK W) (h : C24 M W) (hd : Dfl M1 63 ∧ Fr (fun a _ => a = 63) M M1) (hr : True) : (CWp (dsSet M1 63 1 set) 62 (PR W set) ∧ CE (dsSet M1 63 1 set) 62 (PR W set)) ∧ Fr CQ2 M (dsSet M1 63 1 set) := by
  obtain ⟨⟨d0, d1, d2, d3, d4, d5, d6, d7, d8⟩, hf⟩ := hd
  have k := hK.1
  have h' : C24 (dsSet M1 63 1 set) W := C24_e h (fun a j q1 q2 => by rw [ds_gn (by omega)]; exact hf a j (by omega))
  have c0 : (dsSet M1 63 1 set) (62 + 1) 0 = (-1) := by
    simp (disch := omega) only [ds_gn, ds_ge]
    exact d0
  have c1 : (dsSet M1 63 1 set) (62 + 1) 1 = set := by simp (disch := omega) only [ds_gn, ds_ge]
  have c2 : (dsSet M1 63 1 set) (62 + 1) 2 = (-1) := by
    simp (disch := omega) only [ds_gn, ds_ge]
    exact d2
  have c3 : (dsSet M1 63 1 set) (62 + 1) 3 = 0 := by
    simp (disch := omega) only [ds_gn, ds_ge]
    exact d3
  have c4 : (dsSet M1 63 1 set) (62 + 1) 4 = (-1) := by
    simp (disch := omega) only [ds_gn, ds_ge]
    exact d4
  have c5 : (dsSet M1 63 1 set) (62 + 1) 5 = (-1) := by
    simp (disch := omega) only [ds_gn, ds_ge]
    exact d5
  have c6 : (dsSet M1 63 1 set) (62 + 1) 6 = 0 := by
    simp (disch := omega) only [ds_gn, ds_ge]
    exact d6
  have c7 : (dsSet M1 63 1 set) (62 + 1) 7 = (-1) := by
    simp (disch := omega) only [ds_gn, ds_ge]
    exact d7
  have c8 : (dsSet M1 63 1 set) (62 + 1) 8 = 0 := by
    simp (disch := omega) only [ds_gn, ds_ge]
    exact d8
  refine ⟨CP_mk hK h' ?_ ?_ ?_ ?_ ?_ ?_, ?_⟩
  · rw [if_pos c0]
  · intro s s0 s1
    rw [c3]
    rw [if_neg (bit_0 (by omega)), if_neg (by omega)]
  · intro s s0 s1
    rw [c4]
    exact ⟨fun _ => rfl, fun _ => bit_m1 (by omega)⟩
  · intro w w0 w1
    rw [if_neg (by omega)]
  · intro i i0 i1
    rw [c1]
    exact dec_iff
  · intro i i0 i1
    rw [c2]
    exact ⟨fun _ => rfl, fun _ => bit_m1 (by omega)⟩
  · exact Fr_set (Fr_mono (fun a j q => by unfold CQ2; omega) hf) (by unfold CQ2; omega)
abbrev RVPR (M : dsMem) (W : dsW) (set : Int) : Prop := RSv M W (wLw W) set 63 (dsShl 1 (wN W) - 1) 0 0 (-1) (wRo W) (wBe W)
theorem rpPR {M : dsMem} {W : dsW} {set : Int} (h : RI0 M W) (hs : RVPR M W set) (hr : True) : RW M (PR W set) ∧ REv M (PR W set) := by
  have k := h.1.1
  refine RPv h hs ?_ ?_ ?_ ?_ ?_ ?_
  · intro s s0 s1
    have := h.1.2.2.1 s s0 s1
    rw [if_neg (bit_0 (by omega))]
    exact ⟨rfl, by omega, by omega⟩
  · intro s s0 s1
    rw [bit_all (by omega) (by omega), if_pos s1]
    exact ⟨fun _ => rfl, fun _ => by omega⟩
  · intro w w0 w1
    rfl
  · intro i i0 i1
    exact dec_iff
  · intro i i0 i1
    exact ⟨fun _ => rfl, fun _ => bit_63 (by omega)⟩
  · intro y s y0 s0 s1
    exact ⟨fun q => (by cases q), fun q => by omega⟩
