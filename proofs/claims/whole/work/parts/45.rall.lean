/-! the other side's years: a year, what is kept of it, all years -/
theorem save_no2 {P : dsP} {y : Int} (h : ∀ s, 0 ≤ s → s < pN P → pSv P y s = false) (S : dsS) : dsSave P y S = S := by
  unfold dsSave
  have key : ∀ i, 0 ≤ i → ∀ S : dsS, dsIter (fun s S => if pSv P y s = true then dsEmpty S s 0 else S) i (pN P) S = S := by
    refine ds_ind (pN P) ?_ ?_
    · intro i hi i0 S; rw [dsIter_end hi]
    · intro i hi ih i0 S
      rw [dsIter_step hi, if_neg (by rw [h i i0 hi]; decide)]
      exact ih (by omega) S
  exact key 0 (by omega) S
theorem RW_e {M M' : dsMem} {P : dsP} (h : RW M P) (e : ∀ a j, (85 ≤ a ∧ a ≤ 92) ∨ (a = 84 ∧ 17 ≤ j ∧ j ≤ 23) → M' a j = M a j) : RW M' P := by
  unfold RW at h ⊢
  have e85 : ∀ j, M' 85 j = M 85 j := fun j => e 85 j (by omega)
  have e91 : ∀ j, M' 91 j = M 91 j := fun j => e 91 j (by omega)
  have e92 : ∀ j, M' 92 j = M 92 j := fun j => e 92 j (by omega)
  simp only [e85, e 84 17 (by omega), e 84 20 (by omega), e 84 21 (by omega), e91, e92]
  exact h
theorem ryear_ct {M : dsMem} {y b : Int} {P : dsP} {S : dsS} (hP : POK P) (hy : 0 ≤ y ∧ y < 12) (hb : 0 ≤ b ∧ b ≤ 1000000) (hM : RF (dsSet M 84 34 y) y P (dyNew S)) (hS : WS P S) (hK : KB S b) (hW : RW M P) (hE : REv M P) :
    bCt 232 [uR 11 84, uI y, uX 0, uX 0] M (fun _ => []) (fun M' => RS M y P (b + 73) M' (dsYear P y S)) := by
  intro Q hQ
  have hN := hP.1
  have hc : RS M y P b (dsSet M 84 34 y) (dyNew S) :=
    ⟨hM, WS_new hS, KB_new hK, RW_e hW (fun a j q => ds_gn (by omega)), REv_fr hE (fun j => ds_gn (by omega)) (fun j _ _ => ds_gn (by omega)), Fr_set Fr_refl (Or.inr ⟨rfl, rfl⟩)⟩
  have go : ∀ M1, RS M y P b M1 (dsSave P y (dyNew S)) → bB 232 56 [uR 11 84, uI y, uI 0, uX 0] [] M1 Q :=
    fun M1 h1 => ry_rains hP hy h1 (fun M2 h2 => ry_taps hP hy h2 (fun M3 h3 => ry_sinks hP hy hb h3 (fun M4 h4 => hQ M4 h4)))
  have hsv := fun s s0 s1 => hE.2.2.2.2.2.2.2.2 y s hy.1 s0 s1
  refine r232_0 (k1 := fun q1 => go _ ?_) (k2 := fun q1 => ?_)
  · rw [save_no2 (fun s s0 s1 => ?_)]
    · exact hc
    · cases hh : pSv P y s with
      | false => rfl
      | true => exact absurd ((hsv s s0 s1).1 hh).1 q1
  · refine b_itF 0 (pN P) (fun s => [uR 11 84, uI y, uI s, uX 0]) (fun s S => if pSv P y s = true then dsEmpty S s 0 else S) (RS M y P b) (dyNew S) ?_ ?_ _ hc
    · intro s M1 S1 s0 s1 hc1 ih
      have e4 := hc1.2.2.2.1.1.1
      have ex : M1 84 22 = M 84 22 := hc1.2.2.2.2.2 84 22 (by unfold DR2 DR; omega)
      refine r232_15 (k1 := fun q2 => by omega) (k2 := fun q2 q3 => ih M1 ?_) (hA1 := fun q2 q3 => remp_ct hP hc1.1 hc1.2.1 ⟨s0, s1⟩) (k3 := fun q2 q3 M2 r2 => ih M2 ?_)
      · rw [ex] at q3
        rw [if_neg (fun q => q3 ((hsv s s0 s1).1 q).2)]; exact hc1
      · rw [ex] at q3
        rw [if_pos ((hsv s s0 s1).2 ⟨q1, q3⟩)]
        exact RS_mk hc1 r2.1 (WS_emp hP hc1.2.1) hc1.2.2.1 r2.2
    · intro s M1 s0 s1 hc1
      have e4 := hc1.2.2.2.1.1.1
      exact r232_15 (k1 := fun q2 => go M1 hc1) (k2 := fun q2 => by omega) (hA1 := fun q2 => by omega) (k3 := fun q2 => by omega) (R1 := fun _ => True) (g1 := fun _ => 0)
-- what is kept of a year
def RKc (M : dsMem) (c : Int) (l : dsL) : Prop := M 103 c = (l.length : Int) ∧ M 102 c = dySum l ∧ dyRp M 104 105 (60 * c) l
def RK (M : dsMem) (P : dsP) (y : Int) (S : dsS) : Prop :=
  (∀ s, 0 ≤ s → s < pN P → RKc M (6 * y + s) (sL S s)) ∧ (∀ w, 0 ≤ w → w < pW P → M 106 (3 * y + w) = sK S w) ∧ M 107 y = sU S
def KY (y : Int) : Int → Int → Prop := fun a j => ((a = 102 ∨ a = 103) ∧ 6 * y ≤ j ∧ j < 6 * y + 6) ∨ ((a = 104 ∨ a = 105) ∧ 360 * y ≤ j ∧ j < 360 * y + 360) ∨ (a = 106 ∧ 3 * y ≤ j ∧ j < 3 * y + 3) ∨ (a = 107 ∧ j = y)
theorem RKc_fr {M M' : dsMem} {c : Int} {l : dsL} (h : RKc M c l) (hl : (l.length : Int) ≤ 60) (hf : ∀ a j, ((a = 102 ∨ a = 103) ∧ j = c) ∨ ((a = 104 ∨ a = 105) ∧ 60 * c ≤ j ∧ j < 60 * c + 60) → M' a j = M a j) : RKc M' c l := by
  obtain ⟨h1, h2, h3⟩ := h
  refine ⟨?_, ?_, dyRp_congr ?_ h3⟩
  · rw [hf _ _ (by omega)]; exact h1
  · rw [hf _ _ (by omega)]; exact h2
  · intro j j1 j2
    exact ⟨hf _ _ (by omega), hf _ _ (by omega)⟩
theorem RK_fr {M M' : dsMem} {y : Int} {P : dsP} {S : dsS} (hP : POK P) (hS : WS P S) (h : RK M P y S) (hf : ∀ a j, KY y a j → M' a j = M a j) : RK M' P y S := by
  have hN := hP.1
  obtain ⟨a, b, c⟩ := h
  refine ⟨?_, ?_, ?_⟩
  · intro s s0 s1
    exact RKc_fr (a s s0 s1) (WS_len hP hS s0 s1) (fun a j q => hf a j (by unfold KY; omega))
  · intro w w0 w1
    rw [hf _ _ (by unfold KY; omega)]; exact b w w0 w1
  · rw [hf _ _ (by unfold KY; omega)]; exact c
theorem keep_1 {y s c : Int} {Q : bQT} {l : dsL} (hs : 0 ≤ s ∧ s < 6) (hc : 0 ≤ c ∧ c < 78) (hl : (l.length : Int) ≤ 60) :
    ∀ (r : dsL) (i : Int) (M : dsMem), 0 ≤ i → i + r.length = l.length → M 95 s = l.length → dyRp M 93 94 (60 * s + i) r →
    (∀ M' : dsMem, dyRp M' 104 105 (60 * c + i) r → Fr (fun a j => (a = 104 ∨ a = 105) ∧ 60 * c + i ≤ j ∧ j < 60 * c + 60) M M' → bB 233 2 [uR 11 84, uI y, uI (s + 1), uX 0, uX 0] [] M' Q) →
    bB 233 44 [uR 11 84, uI y, uI s, uI c, uI i] [] M Q
  | [], i, M, h0, h1, h4, hr, K => by
    simp only [List.length_nil] at h1
    exact r233_44 (k1 := fun q1 => K M trivial Fr_refl) (k2 := fun q1 => by omega)
  | p :: r, i, M, h0, h1, h4, hr, K => by
    simp only [List.length_cons] at h1
    refine r233_44 (k1 := fun q1 => by omega) (k2 := fun q1 => ?_)
    refine keep_1 hs hc hl r (i + 1) _ (by omega) (by omega) ?_ ?_ ?_
    · simp (disch := omega) only [ds_gn, ds_ge]; exact h4
    · rw [show 60 * s + (i + 1) = 60 * s + i + 1 by omega]
      refine dyRp_congr ?_ hr.2
      intro j j1 j2
      refine ⟨?_, ?_⟩ <;> simp (disch := omega) only [ds_gn, ds_ge]
    · intro M' g1 g2
      refine K M' ⟨⟨?_, ?_⟩, ?_⟩ ?_
      · rw [g2 _ _ (by omega)]
        simp (disch := omega) only [ds_gn, ds_ge]; exact hr.1.1
      · rw [g2 _ _ (by omega)]
        simp (disch := omega) only [ds_gn, ds_ge]; exact hr.1.2
      · rw [show 60 * c + i + 1 = 60 * c + (i + 1) by omega]; exact g1
      · refine Fr_trans (Fr_set (Fr_set Fr_refl ?_) ?_) (Fr_mono ?_ g2)
        · omega
        · omega
        · intro a j q; omega
def RFc (M : dsMem) (P : dsP) (S : dsS) : Prop :=
  (∀ s, 0 ≤ s → s < pN P → RC M s (sL S s)) ∧ (∀ w, 0 ≤ w → w < 3 → M 97 w = sK S w) ∧ M 84 33 = sU S ∧
  (∀ s, 0 ≤ s → s < pN P → (∀ k, 1 ≤ k → k ≤ 5 → M 99 (6 * s + k) = dsw (sB S s k)) ∧ M 98 s = dsw (sD S s))
theorem RFc_e {M M' : dsMem} {P : dsP} {S : dsS} (h : RFc M P S) (e : ∀ a j, (93 ≤ a ∧ a ≤ 99) ∨ (a = 84 ∧ j = 33) → M' a j = M a j) : RFc M' P S := by
  obtain ⟨a, b, c, d⟩ := h
  refine ⟨?_, ?_, ?_, ?_⟩
  · intro s s0 s1
    exact RC_ne (a s s0 s1) (fun a j q => e a j (by omega))
  · intro w w0 w1
    rw [e _ _ (by omega)]; exact b w w0 w1
  · rw [e _ _ (by omega)]; exact c
  · intro s s0 s1
    refine ⟨fun k k0 k1 => ?_, ?_⟩
    · rw [e _ _ (by omega)]; exact (d s s0 s1).1 k k0 k1
    · rw [e _ _ (by omega)]; exact (d s s0 s1).2
theorem keep_ct {M : dsMem} {y : Int} {P : dsP} {S : dsS} (hP : POK P) (hy : 0 ≤ y ∧ y < 13) (h : RFc M P S) (hS : WS P S) (e4 : M 85 4 = pN P) (e3 : M 85 3 = pW P) :
    bCt 233 [uR 11 84, uI y, uX 0, uX 0, uX 0] M (fun _ => []) (fun M' => RK M' P y S ∧ Fr (KY y) M M') := by
  intro Q hQ
  have hN := hP.1
  refine r233_0 ?_
  refine b_forM (pN P) (fun s => [uR 11 84, uI y, uI s, uX 0, uX 0]) (fun s M' => 0 ≤ s ∧ (∀ t, 0 ≤ t → t < s → t < pN P → RKc M' (6 * y + t) (sL S t)) ∧ Fr (KY y) M M') ?_ ?_ 0 M ⟨by omega, fun t _ _ => by omega, Fr_refl⟩
  · rintro s M1 ⟨s0, hk, hf⟩ s1 ih
    have g4 : M1 85 4 = pN P := by rw [hf _ _ (by unfold KY; omega)]; exact e4
    have hr := RC_ne (M' := M1) (h.1 s s0 s1) (fun a j q => hf a j (by unfold KY; omega))
    have hlen := WS_len hP hS s0 s1
    refine r233_2 (k1 := fun q1 => by omega) (k2 := fun q1 => ?_)
    refine keep_1 (l := sL S s) ⟨s0, by omega⟩ (by omega) hlen (sL S s) 0 _ (by omega) (by omega) ?_ ?_ ?_
    · simp (disch := omega) only [ds_gn, ds_ge]; exact hr.1
    · rw [show 60 * s + 0 = 60 * s by omega]
      refine dyRp_congr ?_ hr.2.2
      intro j _ _
      refine ⟨?_, ?_⟩ <;> simp (disch := omega) only [ds_gn, ds_ge]
    · intro M2 g1 g2
      rw [show 60 * (6 * y + s) + 0 = 60 * (6 * y + s) by omega] at g1 g2
      refine ih M2 ⟨by omega, ?_, ?_⟩
      · intro t t0 t1 t2
        by_cases ht : t = s
        · subst ht
          refine ⟨?_, ?_, g1⟩
          · rw [g2 _ _ (by omega)]; simp (disch := omega) only [ds_gn, ds_ge]; exact hr.1
          · rw [g2 _ _ (by omega)]; simp (disch := omega) only [ds_gn, ds_ge]; exact hr.2.1
        · refine RKc_fr (hk t t0 (by omega) t2) (WS_len hP hS t0 t2) (fun a j q => ?_)
          rw [g2 _ _ (by omega)]; simp (disch := omega) only [ds_gn, ds_ge]
      · refine Fr_trans (Fr_set (Fr_set hf ?_) ?_) (Fr_mono ?_ g2)
        · unfold KY; omega
        · unfold KY; omega
        · intro a j q; unfold KY; omega
  · rintro s M1 ⟨s0, hk, hf⟩ s1
    have g4 : M1 85 4 = pN P := by rw [hf _ _ (by unfold KY; omega)]; exact e4
    refine r233_2 (k1 := fun q1 => ?_) (k2 := fun q1 => by omega)
    refine b_forM (pW P) (fun w => [uR 11 84, uI y, uI w, uX 0, uX 0]) (fun w M' => 0 ≤ w ∧ (∀ t, 0 ≤ t → t < w → t < pW P → M' 106 (3 * y + t) = sK S t) ∧ Fr (fun a j => a = 106 ∧ 3 * y ≤ j ∧ j < 3 * y + 3) M1 M') ?_ ?_ 0 M1 ⟨by omega, fun t _ _ => by omega, Fr_refl⟩
    · rintro w M2 ⟨w0, hw, hf2⟩ w1 ih
      have g3 : M2 85 3 = pW P := by rw [hf2 _ _ (by omega), hf _ _ (by unfold KY; omega)]; exact e3
      have g97 : M2 97 w = sK S w := by rw [hf2 _ _ (by omega), hf _ _ (by unfold KY; omega)]; exact h.2.1 w w0 (by omega)
      refine r233_117 (k1 := fun q1 => by omega) (k2 := fun q1 => ih _ ⟨by omega, ?_, Fr_set hf2 (by omega)⟩)
      intro t t0 t1 t2
      by_cases ht : t = w
      · subst ht; simp (disch := omega) only [ds_gn, ds_ge]; exact g97
      · simp (disch := omega) only [ds_gn, ds_ge]; exact hw t t0 (by omega) t2
    · rintro w M2 ⟨w0, hw, hf2⟩ w1
      have g3 : M2 85 3 = pW P := by rw [hf2 _ _ (by omega), hf _ _ (by unfold KY; omega)]; exact e3
      have g33 : M2 84 33 = sU S := by rw [hf2 _ _ (by omega), hf _ _ (by unfold KY; omega)]; exact h.2.2.1
      refine r233_117 (k1 := fun q1 => hQ _ ⟨⟨?_, ?_, ?_⟩, ?_⟩) (k2 := fun q1 => by omega)
      · intro t t0 t1
        refine RKc_fr (hk t t0 (by omega) t1) (WS_len hP hS t0 t1) (fun a j q => ?_)
        rw [ds_get_ne (by omega), hf2 _ _ (by omega)]
      · intro t t0 t1
        rw [ds_get_ne (by omega)]; exact hw t t0 (by omega) t1
      · rw [ds_get_eq]; exact g33
      · refine Fr_set (Fr_trans hf (Fr_mono ?_ hf2)) ?_
        · intro a j q; unfold KY; omega
        · unfold KY; omega
def GF : Int → Int → Prop := fun a j => (93 ≤ a ∧ a ≤ 107) ∨ (a = 84 ∧ (j = 33 ∨ j = 34))
/-- the other side's rows are as the run of P -/
def RR (M : dsMem) (P : dsP) : Prop :=
  (∀ k : Nat, (k : Int) ≤ pY P → RK M P k (dsStN P (dyInit P) 0 k) ∧ WS P (dsStN P (dyInit P) 0 k)) ∧
  (∀ k : Nat, (k : Int) < pY P → M 101 k = dsw (sX (dsStN P (dyInit P) 0 (k + 1))) ∧ M 100 k = dsw (sH (dsStN P (dyInit P) 0 (k + 1)))) ∧
  RFc M P (dsStN P (dyInit P) 0 (pY P).toNat) ∧ KB (dsStN P (dyInit P) 0 (pY P).toNat) (73 * pY P)
def GI (M0 : dsMem) (P : dsP) (y : Int) (M : dsMem) : Prop :=
  (0 ≤ y ∧ y ≤ pY P) ∧ (∀ k : Nat, (k : Int) ≤ y → WS P (dsStN P (dyInit P) 0 k)) ∧ (∀ k : Nat, (k : Int) < y → RK M P k (dsStN P (dyInit P) 0 k)) ∧
  (∀ k : Nat, (k : Int) < y → M 101 k = dsw (sX (dsStN P (dyInit P) 0 (k + 1))) ∧ M 100 k = dsw (sH (dsStN P (dyInit P) 0 (k + 1)))) ∧
  RFc M P (dsStN P (dyInit P) 0 y.toNat) ∧ KB (dsStN P (dyInit P) 0 y.toNat) (73 * y) ∧ RW M P ∧ REv M P ∧ Fr GF M0 M
theorem RF_new {M : dsMem} {P : dsP} {S : dsS} {y : Int} (h : RFc M P S) (e1 : M 101 y = 0) (e0 : M 100 y = 0) : RF (dsSet M 84 34 y) y P (dyNew S) := by
  have h' := RFc_e (M' := dsSet M 84 34 y) h (fun a j q => ds_gn (by omega))
  refine ⟨h'.1, h'.2.1, h'.2.2.1, ?_, ?_, h'.2.2.2, ds_get_eq⟩
  · rw [ds_get_ne (by omega), e1]; rfl
  · rw [ds_get_ne (by omega), e0]; rfl
theorem goAll_1 {M0 : dsMem} {P : dsP} {Q : bQT} (hP : POK P) (K : ∀ M', RR M' P ∧ RW M' P ∧ REv M' P ∧ Fr GF M0 M' → Q [] M') :
    ∀ y M, GI M0 P y M → bB 234 90 [uR 11 84, uI y] [] M Q := by
  have hN := hP.1
  refine ds_ind (pY P) ?_ ?_
  · rintro y hy M ⟨a, b, c, d, e, f, g, i, j⟩
    have ey : y = pY P := by omega
    subst ey
    have e0 := g.1.2.2.1
    have hS := b (pY P).toNat (by omega)
    refine r234_90 (R1 := fun M' => RK M' P (pY P) (dsStN P (dyInit P) 0 (pY P).toNat) ∧ Fr (KY (pY P)) M M') (hA1 := fun q1 => ?_) (k1 := fun q1 M1 r1 => K M1 ?_) (hA2 := fun q1 => by omega) (hA3 := fun q1 => by omega) (k2 := fun q1 => by omega) (R2 := fun _ => True) (R3 := fun _ _ => True)
    · rw [e0]; exact keep_ct hP (by omega) e hS g.1.1 g.1.2.1
    · have hf := r1.2
      refine ⟨⟨fun k hk => ⟨?_, b k hk⟩, ?_, RFc_e e (fun a j q => hf a j (by unfold KY; omega)), f⟩, RW_e g (fun a j q => hf a j (by unfold KY; omega)), REv_fr i (fun j => hf _ _ (by unfold KY; omega)) (fun j _ _ => hf _ _ (by unfold KY; omega)), Fr_trans j (Fr_mono ?_ hf)⟩
      · by_cases hlt : (k : Int) < pY P
        · exact RK_fr hP (b k hk) (c k hlt) (fun a j q => hf a j (by unfold KY at q ⊢; omega))
        · have : k = (pY P).toNat := by omega
          subst this
          rw [show (((pY P).toNat : Nat) : Int) = pY P by omega]
          exact r1.1
      · intro k hk
        rw [hf _ _ (by unfold KY; omega), hf _ _ (by unfold KY; omega)]; exact d k hk
      · intro a j q; unfold KY at q; unfold GF; omega
  · rintro y hy ih M ⟨a, b, c, d, e, f, g, i, j⟩
    have e0 := g.1.2.2.1
    have hS := b y.toNat (by omega)
    have e1 : ∀ a j, ¬ ((a = 100 ∨ a = 101) ∧ j = y) → dsSet (dsSet M 100 y 0) 101 y 0 a j = M a j := fun a j q => by rw [ds_gn (by omega), ds_gn (by omega)]
    have c2 := keep_ct (M := dsSet (dsSet M 100 y 0) 101 y 0) (y := y) hP (by omega) (RFc_e e (fun a j q => e1 a j (by omega))) hS (by rw [e1 _ _ (by omega)]; exact g.1.1) (by rw [e1 _ _ (by omega)]; exact g.1.2.1)
    have c3 : ∀ M2, (RK M2 P y (dsStN P (dyInit P) 0 y.toNat) ∧ Fr (KY y) (dsSet (dsSet M 100 y 0) 101 y 0) M2) → bCt 232 [uR 11 84, uI y, uX 0, uX 0] M2 (fun _ => []) (fun M' => RS M2 y P (73 * y + 73) M' (dsYear P y (dsStN P (dyInit P) 0 y.toNat))) := by
      intro M2 r2
      have hf := r2.2
      have f2 : ∀ a j, ¬ ((a = 100 ∨ a = 101) ∧ j = y) → a < 102 → M2 a j = M a j := fun a j q1 q2 => by rw [hf _ _ (by unfold KY; omega)]; exact e1 a j q1
      refine ryear_ct hP (by omega) (by omega) (RF_new (RFc_e e (fun a j q => f2 a j (by omega) (by omega))) ?_ ?_) hS f (RW_e g (fun a j q => f2 a j (by omega) (by omega))) (REv_fr i (fun j => f2 _ _ (by omega) (by omega)) (fun j _ _ => f2 _ _ (by omega) (by omega)))
      · rw [hf _ _ (by unfold KY; omega)]; simp (disch := omega) only [ds_gn, ds_ge]
      · rw [hf _ _ (by unfold KY; omega)]; simp (disch := omega) only [ds_gn, ds_ge]
    refine r234_90 (hA1 := fun q1 => by omega) (k1 := fun q1 => by omega) (R1 := fun _ => True) (hA2 := fun q1 => c2) (hA3 := fun q1 M2 r2 => c3 M2 r2) (k2 := fun q1 M2 r2 M3 r3 => ih M3 ?_)
    have ek : dsStN P (dyInit P) 0 (y.toNat + 1) = dsYear P y (dsStN P (dyInit P) 0 y.toNat) := by
      rw [dsStN, show (0 : Int) + (y.toNat : Int) = y by omega]
    rw [← ek] at r3
    have en : (y + 1).toNat = y.toNat + 1 := by omega
    have hf := r2.2
    have hf3 := r3.2.2.2.2.2
    have f3 : ∀ a j, ¬ KY y a j → ¬ DR2 y a j → M3 a j = M a j := by
      intro a j q1 q2
      rw [hf3 a j q2, hf a j q1]
      refine e1 a j (fun q => q2 ?_)
      unfold DR2 DR; omega
    refine ⟨by omega, ?_, ?_, ?_, ?_, ?_, r3.2.2.2.1, r3.2.2.2.2.1, ?_⟩
    · intro k hk
      by_cases hlt : (k : Int) ≤ y
      · exact b k hlt
      · have : k = y.toNat + 1 := by omega
        subst this; exact r3.2.1
    · intro k hk
      by_cases hlt : (k : Int) < y
      · exact RK_fr hP (b k (by omega)) (c k hlt) (fun a j q => f3 a j (by unfold KY at q ⊢; omega) (by unfold KY at q; unfold DR2 DR; omega))
      · have : k = y.toNat := by omega
        subst this
        rw [show ((y.toNat : Nat) : Int) = y by omega]
        exact RK_fr hP hS r2.1 (fun a j q => hf3 a j (by unfold KY at q; unfold DR2 DR; omega))
    · intro k hk
      by_cases hlt : (k : Int) < y
      · rw [f3 _ _ (by unfold KY; omega) (by unfold DR2 DR; omega), f3 _ _ (by unfold KY; omega) (by unfold DR2 DR; omega)]; exact d k hlt
      · have : k = y.toNat := by omega
        subst this
        rw [show ((y.toNat : Nat) : Int) = y by omega]
        exact ⟨r3.1.2.2.2.1, r3.1.2.2.2.2.1⟩
    · rw [en]
      exact ⟨r3.1.1, r3.1.2.1, r3.1.2.2.1, r3.1.2.2.2.2.2.1⟩
    · rw [en, show 73 * (y + 1) = 73 * y + 73 by omega]
      exact r3.2.2.1
    · refine Fr_trans j ?_
      intro a j q
      unfold GF at q
      exact f3 a j (by unfold KY; omega) (by unfold DR2 DR; omega)
theorem goAll_ct {M : dsMem} {P : dsP} (hP : POK P) (hW : RW M P) (hE : REv M P) :
    bCt 234 [uR 11 84, uX 0] M (fun _ => []) (fun M' => RR M' P ∧ RW M' P ∧ REv M' P ∧ Fr GF M M') := by
  intro Q hQ
  have hN := hP.1
  have hsh := @dsShl_b (pW P) (by omega)
  refine r234_0 ?_
  refine b_forM 6 (fun s => [uR 11 84, uI s]) (fun s M' => 0 ≤ s ∧ s ≤ 6 ∧ (∀ t, 0 ≤ t → t < s → M' 95 t = 0 ∧ M' 96 t = 0 ∧ M' 98 t = 0) ∧ Fr (fun a _ => a = 95 ∨ a = 96 ∨ a = 98) M M') ?_ ?_ 0 M ⟨by omega, by omega, fun t _ _ => by omega, Fr_refl⟩
  · rintro s M1 ⟨s0, s6, hz, hf⟩ s1 ih
    refine r234_2 (k1 := fun q1 => by omega) (k2 := fun q1 => ih _ ⟨by omega, by omega, ?_, ?_⟩)
    · intro t t0 t1
      by_cases ht : t = s
      · subst ht; refine ⟨?_, ?_, ?_⟩ <;> simp (disch := omega) only [ds_gn, ds_ge]
      · have := hz t t0 (by omega)
        refine ⟨?_, ?_, ?_⟩ <;> simp (disch := omega) only [ds_gn, ds_ge]
        · exact this.1
        · exact this.2.1
        · exact this.2.2
    · refine Fr_set (Fr_set (Fr_set hf ?_) ?_) ?_ <;> omega
  · rintro s M1 ⟨s0, s6, hz, hf⟩ s1
    refine r234_2 (k1 := fun q1 => ?_) (k2 := fun q1 => by omega)
    refine b_forM 36 (fun k => [uR 11 84, uI k]) (fun k M' => 0 ≤ k ∧ k ≤ 36 ∧ (∀ t, 0 ≤ t → t < k → M' 99 t = 0) ∧ Fr (fun a _ => a = 99) M1 M') ?_ ?_ 0 M1 ⟨by omega, by omega, fun t _ _ => by omega, Fr_refl⟩
    · rintro k M2 ⟨k0, k6, hk, hf2⟩ k1 ih
      refine r234_37 (k1 := fun q1 => by omega) (k2 := fun q1 => ih _ ⟨by omega, by omega, ?_, Fr_set hf2 rfl⟩)
      intro t t0 t1
      by_cases ht : t = k
      · subst ht; simp (disch := omega) only [ds_gn, ds_ge]
      · simp (disch := omega) only [ds_gn, ds_ge]; exact hk t t0 (by omega)
    · rintro k M2 ⟨k0, k6, hk, hf2⟩ k1
      refine r234_37 (k1 := fun q1 => ?_) (k2 := fun q1 => by omega)
      refine b_forM 3 (fun w => [uR 11 84, uI w]) (fun w M' => 0 ≤ w ∧ w ≤ 3 ∧ (∀ t, 0 ≤ t → t < w → M' 97 t = 0) ∧ Fr (fun a _ => a = 97) M2 M') ?_ ?_ 0 M2 ⟨by omega, by omega, fun t _ _ => by omega, Fr_refl⟩
      · rintro w M3 ⟨w0, w3, hw, hf3⟩ w1 ih
        have e3 : M3 85 3 = pW P := by rw [hf3 _ _ (by omega), hf2 _ _ (by omega), hf _ _ (by omega)]; exact hW.1.2.1
        refine r234_58 (k1 := fun q1 => by omega) (k2 := fun q1 => ih _ ⟨by omega, by omega, ?_, Fr_set hf3 rfl⟩) (s1 := fun q1 => by omega)
        intro t t0 t1
        by_cases ht : t = w
        · subst ht; simp (disch := omega) only [ds_gn, ds_ge]
        · simp (disch := omega) only [ds_gn, ds_ge]; exact hw t t0 (by omega)
      · rintro w M3 ⟨w0, w3, hw, hf3⟩ w1
        have e3 : M3 85 3 = pW P := by rw [hf3 _ _ (by omega), hf2 _ _ (by omega), hf _ _ (by omega)]; exact hW.1.2.1
        have f : ∀ a j, ¬ (95 ≤ a ∧ a ≤ 99) → ¬ (a = 84 ∧ j = 33) → dsSet M3 84 33 (dsShl 1 (pW P) - 1) a j = M a j := by
          intro a j q1 q2
          rw [ds_gn (by omega), hf3 _ _ (by omega), hf2 _ _ (by omega), hf _ _ (by omega)]
        refine r234_58 (k1 := fun q1 => ?_) (k2 := fun q1 => by omega) (s1 := fun q1 => by rw [e3]; omega)
        rw [e3]
        refine goAll_1 (M0 := M) hP hQ 0 _ ⟨by omega, ?_, fun k hk => by omega, fun k hk => by omega, ⟨?_, ?_, ?_, ?_⟩, ?_, RW_e hW (fun a j q => f a j (by omega) (by omega)), REv_fr hE (fun j => f _ _ (by omega) (by omega)) (fun j _ _ => f _ _ (by omega) (by omega)), ?_⟩
        · intro k hk
          have : k = 0 := by omega
          subst this
          exact fun s s0 s1 => ⟨dyWl_nil, (hP.2.1 s s0 s1).1⟩
        · intro t t0 t1
          have := hz t t0 (by omega)
          refine ⟨?_, ?_, trivial⟩
          · rw [ds_get_ne (by omega), hf3 _ _ (by omega), hf2 _ _ (by omega)]; exact this.1
          · rw [ds_get_ne (by omega), hf3 _ _ (by omega), hf2 _ _ (by omega)]; exact this.2.1
        · intro t t0 t1
          rw [ds_get_ne (by omega)]; exact hw t t0 (by omega)
        · rw [ds_get_eq]; rfl
        · intro t t0 t1
          have := hz t t0 (by omega)
          refine ⟨fun k k0 k1 => ?_, ?_⟩
          · rw [ds_get_ne (by omega), hf3 _ _ (by omega), hk _ (by omega) (by omega)]; rfl
          · rw [ds_get_ne (by omega), hf3 _ _ (by omega), hf2 _ _ (by omega), this.2.2]; rfl
        · intro t t0 t1
          exact ⟨Int.le_refl _, Int.le_refl _⟩
        · intro a j q
          unfold GF at q
          exact f a j (by omega) (by omega)
