/-! the flow's run over the years -/
def CK (M : dsMem) (x0 : Int) (P : dsP) (y : Int) (S : dsS) : Prop :=
  (∀ s, 0 ≤ s → s < pN P → dyCell M x0 (y * 6 + s) (sL S s)) ∧ (∀ w, 0 ≤ w → w < 3 → M (x0 + 6) (y * 3 + w) = sK S w) ∧ M (x0 + 7) y = sU S
def CAc (M : dsMem) (x0 : Int) (P : dsP) (S : dsS) : Prop :=
  (∀ k, 1 ≤ k → k ≤ 5 → M (x0 + 10) k = dsw (sA S k)) ∧ (∀ s, 0 ≤ s → s < pN P → M (x0 + 11) s = sF S s ∧ M (x0 + 12) s = dsw (sD S s))
theorem CK_fr {M M' : dsMem} {x0 y z : Int} {P : dsP} {S : dsS} (hP : POK P) (hS : WS P S) (h : CK M x0 P z S) (hz : z ≤ y) (hf : Fr (DY x0 y) M M') : CK M' x0 P z S := by
  obtain ⟨a, b, c⟩ := h
  have hN := hP.1
  refine ⟨?_, ?_, ?_⟩
  · intro s s0 s1
    refine cell_fr (a s s0 s1) (WS_len hP hS s0 s1) (fun a j q => hf a j ?_)
    unfold DY; omega
  · intro w w0 w1
    rw [hf _ _ (by unfold DY; omega)]; exact b w w0 w1
  · rw [hf _ _ (by unfold DY; omega)]; exact c
theorem copyYear_ct {M : dsMem} {x0 y : Int} {P : dsP} {S : dsS} (hP : POK P) (hx : x0 = 47 ∨ x0 = 62) (hy : 0 ≤ y ∧ y < 12) (hW : CW M x0 P) (hS : WS P S) (hK : CK M x0 P y S) (hA : CAc M x0 P S) :
    bCt 11 [uR 5 x0, uI y, uX 0] M (fun _ => []) (fun M' => CF M' x0 y P (dyNew S) ∧ Fr (DY x0 y) M M') := by
  intro Q hQ
  have hN := hP.1
  refine r11_0 ?_
  refine b_forM (pN P) (fun s => [uR 5 x0, uI y, uI s]) (fun s M' => 0 ≤ s ∧ (∀ t, 0 ≤ t → t < s → t < pN P → dyCell M' x0 ((y + 1) * 6 + t) (sL S t)) ∧ Fr (fun a j => ((a = x0 + 2 ∨ a = x0 + 3) ∧ (y + 1) * 360 ≤ j) ∨ ((a = x0 + 4 ∨ a = x0 + 5) ∧ (y + 1) * 6 ≤ j)) M M') ?_ ?_ 0 M ⟨by omega, fun t _ _ => by omega, Fr_refl⟩
  · rintro s M1 ⟨s0, hc, hf⟩ s1 ih
    have e5 : M1 24 5 = pN P := by rw [hf _ _ (by omega)]; exact hW.1.1
    have hl := WS_len hP hS s0 s1
    have hcell : dyCell M1 x0 (y * 6 + s) (sL S s) := cell_fr (hK.1 s s0 s1) hl (fun a j q => hf a j (by omega))
    refine r11_2 (k1 := fun q1 => by omega) (hA1 := fun q1 => copy_ct (Or.inl ⟨rfl, by omega⟩) (by omega) (by omega) hl hcell) (k2 := fun q1 M2 r2 => ih M2 ⟨by omega, ?_, ?_⟩)
    · intro t t0 t1 t2
      by_cases ht : t = s
      · subst ht; exact r2.1
      · refine cell_fr (hc t t0 (by omega) t2) (WS_len hP hS t0 t2) (fun a j q => r2.2 a j ?_)
        unfold FC; omega
    · refine Fr_trans hf (Fr_mono ?_ r2.2)
      intro a j q; unfold FC at q; omega
  · rintro s M1 ⟨s0, hc, hf⟩ s1
    have e5 : M1 24 5 = pN P := by rw [hf _ _ (by omega)]; exact hW.1.1
    refine r11_2 (k1 := fun q1 => ?_) (hA1 := fun q1 => by omega) (k2 := fun q1 M2 r2 => by omega) (R1 := fun _ => True)
    refine b_forM 3 (fun w => [uR 5 x0, uI y, uI w]) (fun w M' => 0 ≤ w ∧ w ≤ 3 ∧ (∀ t, 0 ≤ t → t < w → M' (x0 + 6) ((y + 1) * 3 + t) = sK S t) ∧ Fr (fun a j => a = x0 + 6 ∧ (y + 1) * 3 ≤ j) M1 M') ?_ ?_ 0 M1 ⟨by omega, by omega, fun t _ _ => by omega, Fr_refl⟩
    · rintro w M2 ⟨w0, w3, hw, hf2⟩ w1 ih
      refine r11_38 (k1 := fun q1 => by omega) (k2 := fun q1 => ih _ ⟨by omega, by omega, ?_, Fr_set hf2 (by omega)⟩)
      intro t t0 t1
      by_cases ht : t = w
      · subst ht; simp (disch := omega) only [ds_gn, ds_ge]
        rw [hf2 _ _ (by omega), hf _ _ (by omega)]; exact hK.2.1 t t0 (by omega)
      · simp (disch := omega) only [ds_gn, ds_ge]; exact hw t t0 (by omega)
    · rintro w M2 ⟨w0, w3, hw, hf2⟩ w1
      have f : ∀ a j, ¬ (((a = x0 + 2 ∨ a = x0 + 3) ∧ (y + 1) * 360 ≤ j) ∨ ((a = x0 + 4 ∨ a = x0 + 5) ∧ (y + 1) * 6 ≤ j)) → ¬ (a = x0 + 6 ∧ (y + 1) * 3 ≤ j) → M2 a j = M a j := fun a j q1 q2 => (hf2 a j q2).trans (hf a j q1)
      refine r11_38 (k1 := fun q1 => hQ _ ⟨⟨?_, ?_, ?_, ?_, ?_, ?_, ?_⟩, ?_⟩) (k2 := fun q1 => by omega)
      · intro t t0 t1
        refine cell_ne (hc t t0 (by omega) t1) (fun a j q => ?_)
        simp (disch := omega) only [ds_gn, ds_ge]; exact hf2 a j (by omega)
      · intro t t0 t1
        simp (disch := omega) only [ds_gn, ds_ge]; exact hw t t0 (by omega)
      · simp (disch := omega) only [ds_gn, ds_ge]
        rw [f _ _ (by omega) (by omega)]; exact hK.2.2
      · simp (disch := omega) only [ds_gn, ds_ge]; rfl
      · simp (disch := omega) only [ds_gn, ds_ge]; rfl
      · intro k k0 k1
        simp (disch := omega) only [ds_gn, ds_ge]
        rw [f _ _ (by omega) (by omega)]; exact hA.1 k k0 k1
      · intro t t0 t1
        simp (disch := omega) only [ds_gn, ds_ge]
        rw [f _ _ (by omega) (by omega), f _ _ (by omega) (by omega)]; exact hA.2 t t0 t1
      · refine Fr_set (Fr_set (Fr_set (Fr_trans (Fr_mono ?_ hf) (Fr_mono ?_ hf2)) ?_) ?_) ?_
        · intro a j q; unfold DY; omega
        · intro a j q; unfold DY; omega
        · unfold DY; omega
        · unfold DY; omega
        · unfold DY; omega
theorem save_no {P : dsP} {y : Int} {S : dsS} (h : ∀ s, pSv P y s = false) : dsSave P y S = S := by
  unfold dsSave
  have key : ∀ i, ∀ S : dsS, dsIter (fun s S => if pSv P y s = true then dsEmpty S s 0 else S) i (pN P) S = S := by
    refine ds_ind (pN P) ?_ ?_
    · intro i h S; rw [dsIter_end h]
    · intro i hi ih S
      rw [dsIter_step hi, ih, if_neg (by rw [h]; decide)]
  exact key 0 S
/-- what a run has laid up to year y -/
def RI (M0 : dsMem) (x0 : Int) (P : dsP) (f : Int) (S0 : dsS) (y : Int) (M : dsMem) : Prop :=
  (f ≤ y ∧ y ≤ pY P) ∧ (∀ k : Nat, f + k ≤ y → CK M x0 P (f + k) (dsStN P S0 f k) ∧ WS P (dsStN P S0 f k)) ∧
  (∀ k : Nat, f + k < y → M (x0 + 8) (f + k) = dsw (sX (dsStN P S0 f (k + 1))) ∧ M (x0 + 9) (f + k) = dsw (sH (dsStN P S0 f (k + 1)))) ∧
  CAc M x0 P (dsStN P S0 f (y - f).toNat) ∧ KB (dsStN P S0 f (y - f).toNat) (73 * y) ∧ CW M x0 P ∧ CE M x0 P ∧ Fr (fun a _ => x0 + 2 ≤ a ∧ a ≤ x0 + 13) M0 M
theorem RI_step {M0 M M' : dsMem} {x0 f y : Int} {P : dsP} {S0 : dsS} (hP : POK P) (hx : x0 = 47 ∨ x0 = 62) (hf0 : 0 ≤ f) (hsv : ∀ y s, pSv P y s = false) (h : RI M0 x0 P f S0 y M) (hy : y < pY P)
    (h' : CS M x0 y P (73 * y + 73) M' (dsSinks P (dsTaps P y (dsRains P y (dyNew (dsStN P S0 f (y - f).toNat)))))) : RI M0 x0 P f S0 (y + 1) M' := by
  obtain ⟨a, b, c, d, e, g, i, j⟩ := h
  have hN := hP.1
  have hF := h'.2.2.2.2.2
  have ek : dsStN P S0 f ((y - f).toNat + 1) = dsSinks P (dsTaps P y (dsRains P y (dyNew (dsStN P S0 f (y - f).toNat)))) := by
    rw [dsStN]
    unfold dsYear
    rw [show f + ((y - f).toNat : Int) = y by omega, save_no (hsv y)]
  have en : (y + 1 - f).toNat = (y - f).toNat + 1 := by omega
  rw [← ek] at h'
  refine ⟨by omega, ?_, ?_, ?_, ?_, h'.2.2.2.1, h'.2.2.2.2.1, ?_⟩
  · intro k hk
    by_cases hlt : f + k ≤ y
    · exact ⟨CK_fr hP (b k hlt).2 (b k hlt).1 hlt hF, (b k hlt).2⟩
    · have : k = (y - f).toNat + 1 := by omega
      subst this
      rw [show f + (((y - f).toNat + 1 : Nat) : Int) = y + 1 by omega]
      exact ⟨⟨h'.1.1, h'.1.2.1, h'.1.2.2.1⟩, h'.2.1⟩
  · intro k hk
    by_cases hlt : f + k < y
    · rw [hF _ _ (by unfold DY; omega), hF _ _ (by unfold DY; omega)]
      exact c k hlt
    · have : k = (y - f).toNat := by omega
      subst this
      rw [show f + (((y - f).toNat : Nat) : Int) = y by omega]
      exact ⟨h'.1.2.2.2.1, h'.1.2.2.2.2.1⟩
  · rw [en]
    exact ⟨h'.1.2.2.2.2.2.1, h'.1.2.2.2.2.2.2⟩
  · rw [en, show 73 * (y + 1) = 73 * y + 73 by omega]
    exact h'.2.2.1
  · refine Fr_trans j (Fr_mono ?_ hF)
    intro a j q; unfold DY at q; omega
theorem dsShl_b {w : Int} (h : 0 ≤ w ∧ w ≤ 6) : 1 ≤ dsShl 1 w ∧ dsShl 1 w ≤ 64 := by
  have : w = 0 ∨ w = 1 ∨ w = 2 ∨ w = 3 ∨ w = 4 ∨ w = 5 ∨ w = 6 := by omega
  rcases this with e | e | e | e | e | e | e <;> subst e <;> decide
theorem KB_new {S : dsS} {b : Int} (h : KB S b) : KB (dyNew S) b := h
theorem WS_new {P : dsP} {S : dsS} (h : WS P S) : WS P (dyNew S) := h
/-- one round of the run's loop -/
theorem run_1 {M0 M : dsMem} {x0 f y x2 x3 : Int} {P : dsP} {S0 : dsS} {Q : bQT} (hP : POK P) (hx : x0 = 47 ∨ x0 = 62) (hf0 : 0 ≤ f) (hsv : ∀ y s, pSv P y s = false) (h : RI M0 x0 P f S0 y M) (hy : y < pY P) (hgo : ¬ x3 = 0 ∨ x2 = 0)
    (K : ∀ M', RI M0 x0 P f S0 (y + 1) M' → bB 7 37 [uR 5 x0, uX 0, uI x2, uI (if M' (x0 + 7) (y + 1) = dsShl 1 (pW P) - 1 then 1 else 0), uI (y + 1)] [] M' Q) :
    bB 7 37 [uR 5 x0, uX 0, uI x2, uI x3, uI y] [] M Q := by
  have hN := hP.1
  have ha := h.1
  have hk := h.2.1 (y - f).toNat (by omega)
  rw [show f + ((y - f).toNat : Int) = y by omega] at hk
  have hW := h.2.2.2.2.2.1
  have hE := h.2.2.2.2.2.2.1
  have ey := hW.1.2.2.1
  have c1 := copyYear_ct hP hx (by omega) hW hk.2 hk.1 h.2.2.2.1
  have c2 : ∀ M1, (CF M1 x0 y P (dyNew (dsStN P S0 f (y - f).toNat)) ∧ Fr (DY x0 y) M M1) → CS M x0 y P (73 * y) M1 (dyNew (dsStN P S0 f (y - f).toNat)) := by
    intro M1 r1
    exact ⟨r1.1, WS_new hk.2, KB_new h.2.2.2.2.1, CW_fr hx hW r1.2, CE_fr hE (fun a j q => r1.2 a j (by unfold DY; omega)), r1.2⟩
  have fin0 : ∀ M4, CS M x0 y P (73 * y + 73) M4 (dsSinks P (dsTaps P y (dsRains P y (dyNew (dsStN P S0 f (y - f).toNat))))) → (¬ M4 (x0 + 7) (y + 1) = dsShl 1 (M4 24 4) - 1) → bB 7 37 [uR 5 x0, uX 0, uI x2, uI 0, uI (y + 1)] [] M4 Q := by
    intro M4 r4 q
    have := K M4 (RI_step hP hx hf0 hsv h hy r4)
    rw [r4.2.2.2.1.1.2.1] at q
    rw [if_neg q] at this; exact this
  have fin1 : ∀ M4, CS M x0 y P (73 * y + 73) M4 (dsSinks P (dsTaps P y (dsRains P y (dyNew (dsStN P S0 f (y - f).toNat))))) → (M4 (x0 + 7) (y + 1) = dsShl 1 (M4 24 4) - 1) → bB 7 37 [uR 5 x0, uX 0, uI x2, uI 1, uI (y + 1)] [] M4 Q := by
    intro M4 r4 q
    have := K M4 (RI_step hP hx hf0 hsv h hy r4)
    rw [r4.2.2.2.1.1.2.1] at q
    rw [if_pos q] at this; exact this
  have sh : ∀ M4, CS M x0 y P (73 * y + 73) M4 (dsSinks P (dsTaps P y (dsRains P y (dyNew (dsStN P S0 f (y - f).toNat))))) → -2147483648 ≤ dsShl 1 (M4 24 4) - 1 ∧ dsShl 1 (M4 24 4) - 1 < 2147483648 := by
    intro M4 r4
    rw [r4.2.2.2.1.1.2.1]
    have := @dsShl_b (pW P) (by omega)
    omega
  refine r7_37 (k1 := fun q1 => by omega) (s1 := fun q1 => by omega) (k4 := fun q1 q2 q3 => by omega) (s6 := fun q1 q2 q3 => by omega)
    (hA1 := fun q1 q2 => c1) (hA2 := fun q1 q2 M1 r1 => rains_ct hP hx (by omega) (c2 M1 r1)) (hA3 := fun q1 q2 M1 r1 M2 r2 => taps_ct hP hx (by omega) r2) (hA4 := fun q1 q2 M1 r1 M2 r2 M3 r3 => sinks_ct hP hx (by omega) (by omega) r3)
    (k2 := fun q1 q2 M1 r1 M2 r2 M3 r3 M4 r4 q => fin0 M4 r4 q) (k3 := fun q1 q2 M1 r1 M2 r2 M3 r3 M4 r4 q => fin1 M4 r4 q) (s3 := fun q1 q2 M1 r1 M2 r2 M3 r3 M4 r4 => sh M4 r4)
    (hA5 := fun q1 q2 q3 => c1) (hA6 := fun q1 q2 q3 M1 r1 => rains_ct hP hx (by omega) (c2 M1 r1)) (hA7 := fun q1 q2 q3 M1 r1 M2 r2 => taps_ct hP hx (by omega) r2) (hA8 := fun q1 q2 q3 M1 r1 M2 r2 M3 r3 => sinks_ct hP hx (by omega) (by omega) r3)
    (k5 := fun q1 q2 q3 M1 r1 M2 r2 M3 r3 M4 r4 q => fin0 M4 r4 q) (k6 := fun q1 q2 q3 M1 r1 M2 r2 M3 r3 M4 r4 q => fin1 M4 r4 q) (s8 := fun q1 q2 q3 M1 r1 M2 r2 M3 r3 M4 r4 => sh M4 r4)
/-- the whole run's loop -/
theorem run_all {M0 : dsMem} {x0 f : Int} {P : dsP} {S0 : dsS} {Q : bQT} (hP : POK P) (hx : x0 = 47 ∨ x0 = 62) (hf0 : 0 ≤ f) (hsv : ∀ y s, pSv P y s = false)
    (K : ∀ M' x3, RI M0 x0 P f S0 (pY P) M' → (x3 = 0 ∨ x3 = 1) → (x3 = 1 ↔ M' (x0 + 7) (pY P) = dsShl 1 (pW P) - 1) → Q [uI x3] M') :
    ∀ y M x3, RI M0 x0 P f S0 y M → (x3 = 0 ∨ x3 = 1) → (x3 = 1 ↔ M (x0 + 7) y = dsShl 1 (pW P) - 1) → bB 7 37 [uR 5 x0, uX 0, uI 0, uI x3, uI y] [] M Q := by
  refine ds_ind (pY P) ?_ ?_
  · intro y hy M x3 h h01 hi
    have ha := h.1
    have ey := h.2.2.2.2.2.1.1.2.2.1
    have : y = pY P := by omega
    subst this
    refine r7_37 (k1 := fun q1 => K M x3 h h01 hi) (s1 := fun q1 => h01) (k4 := fun q1 q2 q3 => by omega) (s6 := fun q1 q2 q3 => by omega)
      (hA1 := fun q1 => by omega) (hA2 := fun q1 => by omega) (hA3 := fun q1 => by omega) (hA4 := fun q1 => by omega) (k2 := fun q1 => by omega) (k3 := fun q1 => by omega) (s3 := fun q1 => by omega)
      (hA5 := fun q1 => by omega) (hA6 := fun q1 => by omega) (hA7 := fun q1 => by omega) (hA8 := fun q1 => by omega) (k5 := fun q1 => by omega) (k6 := fun q1 => by omega) (s8 := fun q1 => by omega)
      (R1 := fun _ => True) (R2 := fun _ _ => True) (R3 := fun _ _ _ => True) (R4 := fun _ _ _ _ => True) (R5 := fun _ => True) (R6 := fun _ _ => True) (R7 := fun _ _ _ => True) (R8 := fun _ _ _ _ => True)
  · intro y hy ih M x3 h h01 hi
    refine run_1 hP hx hf0 hsv h hy (Or.inr rfl) (fun M' r => ih M' _ r ?_ ?_)
    · exact (b_01 _).elim Or.inl Or.inr
    · split
      · rename_i q; exact ⟨fun _ => q, fun _ => rfl⟩
      · rename_i q; exact ⟨fun e => by omega, fun e => absurd e q⟩
