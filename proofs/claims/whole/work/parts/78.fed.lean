/-! feed, end, fault on both sides -/
theorem dsB_b (x : Int) : -128 ≤ dsB x ∧ dsB x ≤ 127 := by
  unfold dsB
  obtain ⟨z, hz⟩ : ∃ z, (Int32.ofInt x).toInt8 = z := ⟨_, rfl⟩
  rw [hz, Int8.toInt_toInt32]
  have h1 := Int8.le_toInt z
  have h2 := Int8.toInt_lt z
  omega
def FB (c : Int) : Int → Int → Prop := fun a j => (a = 1 ∧ j = 0) ∨ (a = 2 ∧ c ≤ j)
theorem add_ct {M : dsMem} {x c : Int} (hc : M 1 0 = c) (h : 0 ≤ c ∧ c + 4 ≤ 600) : bCt 44 [uR 6 1, uI x, uX 0] M (fun _ => []) (fun M' => M' 1 0 = c + 4 ∧ (∀ k, 0 ≤ k → k < 4 → M' 2 (c + k) = dsB (dsShr x (24 - 8 * k))) ∧ Fr (FB c) M M') := by
  intro Q hQ
  refine r44_0 (k1 := ?_)
  refine b_loop (fun (k : Int) => [uR 6 1, uI x, uI (24 - 8 * k)]) (fun k M' => (0 ≤ k ∧ k ≤ 4) ∧ M' 1 0 = c + k ∧ (∀ i, 0 ≤ i → i < k → M' 2 (c + i) = dsB (dsShr x (24 - 8 * i))) ∧ Fr (FB c) M M') (fun k => (4 - k).toNat) ?_ 0 M ⟨by omega, by omega, fun i i0 i1 => by omega, Fr_refl⟩
  rintro k M1 ⟨hk, h0, hi, hF⟩ ih
  show bB 44 3 [uR 6 1, uI x, uI (24 - 8 * k)] [] M1 Q
  have fin : 4 ≤ k → Q [] M1 := fun q => by
    have e : k = 4 := by omega
    subst e
    exact hQ M1 ⟨h0, hi, hF⟩
  refine r44_3 (k1 := fun q => fin (by omega)) (k2 := fun q1 q2 => by omega) (s1 := fun q1 q2 => by omega) (s2 := fun q1 q2 => dsB_b _) (s3 := fun q1 q2 => by omega) (s4 := fun q1 q2 => by omega) (k3 := fun q1 q2 => ?_)
  rw [h0, show 24 - 8 * k + -8 = 24 - 8 * (k + 1) by omega]
  refine ih (k + 1) _ (by show (4 - (k + 1)).toNat < (4 - k).toNat; omega) ⟨by omega, by rw [ds_ge ⟨rfl, rfl⟩]; omega, fun i i0 i1 => ?_, Fr_set (Fr_set hF (by unfold FB; omega)) (by unfold FB; omega)⟩
  by_cases e : i = k
  · subst e; rw [ds_gn (by omega), ds_ge ⟨rfl, rfl⟩]
  · rw [ds_gn (by omega), ds_gn (by omega)]; exact hi i i0 (by omega)
def aFd (n : Int) : Int := if n + 20 ≤ 600 then n + 20 else -1
def nFd (n : Int) : Int := if n + 20 ≤ 600 then n + 20 else n
def bFd (n : Int) (b x : Int → Int) : Int → Int := if n + 20 ≤ 600 then fdB b n x else b
def FTp : Int → Int → Prop := fun a j => (a = 1 ∧ j = 0) ∨ a = 2
theorem cq69 {M : dsMem} {n flt plc y1 y2 y3 y4 y5 : Int} {b : Int → Int} (h : CTt M n b flt plc) : bCt 69 [uR 10 0, uI y1, uI y2, uI y3, uI y4, uI y5] M (fun _ => [uI (aFd n)]) (fun M' => CTt M' (nFd n) (bFd n b (x5 y1 y2 y3 y4 y5)) flt plc ∧ Fr FTp M M') := by
  intro Q hQ
  have e0 := h.1.1
  have h600 := h.1.2.1
  have fb : ∀ {c : Int} {M M' : dsMem}, Fr (FB c) M M' → Fr FTp M M' := fun h => Fr_mono (fun a j q => by unfold FB at q; unfold FTp; omega) h
  refine r69_0 (s1 := by omega) (hA1 := fun q => add_ct (c := n) e0 (by omega)) (hA2 := fun q M1 r1 => add_ct (c := n + 4) r1.1 (by omega)) (hA3 := fun q M1 r1 M2 r2 => add_ct (c := n + 8) (by rw [r2.1]; omega) (by omega)) (hA4 := fun q M1 r1 M2 r2 M3 r3 => add_ct (c := n + 12) (by rw [r3.1]; omega) (by omega)) (hA5 := fun q M1 r1 M2 r2 M3 r3 M4 r4 => add_ct (c := n + 16) (by rw [r4.1]; omega) (by omega)) (k1 := fun q M1 r1 M2 r2 M3 r3 M4 r4 M5 r5 => ?_) (k2 := fun q => ?_)
  · have hF : Fr FTp M M5 := Fr_trans (Fr_trans (Fr_trans (Fr_trans (fb r1.2.2) (fb r2.2.2)) (fb r3.2.2)) (fb r4.2.2)) (fb r5.2.2)
    have qn : n + 20 ≤ 600 := by omega
    refine q_eq ?_ (hQ M5 ⟨⟨⟨?_, ?_, fun j j0 j1 => ?_⟩, ?_, ?_⟩, hF⟩)
    · unfold aFd; rw [if_pos qn, r5.1]; omega
    · unfold nFd; rw [if_pos qn, r5.1]; omega
    · unfold nFd; rw [if_pos qn]; omega
    · unfold nFd at j1
      rw [if_pos qn] at j1
      unfold bFd fdB
      rw [if_pos qn]
      by_cases hj : n ≤ j
      · rw [if_pos ⟨hj, j1⟩]
        have hc : j < n + 4 ∨ (n + 4 ≤ j ∧ j < n + 8) ∨ (n + 8 ≤ j ∧ j < n + 12) ∨ (n + 12 ≤ j ∧ j < n + 16) ∨ (n + 16 ≤ j ∧ j < n + 20) := by omega
        rcases hc with c | c | c | c | c
        · rw [r5.2.2 _ _ (by unfold FB; omega), r4.2.2 _ _ (by unfold FB; omega), r3.2.2 _ _ (by unfold FB; omega), r2.2.2 _ _ (by unfold FB; omega)]
          have := r1.2.1 (j - n) (by omega) (by omega)
          rw [show n + (j - n) = j by omega] at this
          rw [this, show (j - n) / 4 = 0 by omega, show (j - n) % 4 = j - n by omega]; rfl
        · rw [r5.2.2 _ _ (by unfold FB; omega), r4.2.2 _ _ (by unfold FB; omega), r3.2.2 _ _ (by unfold FB; omega)]
          have := r2.2.1 (j - n - 4) (by omega) (by omega)
          rw [show n + 4 + (j - n - 4) = j by omega] at this
          rw [this, show (j - n) / 4 = 1 by omega, show (j - n) % 4 = j - n - 4 by omega]; rfl
        · rw [r5.2.2 _ _ (by unfold FB; omega), r4.2.2 _ _ (by unfold FB; omega)]
          have := r3.2.1 (j - n - 8) (by omega) (by omega)
          rw [show n + 8 + (j - n - 8) = j by omega] at this
          rw [this, show (j - n) / 4 = 2 by omega, show (j - n) % 4 = j - n - 8 by omega]; rfl
        · rw [r5.2.2 _ _ (by unfold FB; omega)]
          have := r4.2.1 (j - n - 12) (by omega) (by omega)
          rw [show n + 12 + (j - n - 12) = j by omega] at this
          rw [this, show (j - n) / 4 = 3 by omega, show (j - n) % 4 = j - n - 12 by omega]; rfl
        · have := r5.2.1 (j - n - 16) (by omega) (by omega)
          rw [show n + 16 + (j - n - 16) = j by omega] at this
          rw [this, show (j - n) / 4 = 4 by omega, show (j - n) % 4 = j - n - 16 by omega]; rfl
      · rw [if_neg (by omega), r5.2.2 _ _ (by unfold FB; omega), r4.2.2 _ _ (by unfold FB; omega), r3.2.2 _ _ (by unfold FB; omega), r2.2.2 _ _ (by unfold FB; omega), r1.2.2 _ _ (by unfold FB; omega)]
        exact h.1.2.2 j j0 (by omega)
    · rw [hF _ _ (by unfold FTp; omega)]; exact h.2.1
    · rw [hF _ _ (by unfold FTp; omega)]; exact h.2.2
  · have qn : ¬ n + 20 ≤ 600 := by omega
    refine q_eq ?_ (hQ M ⟨by unfold nFd bFd; rw [if_neg qn, if_neg qn]; exact h, Fr_refl⟩)
    unfold aFd; rw [if_neg qn]
def aEn (n x : Int) : Int := if 0 ≤ x ∧ x ≤ n then x else -1
def nEn (n x : Int) : Int := if 0 ≤ x ∧ x ≤ n then x else n
theorem cq70 {M : dsMem} {n flt plc x : Int} {b : Int → Int} (h : CTt M n b flt plc) : bCt 70 [uR 10 0, uI x] M (fun _ => [uI (aEn n x)]) (fun M' => CTt M' (nEn n x) b flt plc ∧ Fr FTp M M') := by
  intro Q hQ
  have e0 := h.1.1
  have h600 := h.1.2.1
  have no : ¬ (0 ≤ x ∧ x ≤ n) → Q [uI (-1)] M := fun q => q_eq (by unfold aEn; rw [if_neg q]) (hQ M ⟨by unfold nEn; rw [if_neg q]; exact h, Fr_refl⟩)
  refine r70_0 (k1 := fun q => no (by omega)) (k2 := fun q1 q2 => ?_) (k3 := fun q1 q2 => no (by omega))
  have q : 0 ≤ x ∧ x ≤ n := by omega
  refine q_eq (by unfold aEn; rw [if_pos q]) (hQ _ ⟨?_, Fr_set Fr_refl (by unfold FTp; omega)⟩)
  unfold nEn
  rw [if_pos q]
  exact ⟨⟨by rw [ds_ge ⟨rfl, rfl⟩], by omega, fun i i0 i1 => by rw [ds_gn (by omega)]; exact h.1.2.2 i i0 (by omega)⟩, by rw [ds_gn (by omega)]; exact h.2.1, by rw [ds_gn (by omega)]; exact h.2.2⟩
def aFl (flt plc x : Int) : Int := if x = 0 then flt else if x = 1 then plc else -1
theorem cq72 {M : dsMem} {n flt plc x : Int} {b : Int → Int} (h : CTt M n b flt plc) : bCt 72 [uR 10 0, uI x] M (fun _ => [uI (aFl flt plc x)]) (fun M' => M' = M) := by
  intro Q hQ
  refine r72_0 (k1 := fun q1 q2 => q_eq ?_ (hQ M rfl)) (k2 := fun q1 q2 => q_eq ?_ (hQ M rfl)) (k3 := fun q => q_eq ?_ (hQ M rfl))
  · unfold aFl; rw [if_neg q1, if_neg q2]
  · unfold aFl; rw [if_neg q1, if_pos q2]; exact h.2.2
  · unfold aFl; rw [if_pos q]; exact h.2.1
/-- the reference's tape -/
def RTt (M : dsMem) (n : Int) (b : Int → Int) (flt plc : Int) : Prop := M 84 5 = n ∧ (0 ≤ n ∧ n ≤ 600) ∧ (∀ i, 0 ≤ i → i < n → M 88 i = b i ∧ -128 ≤ b i ∧ b i ≤ 127) ∧ M 84 12 = flt ∧ M 84 13 = plc
def FRp : Int → Int → Prop := fun a j => (a = 84 ∧ j = 5) ∨ a = 88 ∨ a = 89
theorem rq194 {M : dsMem} {n flt plc y1 y2 y3 y4 y5 : Int} {b : Int → Int} (h : RTt M n b flt plc) : bCt 194 [uR 11 84, uI y1, uI y2, uI y3, uI y4, uI y5, uX 0] M (fun _ => [uI (aFd n)]) (fun M' => RTt M' (nFd n) (bFd n b (x5 y1 y2 y3 y4 y5)) flt plc ∧ Fr FRp M M') := by
  intro Q hQ
  have e0 := h.1
  have h600 := h.2.1
  refine r194_0 (s1 := by omega) (k1 := fun q => ?_) (k2 := fun q => ?_)
  · have qn : n + 20 ≤ 600 := by omega
    refine b_loop (fun (k : Int) => [uR 11 84, uX 0, uX 0, uX 0, uX 0, uX 0, uI k]) (fun k M' => (0 ≤ k ∧ k ≤ 20) ∧ (∀ i, 0 ≤ i → i < 5 → M' 89 i = x5 y1 y2 y3 y4 y5 i) ∧ (∀ i, 0 ≤ i → i < k → M' 88 (n + i) = dsB (dsShr (x5 y1 y2 y3 y4 y5 (i / 4)) (24 - 8 * (i % 4)))) ∧ Fr (fun a j => a = 89 ∨ (a = 88 ∧ n ≤ j)) M M') (fun k => (20 - k).toNat) ?_ 0 _ ⟨by omega, fun i i0 i1 => ?_, fun i i0 i1 => by omega, Fr_set (Fr_set (Fr_set (Fr_set (Fr_set Fr_refl (by omega)) (by omega)) (by omega)) (by omega)) (by omega)⟩
    · rintro k M1 ⟨hk, h5, hi, hF⟩ ih
      have e5 : M1 84 5 = n := by rw [hF _ _ (by omega)]; exact e0
      show bB 194 55 [uR 11 84, uX 0, uX 0, uX 0, uX 0, uX 0, uI k] [] M1 Q
      refine r194_55 (s1 := fun u => by omega) (k1 := fun u => ?_) (s2 := fun u => by omega) (s3 := fun u => by omega) (s4 := fun u => by omega) (s5 := fun u => by omega) (s6 := fun u => by omega) (s7 := fun u => dsB_b _) (s8 := fun u => by omega) (k2 := fun u => ?_)
      · have ek : k = 20 := by omega
        subst ek
        refine q_eq ?_ (hQ _ ⟨⟨?_, ?_, fun j j0 j1 => ?_, ?_, ?_⟩, Fr_set (Fr_mono (fun a j w => by unfold FRp; omega) hF) (by unfold FRp; omega)⟩)
        · unfold aFd; rw [if_pos qn]; omega
        · unfold nFd; rw [if_pos qn, ds_ge ⟨rfl, rfl⟩]; omega
        · unfold nFd; rw [if_pos qn]; omega
        · unfold nFd at j1
          rw [if_pos qn] at j1
          unfold bFd fdB
          rw [if_pos qn, ds_gn (by omega)]
          by_cases hj : n ≤ j
          · rw [if_pos ⟨hj, j1⟩]
            have := hi (j - n) (by omega) (by omega)
            rw [show n + (j - n) = j by omega] at this
            exact ⟨this, dsB_b _⟩
          · rw [if_neg (by omega), hF _ _ (by omega)]; exact h.2.2.1 j j0 (by omega)
        · rw [ds_gn (by omega), hF _ _ (by omega)]; exact h.2.2.2.1
        · rw [ds_gn (by omega), hF _ _ (by omega)]; exact h.2.2.2.2
      · rw [e5]
        refine ih (k + 1) _ (by show (20 - (k + 1)).toNat < (20 - k).toNat; omega) ⟨by omega, fun i i0 i1 => by rw [ds_gn (by omega)]; exact h5 i i0 i1, fun i i0 i1 => ?_, Fr_set hF (by omega)⟩
        by_cases e : i = k
        · subst e; rw [ds_ge ⟨rfl, rfl⟩, h5 _ (by omega) (by omega)]
        · rw [ds_gn (by omega)]; exact hi i i0 (by omega)
    · have hi : i = 0 ∨ i = 1 ∨ i = 2 ∨ i = 3 ∨ i = 4 := by omega
      rcases hi with e | e | e | e | e
      · subst e; rw [ds_gn (by omega), ds_gn (by omega), ds_gn (by omega), ds_gn (by omega), ds_ge ⟨rfl, rfl⟩]; rfl
      · subst e; rw [ds_gn (by omega), ds_gn (by omega), ds_gn (by omega), ds_ge ⟨rfl, rfl⟩]; rfl
      · subst e; rw [ds_gn (by omega), ds_gn (by omega), ds_ge ⟨rfl, rfl⟩]; rfl
      · subst e; rw [ds_gn (by omega), ds_ge ⟨rfl, rfl⟩]; rfl
      · subst e; rw [ds_ge ⟨rfl, rfl⟩]; rfl
  · have qn : ¬ n + 20 ≤ 600 := by omega
    refine q_eq ?_ (hQ M ⟨by unfold nFd bFd; rw [if_neg qn, if_neg qn]; exact h, Fr_refl⟩)
    unfold aFd; rw [if_neg qn]
theorem rq195 {M : dsMem} {n flt plc x : Int} {b : Int → Int} (h : RTt M n b flt plc) : bCt 195 [uR 11 84, uI x] M (fun _ => [uI (aEn n x)]) (fun M' => RTt M' (nEn n x) b flt plc ∧ Fr FRp M M') := by
  intro Q hQ
  have e0 := h.1
  have h600 := h.2.1
  refine r195_0 (k1 := fun q => ?_) (k2 := fun q => ?_)
  · have q' : 0 ≤ x ∧ x ≤ n := by omega
    refine q_eq (by unfold aEn; rw [if_pos q']) (hQ _ ⟨?_, Fr_set Fr_refl (by unfold FRp; omega)⟩)
    unfold nEn
    rw [if_pos q']
    exact ⟨by rw [ds_ge ⟨rfl, rfl⟩], by omega, fun i i0 i1 => by rw [ds_gn (by omega)]; exact h.2.2.1 i i0 (by omega), by rw [ds_gn (by omega)]; exact h.2.2.2.1, by rw [ds_gn (by omega)]; exact h.2.2.2.2⟩
  · have q' : ¬ (0 ≤ x ∧ x ≤ n) := by omega
    exact q_eq (by unfold aEn; rw [if_neg q']) (hQ M ⟨by unfold nEn; rw [if_neg q']; exact h, Fr_refl⟩)
theorem rq205 {M : dsMem} {n flt plc x : Int} {b : Int → Int} (h : RTt M n b flt plc) : bCt 205 [uR 11 84, uI x] M (fun _ => [uI (aFl flt plc x)]) (fun M' => M' = M) := by
  intro Q hQ
  refine r205_0 (k1 := fun q1 q2 => q_eq ?_ (hQ M rfl)) (k2 := fun q1 q2 => q_eq ?_ (hQ M rfl)) (k3 := fun q => q_eq ?_ (hQ M rfl))
  · unfold aFl; rw [if_neg q1, if_neg q2]
  · unfold aFl; rw [if_neg q1, if_pos q2]; exact h.2.2.2.2
  · unfold aFl; rw [if_pos q]; exact h.2.2.2.1
