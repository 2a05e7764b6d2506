/-! the flow's year: rain, taps, walls -/
theorem dsUpd_self {α : Type} (f : Int → α) (i : Int) : dsUpd f i (f i) = f := by
  funext j
  unfold dsUpd
  split
  · rename_i h; rw [h]
  · rfl
theorem b_itS {m pc : Nat} {Q : bQT} (n : Int) (ls : Int → List dsU) (f : Int → dsS → dsS) (C : dsMem → dsS → Prop) (S0 : dsS)
    (hs : ∀ i M S, 0 ≤ i → i < n → C M S → (∀ M', C M' (f i S) → bB m pc (ls (i + 1)) [] M' Q) → bB m pc (ls i) [] M Q)
    (he : ∀ i M, 0 ≤ i → ¬ i < n → C M (dsIter f 0 n S0) → bB m pc (ls i) [] M Q) (M0 : dsMem) (h : C M0 S0) : bB m pc (ls 0) [] M0 Q := by
  refine b_forM n ls (fun i M => 0 ≤ i ∧ ∃ S, C M S ∧ dsIter f i n S = dsIter f 0 n S0) ?_ ?_ 0 M0 ⟨by omega, S0, h, rfl⟩
  · rintro i M ⟨i0, S, hC, e⟩ hi ih
    exact hs i M S i0 hi hC (fun M' hC' => ih M' ⟨by omega, f i S, hC', by rw [← dsIter_step hi]; exact e⟩)
  · rintro i M ⟨i0, S, hC, e⟩ hi
    rw [dsIter_end hi] at e
    subst e
    exact he i M i0 hi hC
/-- what was told and done, as the flow at x0 sees it -/
def CE (M : dsMem) (x0 : Int) (P : dsP) : Prop :=
  (0 ≤ M 30 0 ∧ M 30 0 ≤ 8 ∧ 0 ≤ M 35 0 ∧ M 35 0 ≤ 6 ∧ 0 ≤ M 40 0 ∧ M 40 0 ≤ 30) ∧ pRn P = M 30 0 + M 40 0 ∧ pTn P = M 35 0 + M 40 0 ∧
  (∀ y i, 0 ≤ i → i < M 30 0 → pRf P y i = if dsBit (M (x0 + 1) 1) i ∧ M 34 i = y then some (M 32 i, M 33 i) else none) ∧
  (∀ y i, M 30 0 ≤ i → i < M 30 0 + M 40 0 → pRf P y i = if M 41 (i - M 30 0) = 0 ∧ M 44 (i - M 30 0) = y then some (M 42 (i - M 30 0), M 43 (i - M 30 0)) else none) ∧
  (∀ y i, 0 ≤ i → i < M 35 0 → pTf P y i = if dsBit (M (x0 + 1) 2) i ∧ M 39 i = y then some (M 37 i, M 38 i) else none) ∧
  (∀ y i, M 35 0 ≤ i → i < M 35 0 + M 40 0 → pTf P y i = if M 41 (i - M 35 0) = 1 ∧ M 44 (i - M 35 0) = y then some (M 42 (i - M 35 0), M 43 (i - M 35 0)) else none)
theorem CE_fr {M M' : dsMem} {x0 : Int} {P : dsP} (h : CE M x0 P) (e : ∀ a j, (30 ≤ a ∧ a ≤ 44) ∨ a = x0 + 1 → M' a j = M a j) : CE M' x0 P := by
  unfold CE at h ⊢
  simp only [e 30 _ (by omega), e 35 _ (by omega), e 40 _ (by omega), e (x0 + 1) _ (by omega), e 34 _ (by omega), e 32 _ (by omega), e 33 _ (by omega), e 41 _ (by omega), e 44 _ (by omega), e 42 _ (by omega), e 43 _ (by omega), e 39 _ (by omega), e 37 _ (by omega), e 38 _ (by omega)]
  exact h
def KB (S : dsS) (b : Int) : Prop := ∀ w, 0 ≤ w → w < 3 → 0 ≤ sK S w ∧ sK S w ≤ b
/-- all that holds while a year goes -/
def CS (M0 : dsMem) (x0 y : Int) (P : dsP) (b : Int) (M : dsMem) (S : dsS) : Prop := CF M x0 y P S ∧ WS P S ∧ KB S b ∧ CW M x0 P ∧ CE M x0 P ∧ Fr (DY x0 y) M0 M
theorem CS_mk {M0 M M' : dsMem} {x0 y b : Int} {P : dsP} {S S' : dsS} (hx : x0 = 47 ∨ x0 = 62) (h : CS M0 x0 y P b M S) (h1 : CF M' x0 y P S') (h2 : WS P S') (h3 : KB S' b) (h4 : Fr (DY x0 y) M M') : CS M0 x0 y P b M' S' :=
  ⟨h1, h2, h3, CW_fr hx h.2.2.2.1 h4, CE_fr h.2.2.2.2.1 (fun a j q => h4 a j (by unfold DY; omega)), Fr_trans h.2.2.2.2.2 h4⟩
theorem drkN_inv {P : dsP} {first k : Int} (hP : POK P) (hk : 1 ≤ k ∧ k ≤ 5) : ∀ (j : Nat) (s : Int) (S : dsS) (r : Int), j = (pN P - s).toNat → 0 ≤ s → 0 ≤ r → WS P S →
    WS P (dsDrkN P first k j s S r).1 ∧ sK (dsDrkN P first k j s S r).1 = sK S ∧ sU (dsDrkN P first k j s S r).1 = sU S ∧ 0 ≤ (dsDrkN P first k j s S r).2 ∧ (dsDrkN P first k j s S r).2 ≤ r
  | 0, s, S, r, _, _, hr, hS => ⟨hS, rfl, rfl, hr, Int.le_refl _⟩
  | j + 1, s, S, r, hj, hs, hr, hS => by
    rw [dsDrkN]
    split
    · exact ⟨hS, rfl, rfl, hr, Int.le_refl _⟩
    · split
      · split
        · have hw := WS_pour (s := s) (k := k) hP hS (by omega) hk hr
          have ih := drkN_inv (first := first) hP hk j (s + 1) (dsPour P S s k r).1 (dsPour P S s k r).2 (by omega) (by omega) hw.2.1 hw.1
          have ek : sK (dsPour P S s k r).1 = sK S := by unfold dsPour; split <;> rfl
          exact ⟨ih.1, ih.2.1.trans ek, ih.2.2.1.trans hw.2.2.2, ih.2.2.2.1, by omega⟩
        · exact ⟨hS, rfl, rfl, hr, Int.le_refl _⟩
      · exact drkN_inv hP hk j (s + 1) S r (by omega) (by omega) hr hS
theorem drink_inv {P : dsP} {S : dsS} {first k n : Int} (hP : POK P) (hk : 1 ≤ k ∧ k ≤ 5) (hf : 0 ≤ first) (hn : 0 ≤ n) (hS : WS P S) : WS P (dsDrink P S first k n) ∧ sK (dsDrink P S first k n) = sK S ∧ sU (dsDrink P S first k n) = sU S := by
  have h := drkN_inv (first := first) hP hk _ first S n rfl hf hn hS
  exact ⟨h.1, h.2.1, h.2.2.1⟩
theorem drink_cs {M0 M : dsMem} {x0 y b k n first : Int} {P : dsP} {S : dsS} (hP : POK P) (hx : x0 = 47 ∨ x0 = 62) (hy : 0 ≤ y ∧ y < 12) (hk : 1 ≤ k ∧ k ≤ 5) (hf0 : 0 ≤ first ∧ first < pN P) (hn : 0 ≤ n ∧ n ≤ 80) (h : CS M0 x0 y P b M S) :
    bCt 14 [uR 5 x0, uI y, uI first, uI k, uI n, uX 0, uX 0] M (fun _ => []) (fun M' => CS M0 x0 y P b M' (dsDrink P S first k n)) := by
  intro Q hQ
  have hi := drink_inv (S := S) (n := n) hP hk hf0.1 hn.1 h.2.1
  refine drink_ct hP hx hy hk hf0 hn h.2.2.2.1 h.1 h.2.1 Q (fun M1 r1 => hQ M1 (CS_mk hx h r1.1 hi.1 ?_ r1.2))
  intro w w0 w1
  rw [hi.2.1]
  exact h.2.2.1 w w0 w1
theorem wide_le {n w : Int} (hn : 1 ≤ n ∧ n ≤ 20) (hw : 1 ≤ w ∧ w ≤ 4) : 0 ≤ n * w ∧ n * w ≤ 80 := by
  have h1 : n * w ≤ 20 * w := Int.mul_le_mul_of_nonneg_right hn.2 (by omega)
  have h2 : 0 ≤ n * w := Int.mul_nonneg (by omega) (by omega)
  omega
theorem rain_a {M0 M : dsMem} {x0 y b i t x6 k n : Int} {P : dsP} {S : dsS} {Q : bQT} (hP : POK P) (hx : x0 = 47 ∨ x0 = 62) (hy : 0 ≤ y ∧ y < 12) (hk : 1 ≤ k ∧ k ≤ 5) (hn : 1 ≤ n ∧ n ≤ 20) (h6 : 0 ≤ x6 ∧ x6 < 8) (hi : 0 ≤ i ∧ i < 1000)
    (e1 : M 32 x6 = k) (e2 : M 33 x6 = n) (h : CS M0 x0 y P b M S)
    (K : ∀ M', CS M0 x0 y P b M' (dsRain P k n S) → bB 13 13 [uR 5 x0, uI y, uI t, uI (i + 1), uX 0, uX 0, uX 0, uX 0, uX 0] [] M' Q) :
    bB 13 137 [uR 5 x0, uI y, uI t, uI i, uX 0, uR 1 30, uI x6, uX 0, uI 0] [] M Q := by
  have hN := hP.1
  refine b_itS (pN P) (fun s => [uR 5 x0, uI y, uI t, uI i, uX 0, uR 1 30, uI x6, uX 0, uI s]) (fun s S => dsDrink P S s k (n * pWide P s)) (fun M' S' => CS M0 x0 y P b M' S' ∧ M' 32 x6 = k ∧ M' 33 x6 = n) S ?_ ?_ M ⟨h, e1, e2⟩
  · rintro s M1 S1 s0 s1 ⟨hc, g1, g2⟩ ih
    have ew := hc.2.2.2.1.2.1 s s0 s1
    have hst := hP.2.1 s s0 s1
    have hm := wide_le hn ⟨hst.2.2.1, hst.2.2.2.1⟩
    have e5 := hc.2.2.2.1.1.1
    refine r13_137 (k1 := fun q1 => by omega) (R1 := fun M' => CS M0 x0 y P b M' (dsDrink P S1 s k (n * pWide P s)) ∧ M' 32 x6 = k ∧ M' 33 x6 = n) (hA1 := fun q1 => ?_) (k2 := fun q1 M2 r2 => ih M2 r2)
    rw [g1, g2, ew.2.1, dsw_id (by omega) (by omega)]
    intro Q' hQ'
    refine drink_ct hP hx hy hk ⟨s0, s1⟩ hm hc.2.2.2.1 hc.1 hc.2.1 Q' (fun M2 r2 => hQ' M2 ⟨CS_mk hx hc r2.1 ?_ ?_ r2.2, ?_, ?_⟩)
    · exact (drink_inv hP hk s0 hm.1 hc.2.1).1
    · intro w w0 w1
      rw [(drink_inv hP hk s0 hm.1 hc.2.1).2.1]
      exact hc.2.2.1 w w0 w1
    · rw [r2.2 _ _ (by unfold DY; omega)]; exact g1
    · rw [r2.2 _ _ (by unfold DY; omega)]; exact g2
  · rintro s M1 s0 s1 ⟨hc, g1, g2⟩
    have e5 := hc.2.2.2.1.1.1
    refine r13_137 (k1 := fun q1 => K M1 hc) (R1 := fun _ => True) (hA1 := fun q1 => by omega) (k2 := fun q1 M2 r2 => by omega)
theorem rain_b {M0 M : dsMem} {x0 y b i t x6 k n : Int} {P : dsP} {S : dsS} {Q : bQT} (hP : POK P) (hx : x0 = 47 ∨ x0 = 62) (hy : 0 ≤ y ∧ y < 12) (hk : 1 ≤ k ∧ k ≤ 5) (hn : 1 ≤ n ∧ n ≤ 20) (h6 : 0 ≤ x6 ∧ x6 < 30) (hi : 0 ≤ i ∧ i < 1000)
    (e1 : M 42 x6 = k) (e2 : M 43 x6 = n) (h : CS M0 x0 y P b M S)
    (K : ∀ M', CS M0 x0 y P b M' (dsRain P k n S) → bB 13 13 [uR 5 x0, uI y, uI t, uI (i + 1), uX 0, uX 0, uX 0, uX 0, uX 0] [] M' Q) :
    bB 13 137 [uR 5 x0, uI y, uI t, uI i, uX 0, uR 3 40, uI x6, uX 0, uI 0] [] M Q := by
  have hN := hP.1
  refine b_itS (pN P) (fun s => [uR 5 x0, uI y, uI t, uI i, uX 0, uR 3 40, uI x6, uX 0, uI s]) (fun s S => dsDrink P S s k (n * pWide P s)) (fun M' S' => CS M0 x0 y P b M' S' ∧ M' 42 x6 = k ∧ M' 43 x6 = n) S ?_ ?_ M ⟨h, e1, e2⟩
  · rintro s M1 S1 s0 s1 ⟨hc, g1, g2⟩ ih
    have ew := hc.2.2.2.1.2.1 s s0 s1
    have hst := hP.2.1 s s0 s1
    have hm := wide_le hn ⟨hst.2.2.1, hst.2.2.2.1⟩
    have e5 := hc.2.2.2.1.1.1
    refine r13_137b (k1 := fun q1 => by omega) (R1 := fun M' => CS M0 x0 y P b M' (dsDrink P S1 s k (n * pWide P s)) ∧ M' 42 x6 = k ∧ M' 43 x6 = n) (hA1 := fun q1 => ?_) (k2 := fun q1 M2 r2 => ih M2 r2)
    rw [g1, g2, ew.2.1, dsw_id (by omega) (by omega)]
    intro Q' hQ'
    refine drink_ct hP hx hy hk ⟨s0, s1⟩ hm hc.2.2.2.1 hc.1 hc.2.1 Q' (fun M2 r2 => hQ' M2 ⟨CS_mk hx hc r2.1 ?_ ?_ r2.2, ?_, ?_⟩)
    · exact (drink_inv hP hk s0 hm.1 hc.2.1).1
    · intro w w0 w1
      rw [(drink_inv hP hk s0 hm.1 hc.2.1).2.1]
      exact hc.2.2.1 w w0 w1
    · rw [r2.2 _ _ (by unfold DY; omega)]; exact g1
    · rw [r2.2 _ _ (by unfold DY; omega)]; exact g2
  · rintro s M1 s0 s1 ⟨hc, g1, g2⟩
    have e5 := hc.2.2.2.1.1.1
    refine r13_137b (k1 := fun q1 => K M1 hc) (R1 := fun _ => True) (hA1 := fun q1 => by omega) (k2 := fun q1 M2 r2 => by omega)
theorem rains_ct {M0 M : dsMem} {x0 y b : Int} {P : dsP} {S : dsS} (hP : POK P) (hx : x0 = 47 ∨ x0 = 62) (hy : 0 ≤ y ∧ y < 12) (h : CS M0 x0 y P b M S) :
    bCt 13 [uR 5 x0, uI y, uX 0, uX 0, uX 0, uX 0, uX 0, uX 0, uX 0] M (fun _ => []) (fun M' => CS M0 x0 y P b M' (dsRains P y S)) := by
  intro Q hQ
  refine r13_0 ?_
  refine b_itS (pRn P) (fun i => [uR 5 x0, uI y, uI (M 30 0), uI i, uX 0, uX 0, uX 0, uX 0, uX 0]) (fun i S => match pRf P y i with | some q => dsRain P q.1 q.2 S | none => S) (fun M' S' => CS M0 x0 y P b M' S' ∧ M' 30 0 = M 30 0) S ?_ ?_ M ⟨h, rfl⟩
  · rintro i M1 S1 i0 i1 ⟨hc, g⟩ ih
    have he := hc.2.2.2.2.1
    have hen := he.1
    have ern := he.2.1
    have idle : pRf P y i = none → bB 13 13 [uR 5 x0, uI y, uI (M 30 0), uI (i + 1), uX 0, uX 0, uX 0, uX 0, uX 0] [] M1 Q := by
      intro e
      refine ih M1 ?_
      rw [e]; exact ⟨hc, g⟩
    by_cases hi : i < M 30 0
    · have ef := he.2.2.2.1 y i i0 (by omega)
      refine r13_13 (k1 := fun q1 => ?_) (k2 := fun q1 q2 q3 => idle ?_) (k3 := fun q1 q2 q3 q4 => idle ?_) (k4 := fun q1 q2 q3 q4 => ?_) (k5 := fun q1 q2 => ?_) (k6 := fun q1 q2 => ?_) (k7 := fun q1 q2 => ?_)
      · omega
      · rw [ef, if_neg (fun q => q3 q.1)]
      · rw [ef, if_neg (fun q => q4 q.2)]
      · rw [if_pos ⟨q3, q4⟩] at ef
        have hq := hP.2.2.2.1 y i _ ef
        refine rain_a hP hx hy ⟨hq.1, hq.2.1⟩ hq.2.2 (by omega) (by omega) rfl rfl hc (fun M2 r2 => ih M2 ?_)
        rw [ef]
        refine ⟨r2, ?_⟩
        have f2 := r2.2.2.2.2.2
        have f1 := hc.2.2.2.2.2
        rw [f2 _ _ (by unfold DY; omega), ← f1 _ _ (by unfold DY; omega)]; exact g
      · omega
      · omega
      · omega
    · have ef := he.2.2.2.2.1 y i (by omega) (by omega)
      rw [g] at ef
      refine r13_13 (k1 := fun q1 => ?_) (k2 := fun q1 q2 => ?_) (k3 := fun q1 q2 => ?_) (k4 := fun q1 q2 => ?_) (k5 := fun q1 q2 q3 => idle ?_) (k6 := fun q1 q2 q3 q4 => idle ?_) (k7 := fun q1 q2 q3 q4 => ?_)
      · omega
      · omega
      · omega
      · omega
      · rw [ef, if_neg (fun q => q3 q.1)]
      · rw [ef, if_neg (fun q => q4 q.2)]
      · rw [if_pos ⟨q3, q4⟩] at ef
        have hq := hP.2.2.2.1 y i _ ef
        refine rain_b hP hx hy ⟨hq.1, hq.2.1⟩ hq.2.2 (by omega) (by omega) rfl rfl hc (fun M2 r2 => ih M2 ?_)
        rw [ef]
        refine ⟨r2, ?_⟩
        have f2 := r2.2.2.2.2.2
        have f1 := hc.2.2.2.2.2
        rw [f2 _ _ (by unfold DY; omega), ← f1 _ _ (by unfold DY; omega)]; exact g
  · rintro i M1 i0 i1 ⟨hc, g⟩
    have hen := hc.2.2.2.2.1.1
    have ern := hc.2.2.2.2.1.2.1
    refine r13_13 (k1 := fun q1 => hQ M1 hc) (k2 := fun q1 => ?_) (k3 := fun q1 => ?_) (k4 := fun q1 => ?_) (k5 := fun q1 => ?_) (k6 := fun q1 => ?_) (k7 := fun q1 => ?_) <;> omega
