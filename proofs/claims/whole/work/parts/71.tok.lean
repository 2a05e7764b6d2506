/-! the tape's tokens: what they are, and both sides' ways to the next -/
def kdB (v : Int) : Int := if v = 32 ∨ v = 10 then 0 else if 97 ≤ v ∧ v ≤ 122 then 1 else if 48 ≤ v ∧ v ≤ 57 then 2 else if v = 59 then 3 else 4
def kd (n : Int) (b : Int → Int) (i : Int) : Int := if i < 0 then 4 else if i < n then kdB (b i) else 4
theorem kd_in {n : Int} {b : Int → Int} {i : Int} (h : kd n b i ≠ 4) : 0 ≤ i ∧ i < n := by
  unfold kd at h
  split at h
  · exact absurd rfl h
  · split at h
    · omega
    · exact absurd rfl h
theorem kd_at {n : Int} {b : Int → Int} {i : Int} (h : 0 ≤ i ∧ i < n) : kd n b i = kdB (b i) := by
  unfold kd; rw [if_neg (by omega), if_pos (by omega)]
theorem kdB_0 {v : Int} : kdB v = 0 ↔ v = 32 ∨ v = 10 := by unfold kdB; (repeat' split) <;> omega
theorem kdB_1 {v : Int} : kdB v = 1 ↔ 97 ≤ v ∧ v ≤ 122 := by unfold kdB; (repeat' split) <;> omega
theorem kdB_2 {v : Int} : kdB v = 2 ↔ 48 ≤ v ∧ v ≤ 57 := by unfold kdB; (repeat' split) <;> omega
theorem kdB_3 {v : Int} : kdB v = 3 ↔ v = 59 := by unfold kdB; (repeat' split) <;> omega
theorem v58_eq {M : dsMem} {n i : Int} {b : Int → Int} (hn : M 1 0 = n) (hb : ∀ i, 0 ≤ i → i < n → M 2 i = b i) : v58 M i = kd n b i := by
  unfold v58 kd kdB
  rw [hn]
  by_cases h0 : i < 0
  · rw [if_pos h0, if_pos h0]
  · by_cases h1 : i < n
    · rw [if_neg h0, if_pos h1, if_neg h0, if_pos h1, hb i (by omega) h1]
      obtain ⟨v, hv⟩ : ∃ v, b i = v := ⟨_, rfl⟩
      rw [hv]
      (repeat' split) <;> omega
    · rw [if_neg h0, if_neg h1, if_neg h0, if_neg h1]
def scN (n : Int) (b : Int → Int) (κ : Int) : Nat → Int → Int
  | 0, i => i
  | k + 1, i => if kd n b i = κ then scN n b κ k (i + 1) else i
def sc (n : Int) (b : Int → Int) (κ i : Int) : Int := scN n b κ (n - i).toNat i
section
variable {n κ i : Int} {b : Int → Int}
theorem sc_step (hκ : κ ≤ 2) (h : kd n b i = κ) : sc n b κ i = sc n b κ (i + 1) := by
  have hi := kd_in (n := n) (b := b) (i := i) (by omega)
  unfold sc
  rw [show (n - i).toNat = (n - (i + 1)).toNat + 1 by omega, scN, if_pos h]
theorem sc_end (h : ¬ kd n b i = κ) : sc n b κ i = i := by
  unfold sc
  cases (n - i).toNat with
  | zero => rfl
  | succ k => rw [scN, if_neg h]
theorem scN_b (hκ : κ ≤ 2) : ∀ (k : Nat) (i : Int), i + k ≤ n → i ≤ scN n b κ k i ∧ scN n b κ k i ≤ i + k ∧ ∀ j, i ≤ j → j < scN n b κ k i → kd n b j = κ
  | 0, i, _ => ⟨Int.le_refl _, by show i ≤ i + ((0 : Nat) : Int); omega, fun j j0 j1 => by have : j < i := j1; omega⟩
  | k + 1, i, h => by
    rw [scN]
    by_cases hc : kd n b i = κ
    · rw [if_pos hc]
      have ih := scN_b hκ k (i + 1) (by omega)
      refine ⟨by omega, by omega, fun j j0 j1 => ?_⟩
      by_cases hj : j = i
      · subst hj; exact hc
      · exact ih.2.2 j (by omega) j1
    · rw [if_neg hc]
      exact ⟨Int.le_refl _, by omega, fun j j0 j1 => by omega⟩
theorem sc_b (hκ : κ ≤ 2) (hi : i ≤ n) : i ≤ sc n b κ i ∧ sc n b κ i ≤ n ∧ ∀ j, i ≤ j → j < sc n b κ i → kd n b j = κ := by
  have := scN_b (n := n) (b := b) hκ (n - i).toNat i (by omega)
  unfold sc
  exact ⟨this.1, by omega, this.2.2⟩
theorem sc_nx (hκ : κ ≤ 2) (hi : i ≤ n) : ¬ kd n b (sc n b κ i) = κ := by
  have key : ∀ (k : Nat) (i : Int), i ≤ n → (n - i).toNat = k → ¬ kd n b (sc n b κ i) = κ := by
    intro k
    induction k with
    | zero =>
      intro i hi hk
      have : kd n b i = 4 := by
        unfold kd; split
        · rfl
        · rw [if_neg (by omega)]
      rw [sc_end (by omega)]; omega
    | succ k ih =>
      intro i hi hk
      by_cases hc : kd n b i = κ
      · rw [sc_step hκ hc]; exact ih (i + 1) (by omega) (by omega)
      · rw [sc_end hc]; exact hc
  exact key _ i hi rfl
end
abbrev tF (n : Int) (b : Int → Int) (p : Int) : Int := sc n b 0 p
abbrev tK (n : Int) (b : Int → Int) (p : Int) : Int := kd n b (tF n b p)
def tU (n : Int) (b : Int → Int) (p : Int) : Int := if tK n b p = 1 ∨ tK n b p = 2 then sc n b (tK n b p) (tF n b p + 1) else if tF n b p < n then tF n b p + 1 else n
def tN (n : Int) (b : Int → Int) (p : Int) : Int := dsIter (fun i a => 10 * a + (b i - 48)) (tF n b p) (tU n b p) 0
theorem t_b {n p : Int} {b : Int → Int} (hp : 0 ≤ p ∧ p ≤ n) : p ≤ tF n b p ∧ tF n b p ≤ tU n b p ∧ tU n b p ≤ n ∧ (tF n b p < n → tF n b p < tU n b p) ∧ (tF n b p = n ∨ tF n b p < n) := by
  have h1 : p ≤ tF n b p ∧ tF n b p ≤ n ∧ _ := sc_b (n := n) (κ := 0) (i := p) (b := b) (by omega) hp.2
  unfold tU
  split
  · rename_i h
    have hi := kd_in (n := n) (b := b) (i := tF n b p) (by show tK n b p ≠ 4; omega)
    have h2 := sc_b (n := n) (κ := tK n b p) (i := tF n b p + 1) (b := b) (by omega) (by omega)
    omega
  · split <;> omega
theorem t_dig {n p : Int} {b : Int → Int} (hp : 0 ≤ p ∧ p ≤ n) (h : tK n b p = 2) : ∀ j, tF n b p ≤ j → j < tU n b p → 48 ≤ b j ∧ b j ≤ 57 := by
  intro j j0 j1
  have hi := kd_in (n := n) (b := b) (i := tF n b p) (by show tK n b p ≠ 4; omega)
  have tb := t_b (n := n) (b := b) hp
  have hk : kd n b j = 2 := by
    by_cases hj : j = tF n b p
    · rw [hj]; exact h
    · unfold tU at j1
      rw [if_pos (Or.inr h), h] at j1
      exact (sc_b (n := n) (κ := 2) (i := tF n b p + 1) (b := b) (by omega) (by omega)).2.2 j (by omega) j1
  rw [kd_at (by omega)] at hk
  exact kdB_2.1 hk
/-- the class's tape -/
def CTp (M : dsMem) (n : Int) (b : Int → Int) : Prop := M 1 0 = n ∧ (0 ≤ n ∧ n ≤ 600) ∧ ∀ i, 0 ≤ i → i < n → M 2 i = b i
theorem CTp_e {M M' : dsMem} {n : Int} {b : Int → Int} (h : CTp M n b) (e : ∀ a j, (a = 1 ∧ j = 0) ∨ a = 2 → M' a j = M a j) : CTp M' n b :=
  ⟨by rw [e _ _ (by omega)]; exact h.1, h.2.1, fun i i0 i1 => by rw [e _ _ (by omega)]; exact h.2.2 i i0 i1⟩
def FT : Int → Int → Prop := fun a j => a = 1 ∧ (j = 4 ∨ j = 5)
theorem nt_ct {M : dsMem} {n p : Int} {b : Int → Int} (h : CTp M n b) (hp : M 1 5 = p) (hb : 0 ≤ p ∧ p ≤ n) : bCt 57 [uR 6 1, uX 0] M (fun _ => [uI (if tF n b p < n then 1 else 0)]) (fun M' => M' 1 4 = tF n b p ∧ M' 1 5 = tU n b p ∧ Fr FT M M') := by
  intro Q hQ
  refine r57_0 (k1 := ?_)
  rw [hp]
  refine b_loop (fun (_ : Int) => [uR 6 1, uX 0]) (fun i M' => (p ≤ i ∧ i ≤ n) ∧ M' 1 4 = i ∧ sc n b 0 i = tF n b p ∧ Fr FT M M') (fun i => (n - i).toNat) ?_ p _ ⟨by omega, by rw [ds_ge ⟨rfl, rfl⟩], rfl, Fr_set Fr_refl (by unfold FT; omega)⟩
  rintro i M1 ⟨hi, e4, es, hF⟩ ih
  have hC : CTp M1 n b := CTp_e h (fun a j q => hF a j (by unfold FT; omega))
  have e0 := hC.1
  have hv : ∀ j, v58 M1 j = kd n b j := fun j => v58_eq hC.1 hC.2.2
  have h600 := h.2.1
  show bB 57 8 [uR 6 1, uX 0] [] M1 Q
  have fin : ∀ x, ¬ kd n b i = 0 → (x = 1 ∨ x = 2) → kd n b i = x → bB 57 79 [uR 6 1, uI x] [] (dsSet M1 1 5 (if i + 1 < n then i + 1 else n)) Q := by
    intro x k0 hx hk
    have hin := kd_in (n := n) (b := b) (i := i) (by omega)
    have ef : tF n b p = i := by rw [← es]; exact sc_end k0
    have eu : tU n b p = sc n b x (i + 1) := by
      have ek : tK n b p = x := by show kd n b (tF n b p) = x; rw [ef]; exact hk
      unfold tU; rw [if_pos (by omega), ek, ef]
    have ei : (if i + 1 < n then i + 1 else n) = i + 1 := by split <;> omega
    rw [ei]
    refine b_loop (fun (_ : Int) => [uR 6 1, uI x]) (fun u M' => (i + 1 ≤ u ∧ u ≤ n) ∧ M' 1 4 = i ∧ M' 1 5 = u ∧ sc n b x u = sc n b x (i + 1) ∧ Fr FT M M') (fun u => (n - u).toNat) ?_ (i + 1) _ ⟨by omega, by rw [ds_gn (by omega)]; exact e4, by rw [ds_ge ⟨rfl, rfl⟩], rfl, Fr_set hF (by unfold FT; omega)⟩
    rintro u M2 ⟨hu, f4, f5, fs, hF2⟩ ih2
    have hC2 : CTp M2 n b := CTp_e h (fun a j q => hF2 a j (by unfold FT; omega))
    have g0 := hC2.1
    have hv2 : v58 M2 u = kd n b u := v58_eq hC2.1 hC2.2.2
    show bB 57 79 [uR 6 1, uI x] [] M2 Q
    have done : ¬ kd n b u = x → Q [uI (if tF n b p < n then 1 else 0)] M2 := fun q => hQ M2 ⟨by rw [ef]; exact f4, by rw [eu, ← fs, sc_end q]; exact f5, hF2⟩
    have e1 : (1 : Int) = (if tF n b p < n then 1 else 0) := by rw [if_pos (by omega)]
    refine r57_79 (k1 := fun q1 q2 => by omega) (k2 := fun q1 q2 => ?_) (s1 := fun _ _ _ => by omega) (k3 := fun q1 q2 q3 => by omega) (k4 := fun q1 q2 q3 => ?_) (s2 := fun _ _ => by omega) (k5 := fun q1 q2 => ?_)
    · refine q_eq e1 (done (fun q => ?_))
      have := kd_in (n := n) (b := b) (i := u) (by omega)
      omega
    · rw [f5, hv2] at q2
      exact q_eq e1 (done q2)
    · rw [f5, hv2] at q2
      rw [f5]
      exact ih2 (u + 1) _ (by show (n - (u + 1)).toNat < (n - u).toNat; omega) ⟨by omega, by rw [ds_gn (by omega)]; exact f4, by rw [ds_ge ⟨rfl, rfl⟩], by rw [← sc_step (by omega) q2]; exact fs, Fr_set hF2 (by unfold FT; omega)⟩
  have oth : ¬ kd n b i = 0 → ¬ kd n b i = 1 → ¬ kd n b i = 2 → Q [uI (if tF n b p < n then 1 else 0)] (dsSet M1 1 5 (if i + 1 < n then i + 1 else n)) := by
    intro k0 k1 k2
    have ef : tF n b p = i := by rw [← es]; exact sc_end k0
    have ek : tK n b p = kd n b i := by show kd n b (tF n b p) = kd n b i; rw [ef]
    refine hQ _ ⟨by rw [ds_gn (by omega), ef]; exact e4, ?_, Fr_set hF (by unfold FT; omega)⟩
    rw [ds_ge ⟨rfl, rfl⟩]
    have eu : tU n b p = if tF n b p < n then tF n b p + 1 else n := by unfold tU; rw [if_neg (by rw [ek]; omega)]
    rw [eu, ef]
    by_cases q1 : i + 1 < n
    · rw [if_pos q1, if_pos (by omega)]
    · rw [if_neg q1]
      by_cases q2 : i < n
      · rw [if_pos q2]; omega
      · rw [if_neg q2]
  have i4 : ∀ q : n ≤ i, kd n b i = 4 := fun q => by unfold kd; rw [if_neg (by omega), if_neg (by omega)]
  refine r57_8 (s1 := fun _ _ _ => by omega) (s2 := fun _ => by omega) (k1 := fun q1 q2 => ?_) (k2 := fun q1 q2 q3 q4 => ?_) (k3 := fun q1 q2 q3 q4 => by omega) (k4 := fun q1 q2 q3 => ?_) (s3 := fun _ _ _ => by omega) (s4 := fun _ _ => by omega) (k5 := fun q1 q2 q3 => ?_) (k6 := fun q1 q2 q3 q4 q5 => by omega) (k7 := fun q1 q2 q3 q4 q5 => ?_) (k8 := fun q1 q2 q3 q4 => ?_) (s5 := fun _ _ => by omega) (k9 := fun q1 q2 => ?_)
  · rw [e4, hv, i4 (by omega)] at q2; omega
  · rw [e0, e4]
    have := i4 (by omega)
    have ef : tF n b p = i := by rw [← es]; exact sc_end (by omega)
    exact q_eq (by rw [if_neg (by omega)]) (oth (by omega) (by omega) (by omega))
  · rw [e4, hv, i4 (by omega)] at q3; omega
  · rw [e4, hv] at q2 q3
    rw [e4, hv, e0, q3]
    exact fin 1 q2 (Or.inl rfl) q3
  · rw [e4, hv] at q2 q3 q4
    rw [e4, e0]
    have ef : tF n b p = i := by rw [← es]; exact sc_end (by omega)
    exact q_eq (by rw [if_pos (by omega)]) (oth q2 q3 q4)
  · rw [e4, hv] at q2 q3 q4
    rw [e4, hv, e0, q4]
    exact fin 2 q2 (Or.inr rfl) q4
  · rw [e4, hv] at q2
    rw [e4]
    exact ih (i + 1) _ (by show (n - (i + 1)).toNat < (n - i).toNat; omega) ⟨by omega, by rw [ds_ge ⟨rfl, rfl⟩], by rw [← sc_step (by omega) q2]; exact es, Fr_set hF (by unfold FT; omega)⟩
/-- a number that stops at a bound is the number, or the bound -/
theorem sat_iter {K f u : Int} {b : Int → Int} {g : Int → Int → Int} (hK : 0 ≤ K) (hd : ∀ j, f ≤ j → j < u → 48 ≤ b j ∧ b j ≤ 57) (hg : ∀ j a, f ≤ j → j < u → 0 ≤ a → a ≤ K → g j a = if 10 * a + (b j - 48) < K then 10 * a + (b j - 48) else K) :
    dsIter g f u 0 = (if dsIter (fun i a => 10 * a + (b i - 48)) f u 0 < K then dsIter (fun i a => 10 * a + (b i - 48)) f u 0 else K) ∧ 0 ≤ dsIter (fun i a => 10 * a + (b i - 48)) f u 0 := by
  refine dsIter_rel (fun x y => x = (if y < K then y else K) ∧ 0 ≤ y) f 0 0 ⟨by split <;> omega, Int.le_refl _⟩ (fun j x y j0 j1 h => ?_)
  have hb := hd j j0 j1
  have hx : 0 ≤ x ∧ x ≤ K := by
    have := h.1
    split at this <;> omega
  refine ⟨?_, by have := h.2; show 0 ≤ 10 * y + (b j - 48); omega⟩
  show g j x = if 10 * y + (b j - 48) < K then 10 * y + (b j - 48) else K
  rw [hg j x j0 j1 hx.1 hx.2]
  have h1 := h.1
  have h2 := h.2
  by_cases hy : y < K
  · rw [if_pos hy] at h1; subst h1; rfl
  · rw [if_neg hy] at h1; subst h1
    rw [if_neg (by omega), if_neg (by omega)]
-- the reference's tape
theorem and255 : ∀ u : Fin 256, dsAnd ((u.val : Nat) : Int) 255 = ((u.val : Nat) : Int) ∧ dsAnd (((u.val : Nat) : Int) - 128) 255 = if ((u.val : Nat) : Int) - 128 < 0 then ((u.val : Nat) : Int) + 128 else ((u.val : Nat) : Int) - 128 := by decide +kernel
theorem and_byte {v : Int} (h : -128 ≤ v ∧ v ≤ 127) : dsAnd v 255 = if v < 0 then v + 256 else v := by
  have := (and255 ⟨(v + 128).toNat, by omega⟩).2
  simp only [show (((v + 128).toNat : Nat) : Int) = v + 128 by omega] at this
  rw [show v + 128 - 128 = v by omega] at this
  rw [this]
  split <;> omega
def RTp (M : dsMem) (n : Int) (b : Int → Int) : Prop := M 84 7 = n ∧ (0 ≤ n ∧ n ≤ 600) ∧ ∀ i, 0 ≤ i → i < n → M 88 i = b i ∧ -128 ≤ b i ∧ b i ≤ 127
theorem RTp_e {M M' : dsMem} {n : Int} {b : Int → Int} (h : RTp M n b) (e : ∀ a j, (a = 84 ∧ j = 7) ∨ a = 88 → M' a j = M a j) : RTp M' n b :=
  ⟨by rw [e _ _ (by omega)]; exact h.1, h.2.1, fun i i0 i1 => by rw [e _ _ (by omega)]; exact h.2.2 i i0 i1⟩
theorem v196_eq {M : dsMem} {n i : Int} {b : Int → Int} (h : RTp M n b) (hi : 0 ≤ i) : v196 M i = if i < n then (if b i < 0 then b i + 256 else b i) else -1 := by
  unfold v196
  rw [h.1]
  by_cases q : n ≤ i
  · rw [if_pos q, if_neg (by omega)]
  · have := h.2.2 i hi (by omega)
    rw [if_neg q, if_pos (by omega), this.1, and_byte this.2]
theorem see_k {M : dsMem} {n i : Int} {b : Int → Int} (h : RTp M n b) (hi : 0 ≤ i) : ((v196 M i = 32 ∨ v196 M i = 10) ↔ kd n b i = 0) ∧ ((97 ≤ v196 M i ∧ v196 M i ≤ 122) ↔ kd n b i = 1) ∧ ((48 ≤ v196 M i ∧ v196 M i ≤ 57) ↔ kd n b i = 2) ∧ (v196 M i = 59 ↔ kd n b i = 3) ∧ (v196 M i = -1 ↔ n ≤ i) ∧ (kd n b i = 2 → v196 M i = b i) := by
  rw [v196_eq h hi]
  by_cases q : i < n
  · have := (h.2.2 i hi q).2
    rw [if_pos q, kd_at ⟨hi, q⟩, kdB_0, kdB_1, kdB_2, kdB_3]
    (repeat' split) <;> omega
  · have e : kd n b i = 4 := by unfold kd; rw [if_neg (by omega), if_neg q]
    rw [if_neg q, e]
    omega
def tT (n : Int) (b : Int → Int) (p : Int) : Int := if tF n b p < n then tK n b p else 0
def RTk (M : dsMem) (n : Int) (b : Int → Int) (p : Int) : Prop := M 84 9 = tF n b p ∧ M 84 8 = tU n b p ∧ M 84 10 = tT n b p ∧ (tK n b p = 2 → M 84 11 = if tN n b p < 99999 then tN n b p else 99999)
def FA : Int → Int → Prop := fun a j => a = 84 ∧ 8 ≤ j ∧ j ≤ 11
theorem adv_ct {M : dsMem} {n p : Int} {b : Int → Int} (h : RTp M n b) (hp : M 84 8 = p) (hb : 0 ≤ p ∧ p ≤ n) : bCt 197 [uR 11 84, uX 0] M (fun _ => []) (fun M' => RTk M' n b p ∧ Fr FA M M') := by
  intro Q hQ
  have h600 := h.2.1
  refine b_loop (fun (_ : Int) => [uR 11 84, uX 0]) (fun i M' => (p ≤ i ∧ i ≤ n) ∧ M' 84 8 = i ∧ sc n b 0 i = tF n b p ∧ Fr FA M M') (fun i => (n - i).toNat) ?_ p M ⟨by omega, hp, rfl, Fr_refl⟩
  rintro i M1 ⟨hi, e8, es, hF⟩ ih
  have hC : RTp M1 n b := RTp_e h (fun a j q => hF a j (by unfold FA; omega))
  have e7 := hC.1
  have hs := see_k (i := i) hC (by omega)
  have hC9 : RTp (dsSet M1 84 9 i) n b := RTp_e hC (fun a j q => ds_gn (by omega))
  have hs9 := see_k (i := i) hC9 (by omega)
  show bB 197 0 [uR 11 84, uX 0] [] M1 Q
  have nxt : kd n b i = 0 → bB 197 0 [uR 11 84, uX 0] [] (dsSet M1 84 8 (i + 1)) Q := fun q => by
    have := kd_in (n := n) (b := b) (i := i) (by omega)
    exact ih (i + 1) _ (by show (n - (i + 1)).toNat < (n - i).toNat; omega) ⟨by omega, by rw [ds_ge ⟨rfl, rfl⟩], by rw [← sc_step (by omega) q]; exact es, Fr_set hF (by unfold FA; omega)⟩
  have ef : ¬ kd n b i = 0 → tF n b p = i := fun q => by rw [← es]; exact sc_end q
  have ek : ¬ kd n b i = 0 → tK n b p = kd n b i := fun q => by show kd n b (tF n b p) = kd n b i; rw [ef q]
  have g7 : dsSet M1 84 9 i 84 7 = M1 84 7 := ds_gn (by omega)
  have one : ∀ x, ¬ kd n b i = 0 → i < n → kd n b i = x → ¬ x = 1 → ¬ x = 2 → Q [] (dsSet (dsSet (dsSet M1 84 9 i) 84 10 x) 84 8 (i + 1)) := fun x q0 qn qx q1 q2 => by
    have a := ef q0
    have c := ek q0
    refine hQ _ ⟨⟨by rw [ds_gn (by omega), ds_gn (by omega), ds_ge ⟨rfl, rfl⟩, a], ?_, ?_, fun u => by omega⟩, Fr_set (Fr_set (Fr_set hF (by unfold FA; omega)) (by unfold FA; omega)) (by unfold FA; omega)⟩
    · rw [ds_ge ⟨rfl, rfl⟩]; unfold tU; rw [if_neg (by omega), a, if_pos qn]
    · rw [ds_gn (by omega), ds_ge ⟨rfl, rfl⟩]; unfold tT; rw [if_pos (by omega), c, qx]
  refine r197_0 (s1 := fun q => by omega) (s2 := fun q => by omega) (k1 := fun q => ?_) (s3 := fun q1 q2 q3 => by rw [e8] at q3; omega) (s4 := fun _ _ _ _ _ _ => by omega) (k2 := fun q1 q2 q3 q4 q5 q6 => ?_) (s5 := fun _ _ _ _ _ _ => by omega) (k3 := fun q1 q2 q3 q4 q5 q6 => ?_) (k4 := fun q1 q2 q3 q4 q5 => ?_) (k5 := fun q1 q2 q3 q4 => ?_) (k6 := fun q1 q2 q3 => ?_) (s6 := fun _ _ => by omega) (k7 := fun q1 q2 => ?_)
  · rw [e8] at q ⊢
    exact nxt (hs.1.1 (Or.inl q))
  · rw [e8] at q1 q2 q3 q4 q5 q6 ⊢
    have k0 : ¬ kd n b i = 0 := fun u => by have := hs.1.2 u; omega
    have kn : i < n := by have := hs9.2.2.2.2.1; omega
    have k1 : ¬ kd n b i = 1 := fun u => q4 (hs9.2.1.2 u)
    have k2 : ¬ kd n b i = 2 := fun u => q5 (hs9.2.2.1.2 u)
    have k3 : ¬ kd n b i = 3 := fun u => q6 (hs9.2.2.2.1.2 u)
    have k4 : kd n b i = 4 := by
      rw [kd_at (by omega)] at k0 k1 k2 k3 ⊢
      unfold kdB at k0 k1 k2 k3 ⊢
      (repeat' split at k0) <;> (repeat' split) <;> omega
    exact one 4 k0 kn k4 (by omega) (by omega)
  · rw [e8] at q1 q2 q3 q4 q5 q6 ⊢
    have k3 := hs9.2.2.2.1.1 q6
    have kn : i < n := by have := hs9.2.2.2.2.1; omega
    exact one 3 (by omega) kn k3 (by omega) (by omega)
  · rw [e8] at q1 q2 q3 q4 q5 ⊢
    have k2 := hs9.2.2.1.1 q5
    have kn : i < n := by have := hs9.2.2.2.2.1; omega
    have a := ef (by omega)
    have c := ek (by omega)
    have hd := t_dig (n := n) (p := p) (b := b) hb (by omega)
    have eu : tU n b p = sc n b 2 (i + 1) := by unfold tU; rw [if_pos (by omega), c, k2, a]
    have tb := t_b (n := n) (p := p) (b := b) hb
    refine b_loop (fun (_ : Int) => [uR 11 84, uX 0]) (fun u M' => (i ≤ u ∧ u ≤ tU n b p) ∧ M' 84 8 = u ∧ M' 84 9 = i ∧ M' 84 11 = dsIter (fun j a => if 10 * a + (b j - 48) < 99999 then 10 * a + (b j - 48) else 99999) i u 0 ∧ (0 ≤ M' 84 11 ∧ M' 84 11 ≤ 99999) ∧ Fr FA M M') (fun u => (n - u).toNat) ?_ i _ ⟨by omega, by rw [ds_gn (by omega), ds_gn (by omega)]; exact e8, by rw [ds_gn (by omega), ds_ge ⟨rfl, rfl⟩], by rw [ds_ge ⟨rfl, rfl⟩, dsIter_end (by omega)], by rw [ds_ge ⟨rfl, rfl⟩]; omega, Fr_set (Fr_set hF (by unfold FA; omega)) (by unfold FA; omega)⟩
    rintro u M2 ⟨hu, f8, f9, f11, fb, hF2⟩ ih2
    have hC2 : RTp M2 n b := RTp_e h (fun a j q => hF2 a j (by unfold FA; omega))
    have hs2 := see_k (i := u) hC2 (by omega)
    have g7' := hC2.1
    show bB 197 144 [uR 11 84, uX 0] [] M2 Q
    have isd : u < tU n b p → kd n b u = 2 := fun q => by
      have := hd u (by omega) q
      rw [kd_at (by omega)]; exact kdB_2.2 this
    have nod : u = tU n b p → ¬ kd n b u = 2 := fun q => by
      rw [q, eu]; exact sc_nx (by omega) (by omega)
    refine r197_144 (s1 := fun q => by omega) (k1 := fun q => ?_) (s2 := fun q => by omega) (k2 := fun q => ?_)
    · rw [f8] at q
      have hue : u = tU n b p := by
        by_cases hlt : u < tU n b p
        · exact absurd (hs2.2.2.1.2 (isd hlt)) q
        · omega
      have sat := sat_iter (K := 99999) (f := tF n b p) (u := tU n b p) (b := b) (g := fun j a => if 10 * a + (b j - 48) < 99999 then 10 * a + (b j - 48) else 99999) (by omega) hd (fun j a _ _ _ _ => rfl)
      refine hQ _ ⟨⟨by rw [ds_gn (by omega), a]; exact f9, by rw [ds_gn (by omega), ← hue]; exact f8, ?_, fun _ => ?_⟩, Fr_set hF2 (by unfold FA; omega)⟩
      · rw [ds_ge ⟨rfl, rfl⟩]; unfold tT; rw [if_pos (by omega), c, k2]
      · rw [ds_gn (by omega), f11]
        unfold tN
        rw [← sat.1, ← hue, a]
    · rw [f8] at q
      have k := hs2.2.2.1.1 q
      have hlt : u < tU n b p := by
        by_cases hue : u = tU n b p
        · exact absurd k (nod hue)
        · omega
      have hbu := hd u (by omega) hlt
      have ev := hs2.2.2.2.2.2 k
      rw [f8, ev]
      have e10 : dsw (10 * M2 84 11 + b u - 48) = 10 * M2 84 11 + (b u - 48) := by rw [dsw_id (by omega) (by omega)]; omega
      rw [e10]
      refine ih2 (u + 1) _ (by show (n - (u + 1)).toNat < (n - u).toNat; omega) ⟨by omega, by rw [ds_ge ⟨rfl, rfl⟩], by rw [ds_gn (by omega), ds_gn (by omega)]; exact f9, ?_, ?_, Fr_set (Fr_set hF2 (by unfold FA; omega)) (by unfold FA; omega)⟩
      · rw [ds_gn (by omega), ds_ge ⟨rfl, rfl⟩, f11, dsIter_split (m := u) (n := u + 1) (by omega) i (by omega)]
        obtain ⟨z, hz⟩ : ∃ z, dsIter (fun j a => if 10 * a + (b j - 48) < 99999 then 10 * a + (b j - 48) else 99999) i u 0 = z := ⟨_, rfl⟩
        rw [hz, dsIter_step (by omega), dsIter_end (by omega)]
      · rw [ds_gn (by omega), ds_ge ⟨rfl, rfl⟩]
        split <;> omega
  · rw [e8] at q1 q2 q3 q4 ⊢
    have k1 := hs9.2.1.1 q4
    have kn : i < n := by have := hs9.2.2.2.2.1; omega
    have a := ef (by omega)
    have c := ek (by omega)
    have eu : tU n b p = sc n b 1 (i + 1) := by unfold tU; rw [if_pos (by omega), c, k1, a]
    have eu2 : tU n b p = sc n b 1 i := by rw [eu]; exact (sc_step (by omega) k1).symm
    refine b_loop (fun (_ : Int) => [uR 11 84, uX 0]) (fun u M' => (i ≤ u ∧ u ≤ n) ∧ M' 84 8 = u ∧ M' 84 9 = i ∧ sc n b 1 u = tU n b p ∧ Fr FA M M') (fun u => (n - u).toNat) ?_ i _ ⟨by omega, by rw [ds_gn (by omega)]; exact e8, by rw [ds_ge ⟨rfl, rfl⟩], eu2.symm, Fr_set hF (by unfold FA; omega)⟩
    rintro u M2 ⟨hu, f8, f9, fs, hF2⟩ ih2
    have hC2 : RTp M2 n b := RTp_e h (fun a j q => hF2 a j (by unfold FA; omega))
    have hs2 := see_k (i := u) hC2 (by omega)
    have g7' := hC2.1
    show bB 197 83 [uR 11 84, uX 0] [] M2 Q
    refine r197_83 (s1 := fun q => by omega) (k1 := fun q => ?_) (s2 := fun q => by omega) (k2 := fun q => ?_)
    · rw [f8] at q
      have k : ¬ kd n b u = 1 := fun w => q (hs2.2.1.2 w)
      refine hQ _ ⟨⟨by rw [ds_gn (by omega), a]; exact f9, by rw [ds_gn (by omega), ← fs, sc_end k]; exact f8, ?_, fun w => by omega⟩, Fr_set hF2 (by unfold FA; omega)⟩
      rw [ds_ge ⟨rfl, rfl⟩]; unfold tT; rw [if_pos (by omega), c, k1]
    · rw [f8] at q ⊢
      have k := hs2.2.1.1 q
      have hin := kd_in (n := n) (b := b) (i := u) (by omega)
      exact ih2 (u + 1) _ (by show (n - (u + 1)).toNat < (n - u).toNat; omega) ⟨by omega, by rw [ds_ge ⟨rfl, rfl⟩], by rw [ds_gn (by omega)]; exact f9, by rw [← sc_step (by omega) k]; exact fs, Fr_set hF2 (by unfold FA; omega)⟩
  · rw [e8] at q1 q2 q3 ⊢
    have kn : n ≤ i := hs9.2.2.2.2.1.1 q3
    have k4 : kd n b i = 4 := by unfold kd; rw [if_neg (by omega), if_neg (by omega)]
    have a := ef (by omega)
    have c := ek (by omega)
    refine hQ _ ⟨⟨by rw [ds_gn (by omega), ds_ge ⟨rfl, rfl⟩, a], ?_, ?_, fun w => by omega⟩, Fr_set (Fr_set hF (by unfold FA; omega)) (by unfold FA; omega)⟩
    · rw [ds_gn (by omega), ds_gn (by omega), e8]; unfold tU; rw [if_neg (by omega), if_neg (by omega)]; omega
    · rw [ds_ge ⟨rfl, rfl⟩]; unfold tT; rw [if_neg (by omega)]
  · rw [e8] at q1 q2 ⊢
    exact nxt (hs.1.1 (Or.inr q2))
