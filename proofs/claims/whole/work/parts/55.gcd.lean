/-! lowest terms, shares -/
theorem gcd_st (a b : Int) : Int.gcd b (a % b) = Int.gcd a b := by
  have h := Int.gcd_mul_left_add_right b (a % b) (a / b)
  rw [Int.mul_ediv_add_emod a b] at h
  rw [← h, Int.gcd_comm]
def lowT (a b x : Int) : Int := if x = 0 then a.tdiv (Int.gcd a b : Nat) else b.tdiv (Int.gcd a b : Nat)
theorem tdiv_b {a b n : Int} (h : -n < a ∧ a < n) : -n < a.tdiv b ∧ a.tdiv b < n := by
  have h1 := Int.natAbs_tdiv_le_natAbs a b
  omega
theorem lowT_b {a b x n : Int} (ha : -n < a ∧ a < n) (hb : -n < b ∧ b < n) : -n < lowT a b x ∧ lowT a b x < n := by
  unfold lowT
  split
  · exact tdiv_b ha
  · exact tdiv_b hb
theorem low_1 {M : dsMem} {a b x : Int} {Q : bQT} (ha : -4611686018427387904 < a ∧ a < 4611686018427387904) (hb : 0 < b ∧ b < 4611686018427387904) (fin : Q [uJ (lowT a b x)] M) :
    ∀ (n : Nat) (u v i : Int), v < (2 ^ n : Nat) → i + 2 * n ≤ 99 → 0 ≤ i → 0 ≤ u → 0 ≤ v → Int.gcd u v = Int.gcd a b →
    bB 166 12 [uJ a, uX 0, uJ b, uX 0, uI x, uJ u, uX 0, uJ v, uX 0, uI i, uX 0, uX 0] [] M Q := by
  have hg : 0 < Int.gcd a b := Int.gcd_pos_iff.2 (Or.inr (by omega))
  have done : ∀ u i : Int, 0 ≤ i → i < 100 → 0 ≤ u → Int.gcd u 0 = Int.gcd a b → bB 166 12 [uJ a, uX 0, uJ b, uX 0, uI x, uJ u, uX 0, uJ 0, uX 0, uI i, uX 0, uX 0] [] M Q := by
    intro u i i0 i1 u0 hu
    rw [Int.gcd_zero_right] at hu
    have eu : u = ((Int.gcd a b : Nat) : Int) := by omega
    have t1 := tdiv_b (b := u) ha
    have t2 := tdiv_b (a := b) (b := u) (n := 4611686018427387904) (by omega)
    refine r166n_12 (k1 := fun q => by omega) (k2 := fun q => by omega) (k3 := fun q => by omega) (k4 := fun _ _ _ q => ?_) (k5 := fun _ _ _ q => ?_) (k6 := fun _ _ q => by omega) (k7 := fun _ q => absurd rfl q)
    · refine q_eqJ ?_ fin
      unfold lowT; rw [if_neg q, eu]
    · refine q_eqJ ?_ fin
      unfold lowT; rw [if_pos q, eu]
  intro n
  induction n with
  | zero =>
    intro u v i hv hi i0 u0 v0 he
    have ev : v = 0 := by simp at hv; omega
    subst ev
    exact done u i i0 (by omega) u0 he
  | succ n ih =>
    intro u v i hv hi i0 u0 v0 he
    by_cases ev : v = 0
    · subst ev
      exact done u i i0 (by omega) u0 he
    · have m1 := Int.emod_nonneg u ev
      have m2 := Int.emod_lt_of_pos u (show 0 < v by omega)
      have hv2 : v < 2 * ((2 ^ n : Nat) : Int) := by rw [Nat.pow_succ] at hv; omega
      have e1 : Int.gcd v (u % v) = Int.gcd a b := by rw [gcd_st, he]
      refine r166n_12 (k1 := fun q => by omega) (k2 := fun q => by omega) (k3 := fun q => by omega) (k4 := fun _ q => absurd q ev) (k5 := fun _ q => absurd q ev) (k6 := fun _ q => absurd q ev) (k7 := fun _ _ => ?_)
      by_cases er : u % v = 0
      · rw [er] at e1 ⊢
        exact done v (i + 1) (by omega) (by omega) v0 e1
      · have m3 := Int.emod_nonneg v er
        have m4 := Int.emod_lt_of_pos v (show 0 < u % v by omega)
        have m5 : 2 * (v % (u % v)) < v := by
          have d := Int.mul_ediv_add_emod v (u % v)
          have q1 : 1 ≤ v / (u % v) := (Int.le_ediv_iff_mul_le (by omega)).2 (by omega)
          have q2 : (u % v) * 1 ≤ (u % v) * (v / (u % v)) := Int.mul_le_mul_of_nonneg_left q1 m1
          omega
        refine r166n_12 (k1 := fun q => by omega) (k2 := fun q => by omega) (k3 := fun q => by omega) (k4 := fun _ q => absurd q er) (k5 := fun _ q => absurd q er) (k6 := fun _ q => absurd q er) (k7 := fun _ _ => ?_)
        refine ih (u % v) (v % (u % v)) (i + 1 + 1) (by omega) (by omega) (by omega) m1 m3 ?_
        rw [gcd_st, e1]
theorem abs_gcd {a : Int} (b : Int) (ha : -4611686018427387904 < a ∧ a < 4611686018427387904) : Int.gcd (if 0 < a then a else dsw64 (-a)) b = Int.gcd a b ∧ 0 ≤ (if 0 < a then a else dsw64 (-a)) := by
  split
  · exact ⟨rfl, by omega⟩
  · rw [dsw64_id (by omega) (by omega), Int.neg_gcd]
    exact ⟨rfl, by omega⟩
theorem low_ct {M : dsMem} {a b x : Int} (ha : -4611686018427387904 < a ∧ a < 4611686018427387904) (hb : 0 < b ∧ b < 1099511627776) :
    bCt 166 [uJ a, uX 0, uJ b, uX 0, uI x, uX 0, uX 0, uX 0, uX 0, uX 0, uX 0, uX 0] M (fun _ => [uJ (lowT a b x)]) (fun M' => M' = M) := by
  intro Q hQ
  have h := abs_gcd b ha
  refine r166n_0 (k1 := ?_)
  exact low_1 ha (by omega) (hQ M rfl) 40 _ b 0 (by omega) (by omega) (by omega) h.2 (by omega) h.1
theorem div_1 {M : dsMem} {g : Nat} {Q : bQT} (fin : Q [uJ (g : Int)] M) : ∀ (n : Nat) (u v : Int), v.toNat = n → 0 ≤ u → 0 ≤ v → Int.gcd u v = g → bB 307 9 [uX 0, uX 0, uX 0, uX 0, uJ u, uX 0, uJ v, uX 0, uX 0, uX 0] [] M Q := by
  intro n
  induction n using Nat.strongRecOn with
  | ind n ih =>
    intro u v hn u0 v0 he
    refine r307_9 (k1 := fun q => ?_) (k2 := fun q => ?_)
    · subst q
      rw [Int.gcd_zero_right] at he
      exact q_eqJ (by omega) fin
    · have m1 := Int.emod_nonneg u q
      have m2 := Int.emod_lt_of_pos u (show 0 < v by omega)
      exact ih _ (by omega) v (u % v) rfl v0 m1 (by rw [gcd_st, he])
theorem div_ct {M : dsMem} {a b : Int} (ha : -4611686018427387904 < a ∧ a < 4611686018427387904) (hb : 0 < b) :
    bCt 307 [uJ a, uX 0, uJ b, uX 0, uX 0, uX 0, uX 0, uX 0, uX 0, uX 0] M (fun _ => [uJ ((Int.gcd a b : Nat) : Int)]) (fun M' => M' = M) := by
  intro Q hQ
  have h := abs_gcd b ha
  exact r307_0 (k1 := div_1 (hQ M rfl) _ _ b rfl h.2 (by omega) h.1)
theorem part_ct {M : dsMem} {a b x : Int} (ha : -4611686018427387904 < a ∧ a < 4611686018427387904) (hb : 0 < b ∧ b < 4611686018427387904) :
    bCt 308 [uJ a, uX 0, uJ b, uX 0, uI x] M (fun _ => [uJ (lowT a b x)]) (fun M' => M' = M) := by
  intro Q hQ
  have hg : 0 < Int.gcd a b := Int.gcd_pos_iff.2 (Or.inr (by omega))
  have t1 := tdiv_b (b := ((Int.gcd a b : Nat) : Int)) ha
  have t2 := tdiv_b (a := b) (b := ((Int.gcd a b : Nat) : Int)) (n := 4611686018427387904) (by omega)
  refine r308n_0 (hA1 := fun q => div_ct ha hb.1) (k1 := fun q M1 r => ?_) (hA2 := fun q => div_ct ha hb.1) (k2 := fun q M1 r => ?_)
  · subst r
    refine q_eqJ ?_ (hQ M1 rfl)
    unfold lowT; rw [if_neg q]
  · subst r
    refine q_eqJ ?_ (hQ M1 rfl)
    unfold lowT; rw [if_pos q]
theorem lowT_k {k a b x : Int} (hk : 0 < k) : lowT (k * a) (k * b) x = lowT a b x := by
  unfold lowT
  rw [Int.gcd_mul_left, Int.natCast_mul, show ((k.natAbs : Nat) : Int) = k by omega, Int.mul_tdiv_mul_of_pos _ _ hk, Int.mul_tdiv_mul_of_pos _ _ hk]
-- shares
def wOr (n : Int) : Int := dsIter (fun i a => dsw64 (a * i)) 2 (n + 1) 1
theorem wOr_f : ∀ n : Fin 7, (v306 (fun _ _ => 0) ((n.val : Nat) : Int) = wOr ((n.val : Nat) : Int)) ∧ 1 ≤ wOr ((n.val : Nat) : Int) ∧ wOr ((n.val : Nat) : Int) ≤ 720 := by decide +kernel
theorem wOr_p : ∀ n b : Fin 7, b.val + 1 ≤ n.val → (1 ≤ wOr ((b.val : Nat) : Int) * wOr (((n.val : Nat) : Int) - 1 - ((b.val : Nat) : Int)) ∧ wOr ((b.val : Nat) : Int) * wOr (((n.val : Nat) : Int) - 1 - ((b.val : Nat) : Int)) ≤ 120) := by decide +kernel
theorem shr_fin : ∀ n : Fin 7, ∀ s : Fin 6, ∀ t : Fin 64, s.val < n.val → ((t.val : Nat) : Int) < dsShl 1 ((n.val : Nat) : Int) → ¬ dsAnd (dsShr ((t.val : Nat) : Int) ((s.val : Nat) : Int)) 1 = 1 → (0 ≤ bitc ((t.val : Nat) : Int) ∧ bitc ((t.val : Nat) : Int) ≤ ((n.val : Nat) : Int) - 1) ∧ 0 ≤ dsOr ((t.val : Nat) : Int) (dsShl 1 ((s.val : Nat) : Int)) ∧ dsOr ((t.val : Nat) : Int) (dsShl 1 ((s.val : Nat) : Int)) < dsShl 1 ((n.val : Nat) : Int) := by decide +kernel
theorem shr_i {n s t : Int} (hn : 0 ≤ n ∧ n ≤ 6) (hs : 0 ≤ s ∧ s < n) (ht : 0 ≤ t ∧ t < dsShl 1 n) (hb : ¬ dsAnd (dsShr t s) 1 = 1) : (0 ≤ bitc t ∧ bitc t ≤ n - 1) ∧ 0 ≤ dsOr t (dsShl 1 s) ∧ dsOr t (dsShl 1 s) < dsShl 1 n := by
  have h64 := dsShl_b hn
  obtain ⟨n, rfl⟩ : ∃ m : Nat, n = m := ⟨n.toNat, by omega⟩
  obtain ⟨s, rfl⟩ : ∃ m : Nat, s = m := ⟨s.toNat, by omega⟩
  obtain ⟨t, rfl⟩ : ∃ m : Nat, t = m := ⟨t.toNat, by omega⟩
  exact shr_fin ⟨n, by omega⟩ ⟨s, by omega⟩ ⟨t, by omega⟩ (by show s < n; omega) ht.2 hb
theorem wOr_i {n : Int} (hn : 0 ≤ n ∧ n ≤ 6) (M : dsMem) : v306 M n = wOr n ∧ v165 M n = wOr n ∧ 1 ≤ wOr n ∧ wOr n ≤ 720 := by
  obtain ⟨n, rfl⟩ : ∃ m : Nat, n = m := ⟨n.toNat, by omega⟩
  have h := wOr_f ⟨n, by omega⟩
  exact ⟨h.1, rfl, h.2⟩
theorem wOr_q {n b : Int} (hn : 0 ≤ n ∧ n ≤ 6) (hb : 0 ≤ b ∧ b ≤ n - 1) : 1 ≤ wOr b * wOr (n - 1 - b) ∧ wOr b * wOr (n - 1 - b) ≤ 120 := by
  obtain ⟨n, rfl⟩ : ∃ m : Nat, n = m := ⟨n.toNat, by omega⟩
  obtain ⟨b, rfl⟩ : ∃ m : Nat, b = m := ⟨b.toNat, by omega⟩
  exact wOr_p ⟨n, by omega⟩ ⟨b, by omega⟩ (by show b + 1 ≤ n; omega)
theorem PA_b {W : dsW} {set : Int} (h : WOK W) : 0 ≤ wTot (PA W set) (wY W) ∧ wTot (PA W set) (wY W) ≤ 360 := tot_b (PA_ok h trivial) (stP_WS (PA_ok h trivial) (PA_T h) _)
def shF (W : dsW) (s set a : Int) : Int := if dsAnd (dsShr set s) 1 = 1 then a else dsw64 (a + wOr (bitc set) * wOr (wN W - 1 - bitc set) * (wTot (PA W (dsOr set (dsShl 1 s))) (wY W) - wTot (PA W set) (wY W)))
def shS (W : dsW) (s : Int) : Int := dsIter (shF W s) 0 (dsShl 1 (wN W)) 0
theorem mul_b {p d : Int} (hp : 1 ≤ p ∧ p ≤ 120) (hd : -360 ≤ d ∧ d ≤ 360) : -43200 ≤ p * d ∧ p * d ≤ 43200 := by
  have h1 : p * d ≤ p * 360 := Int.mul_le_mul_of_nonneg_left hd.2 (by omega)
  have h2 : p * (-360) ≤ p * d := Int.mul_le_mul_of_nonneg_left hd.1 (by omega)
  omega
theorem shF_b {W : dsW} {s set a n : Int} (hW : WOK W) (hs : 0 ≤ s ∧ s < wN W) (ht : 0 ≤ set ∧ set < dsShl 1 (wN W)) (hn : 0 ≤ n ∧ n ≤ 64) (ha : -43200 * n ≤ a ∧ a ≤ 43200 * n) : -43200 * (n + 1) ≤ shF W s set a ∧ shF W s set a ≤ 43200 * (n + 1) := by
  have k := hW.1
  unfold shF
  split
  · omega
  · rename_i hb
    have h1 := shr_i (by omega) hs ht hb
    have h2 := @wOr_q (wN W) (bitc set) (by omega) h1.1
    have h3 := @PA_b W set hW
    have h4 := @PA_b W (dsOr set (dsShl 1 s)) hW
    have h5 := mul_b h2 (d := wTot (PA W (dsOr set (dsShl 1 s))) (wY W) - wTot (PA W set) (wY W)) (by omega)
    rw [dsw64_id (by omega) (by omega)]; omega
theorem shS_b {W : dsW} {s : Int} (hW : WOK W) (hs : 0 ≤ s ∧ s < wN W) : -2800000 < shS W s ∧ shS W s < 2800000 := by
  have k := hW.1
  have h64 := @dsShl_b (wN W) (by omega)
  have h := dsIter_inv (fun i a => -43200 * i ≤ a ∧ a ≤ 43200 * i) (f := shF W s) (i := 0) (n := dsShl 1 (wN W)) (a := 0) (by omega) (by omega) (fun j b j0 j1 hb => shF_b hW hs ⟨j0, j1⟩ (by omega) hb)
  unfold shS
  omega
def aShr (W : dsW) (s x : Int) : Int := if (0 ≤ s ∧ s ≤ wN W - 1) ∧ 0 ≤ x ∧ x ≤ 1 then lowT (shS W s) (wOr (wN W)) x else -1000000
theorem CI_83 {M : dsMem} {W : dsW} {i v : Int} (h : CI M W) (h0 : M 0 11 = 0) : CI (dsSet M 83 i v) W := by
  obtain ⟨a, b, c, d, f, g⟩ := h
  refine ⟨a, C24_e b (fun a j q1 q2 => ds_gn (by omega)), Dfl_e c (fun j => ds_gn (by omega)), ?_, Or.inl ?_, ?_⟩
  · rw [ds_gn (by omega)]
    rcases d with d | d
    · exact Or.inl d
    · exact Or.inr ⟨d.1, FR_e (P0_ok a) d.2 (fun a j q1 q2 => ds_gn (by omega))⟩
  · rw [ds_gn (by omega)]; exact h0
  · rw [ds_gn (by omega), ds_gn (by omega), ds_gn (by omega)]
    rcases g with g | g
    · exact Or.inl g
    · refine Or.inr ⟨g.1, g.2.1, g.2.2.1, fun w w0 w1 => ?_⟩
      rw [ds_gn (by omega)]; exact g.2.2.2 w w0 w1
theorem wsets_ct {M : dsMem} {W : dsW} (h : CI M W) : bCt 163 [uR 10 0, uX 0] M (fun _ => []) (fun M' => CI M' W ∧ M' 0 11 = 1 ∧ Fr CQ M M') := by
  intro Q hQ
  have b := CI_b h
  have h64 := @dsShl_b (wN W) (by omega)
  refine r163_0 (k1 := fun q => ?_) (k2 := fun q => ?_)
  · refine b_loop (fun (a : Int) => [uR 10 0, uI a]) (fun a M' => 0 ≤ a ∧ a ≤ dsShl 1 (wN W) ∧ CI M' W ∧ M' 0 11 = 0 ∧ Fr CQ M M' ∧ ∀ t, 0 ≤ t → t < a → M' 83 t = wTot (PA W t) (wY W)) (fun a => (dsShl 1 (wN W) - a).toNat) ?_ 0 M ⟨by omega, by omega, h, q, Fr_refl, fun t _ _ => by omega⟩
    rintro x M' ⟨h0, h1, hI, h11, hF, ht⟩ ih
    have bI := CI_b hI
    have e5 := cN5 hI
    refine r163_10 (s1 := by rw [e5]; omega) (k1 := fun q => ?_) (hA1 := fun q => walone_ct hI) (s2 := fun q M1 r => by rw [e5] at q; omega) (s3 := fun q M1 r => by rw [e5] at q; omega) (k2 := fun q M1 r => ?_)
    · rw [e5] at q
      obtain ⟨a, b, c, d, f, g⟩ := hI
      refine hQ _ ⟨⟨a, C24_e b (fun a j q1 q2 => ds_gn (by omega)), Dfl_e c (fun j => ds_gn (by omega)), ?_, Or.inr ⟨ds_ge (by omega), fun set s0 s1 => ?_⟩, ?_⟩, ds_ge (by omega), Fr_set hF (by unfold CQ; omega)⟩
      · rw [ds_gn (by omega)]
        rcases d with d | d
        · exact Or.inl d
        · exact Or.inr ⟨d.1, FR_e (P0_ok a) d.2 (fun a j q1 q2 => ds_gn (by omega))⟩
      · rw [ds_gn (by omega)]; exact ht set s0 (by omega)
      · rw [ds_gn (by omega), ds_gn (by omega), ds_gn (by omega)]
        rcases g with g | g
        · exact Or.inl g
        · refine Or.inr ⟨g.1, g.2.1, g.2.2.1, fun w w0 w1 => ?_⟩
          rw [ds_gn (by omega)]; exact g.2.2.2 w w0 w1
    · rw [e5] at q
      have e11 : M1 0 11 = 0 := by rw [r 0 11 (by unfold CQ2; omega)]; exact h11
      refine ih (x + 1) _ (by omega) ⟨by omega, by omega, CI_83 (CI_q hI r) e11, (ds_gn (by omega)).trans e11, Fr_set (Fr_trans hF (CQ2_q r)) (by unfold CQ; omega), fun t t0 t1 => ?_⟩
      by_cases hx : t = x
      · subst hx; rw [ds_ge (by omega)]
      · rw [ds_gn (by omega), r 83 t (by unfold CQ2; omega)]; exact ht t t0 (by omega)
  · refine hQ M ⟨h, ?_, Fr_refl⟩
    rcases h.2.2.2.2.1 with d | d
    · omega
    · exact d.1
theorem cq126 {M : dsMem} {W : dsW} {s x : Int} (h : CI M W) : bCt 126 [uR 10 0, uI s, uI x, uX 0, uX 0, uX 0, uX 0, uX 0] M (fun _ => [uI (aShr W s x)]) (fun M' => CI M' W ∧ Fr CQ M M') := by
  intro Q hQ
  have b := CI_b h
  have h64 := @dsShl_b (wN W) (by omega)
  refine r126n_0 (k1 := fun q => q_eq ?_ (hQ M ⟨h, Fr_refl⟩)) (hA1 := fun q q2 => wsets_ct h) (k2 := fun q q2 M1 r1 => ?_) (k3 := fun q q2 => q_eq ?_ (hQ M ⟨h, Fr_refl⟩))
  · unfold aShr; rw [if_neg (by omega)]
  · have hs : 0 ≤ s ∧ s < wN W := by omega
    have e5 := cN5 r1.1
    have fin := hQ M1 ⟨r1.1, r1.2.2⟩
    have hsb := shS_b h.1 hs
    have hno := @wOr_i (wN W) (by omega) M1
    have h83 : ∀ t, 0 ≤ t → t < dsShl 1 (wN W) → M1 83 t = wTot (PA W t) (wY W) := by
      rcases r1.1.2.2.2.2.1 with d | d
      · have := r1.2.1; omega
      · exact d.2
    have key : ∀ x5 x3 : Int, 0 ≤ x5 ∧ x5 ≤ dsShl 1 (wN W) → (-43200 * x5 ≤ x3 ∧ x3 ≤ 43200 * x5) → dsIter (shF W s) x5 (dsShl 1 (wN W)) x3 = shS W s → bB 126 30 [uR 10 0, uI s, uI x, uJ x3, uX 0, uI x5, uX 0, uX 0] [] M1 Q := by
      refine ds_ind (P := fun x5 => ∀ x3 : Int, 0 ≤ x5 ∧ x5 ≤ dsShl 1 (wN W) → (-43200 * x5 ≤ x3 ∧ x3 ≤ 43200 * x5) → dsIter (shF W s) x5 (dsShl 1 (wN W)) x3 = shS W s → bB 126 30 [uR 10 0, uI s, uI x, uJ x3, uX 0, uI x5, uX 0, uX 0] [] M1 Q) (dsShl 1 (wN W)) ?_ ?_
      · intro x5 h5 x3 h0 hx e
        rw [dsIter_end h5] at e
        rw [e]
        have hlb := @lowT_b (shS W s) (wOr (wN W)) x 2800000 hsb (by omega)
        refine r126n_30 (s1 := by rw [e5]; omega) (s2 := fun q i a i0 i1 => by omega) (hA1 := fun q => by rw [e5, hno.2.1]; exact low_ct (by omega) (by omega)) (s3 := fun q M2 r2 => by omega) (k1 := fun q M2 r2 => ?_) (s4 := fun q => by rw [e5] at q; omega) (k2 := fun q => by rw [e5] at q; omega) (R2 := fun _ => False) (g2 := fun _ => 0) (R3 := fun _ _ => False) (g3 := fun _ _ => 0) (hA2 := fun q => by rw [e5] at q; omega) (s5 := fun q => by rw [e5] at q; omega) (hA3 := fun q => by rw [e5] at q; omega) (s6 := fun q => by rw [e5] at q; omega) (s7 := fun q => by rw [e5] at q; omega) (s8 := fun q => by rw [e5] at q; omega) (s9 := fun q => by rw [e5] at q; omega) (s10 := fun q => by rw [e5] at q; omega) (s11 := fun q => by rw [e5] at q; omega) (k3 := fun q => by rw [e5] at q; omega)
        subst r2
        refine q_eq ?_ fin
        unfold aShr; rw [if_pos (by omega)]
      · intro x5 h5 ih x3 h0 hx e
        rw [dsIter_step h5] at e
        have hfb := @shF_b W s x5 x3 x5 h.1 hs ⟨h0.1, h5⟩ (by omega) hx
        refine r126n_30 (s1 := by rw [e5]; omega) (R1 := fun _ => False) (g1 := fun _ => 0) (s2 := fun q => by rw [e5] at q; omega) (hA1 := fun q => by rw [e5] at q; omega) (s3 := fun q => by rw [e5] at q; omega) (k1 := fun q => by rw [e5] at q; omega) (k2 := fun q q2 => ?_) (hA2 := fun q q2 => cnt_ct (by omega)) (s5 := fun q q2 M2 r2 i a i0 i1 => ?s5) (hA3 := fun q q2 M2 r2 => cnt_ct (by omega)) (s6 := fun q q2 M2 r2 M3 r3 => ?s6) (s7 := fun q q2 M2 r2 M3 r3 i a i0 i1 => ?s7) (s8 := fun q q2 M2 r2 M3 r3 => ?s8) (s9 := fun q q2 M2 r2 M3 r3 => by omega) (s10 := fun q q2 M2 r2 M3 r3 => ?s10) (s11 := fun q q2 M2 r2 M3 r3 => by omega) (k3 := fun q q2 M2 r2 M3 r3 => ?k3)
        · have ef : shF W s x5 x3 = x3 := if_pos q2
          rw [ef] at e hfb
          exact ih x3 (by omega) hfb e
        case s5 => have := shr_i (by omega) hs ⟨h0.1, h5⟩ q2; omega
        case s6 => subst r2; rw [e5]; have := shr_i (by omega) hs ⟨h0.1, h5⟩ q2; omega
        case s7 => subst r2; rw [e5] at i1; have := shr_i (by omega) hs ⟨h0.1, h5⟩ q2; omega
        case s8 => have := shr_i (by omega) hs ⟨h0.1, h5⟩ q2; omega
        case s10 =>
          subst r3; subst r2
          have hh := shr_i (by omega) hs ⟨h0.1, h5⟩ q2
          rw [h83 _ hh.2.1 hh.2.2, h83 _ h0.1 h5]
          have h3 := @PA_b W x5 h.1
          have h4 := @PA_b W (dsOr x5 (dsShl 1 s)) h.1
          omega
        case k3 =>
          subst r3; subst r2
          have hh := shr_i (by omega) hs ⟨h0.1, h5⟩ q2
          have hq := @wOr_q (wN W) (bitc x5) (by omega) hh.1
          rw [h83 _ hh.2.1 hh.2.2, h83 _ h0.1 h5, e5, (@wOr_i (bitc x5) (by omega) _).2.1, (@wOr_i (wN W - 1 - bitc x5) (by omega) _).2.1, dsw64_id (x := wOr (bitc x5) * wOr (wN W - 1 - bitc x5)) (by omega) (by omega)]
          have ef : shF W s x5 x3 = dsw64 (x3 + wOr (bitc x5) * wOr (wN W - 1 - bitc x5) * (wTot (PA W (dsOr x5 (dsShl 1 s))) (wY W) - wTot (PA W x5) (wY W))) := if_neg q2
          rw [← ef]
          exact ih _ (by omega) hfb e
    exact key 0 0 (by omega) (by omega) rfl
  · unfold aShr; rw [if_neg (by omega)]
theorem rq309 {M : dsMem} {W : dsW} {s x : Int} (h : RI0 M W) : bCt 309 [uR 11 84, uI s, uI x, uX 0, uX 0, uX 0, uX 0] M (fun _ => [uI (aShr W s x)]) (fun M' => RI0 M' W ∧ Fr RQ M M') := by
  intro Q hQ
  have b := RI_b h
  have h64 := @dsShl_b (wN W) (by omega)
  have hi : ∀ M1, (RSt M1 W ∧ Fr (fun a j => (a = 84 ∧ 17 ≤ j ∧ j ≤ 23) ∨ a = 91 ∨ a = 92) M M1) → RI0 M1 W ∧ Fr RQ M M1 := fun M1 r => ⟨RI0_e h (fun j => r.2 _ _ (by omega)), Fr_mono (fun a j q => by unfold RQ; omega) r.2⟩
  refine r309_0 (hA1 := asItIs_ct h) (s1 := fun M1 r => by have b1 := RI_b (hi M1 r).1; omega) (k1 := fun M1 r q => q_eq ?_ (hQ M1 (hi M1 r))) (k2 := fun M1 r q q2 => ?_) (k3 := fun M1 r q q2 => q_eq ?_ (hQ M1 (hi M1 r)))
  · have b1 := RI_b (hi M1 r).1
    unfold aShr; rw [if_neg (by omega)]
  · have b1 := RI_b (hi M1 r).1
    have e4 := rN4 (hi M1 r).1
    rw [e4]
    have hs : 0 ≤ s ∧ s < wN W := by omega
    have hsb := shS_b h.1 hs
    refine b_loop (fun (a : Int) => [uR 11 84, uI s, uI x, uI (wN W), uI a, uX 0, uX 0]) (fun a M' => 0 ≤ a ∧ a ≤ dsShl 1 (wN W) ∧ RI0 M' W ∧ (∃ c, RSv M' W (wLw W) 255 63 c 0 0 (-1) (wRo W) (wBe W)) ∧ Fr RQ M M' ∧ ∀ t, 0 ≤ t → t < a → M' 110 t = wTot (PA W t) (wY W)) (fun a => (dsShl 1 (wN W) - a).toNat) ?_ 0 M1 ⟨by omega, by omega, (hi M1 r).1, ⟨_, r.1⟩, (hi M1 r).2, fun t _ _ => by omega⟩
    rintro x4 M' ⟨h0, h1, hI, ⟨c, hS⟩, hF, ht⟩ ih
    have bI := RI_b hI
    have hno := @wOr_i (wN W) (by omega) M'
    have hin : ∀ t, 0 ≤ t → t < dsShl 1 (wN W) → dsAnd (dsShr t s) 1 = 0 → ¬ dsAnd (dsShr t s) 1 = 1 := fun t _ _ q => by omega
    refine r309_35 (s1 := fun q i a i0 i1 => by omega) (s2 := fun q i a i0 i1 q2 j c j0 j1 => by omega) (s3 := fun q i a i0 i1 q2 j c j0 j1 => ?s3) (s4 := fun q i a i0 i1 q2 j c j0 j1 => ?s4) (s5 := fun q i a i0 i1 q2 => ?s5) (s6 := fun q i a i0 i1 q2 => by omega) (s7 := fun q i a i0 i1 q2 => ?s7) (s8 := fun q i a i0 i1 => by omega) (hA1 := fun q => part_ct ?hb1 ?hb2) (s9 := fun q M2 r2 => ?s9) (k1 := fun q M2 r2 => ?k1) (hA2 := fun q => worthOf_ct hI hS) (s10 := fun q M2 r2 => by omega) (s11 := fun q M2 r2 => by omega) (k2 := fun q M2 r2 => ?k2)
    case s3 =>
      have := shr_i (by omega) hs ⟨i0, i1⟩ (hin i i0 i1 q2)
      rw [v178_eq] at j1; omega
    case s4 =>
      have := shr_i (by omega) hs ⟨i0, i1⟩ (hin i i0 i1 q2)
      rw [v178_eq, dsw_id (by omega) (by omega)] at j1; omega
    case s5 => have := shr_i (by omega) hs ⟨i0, i1⟩ (hin i i0 i1 q2); omega
    case s7 =>
      have hh := shr_i (by omega) hs ⟨i0, i1⟩ (hin i i0 i1 q2)
      rw [ht _ hh.2.1 (by omega), ht _ i0 (by omega)]
      have h3 := @PA_b W i h.1
      have h4 := @PA_b W (dsOr i (dsShl 1 s)) h.1
      omega
    case k2 =>
      refine ih (x4 + 1) _ (by omega) ⟨by omega, by omega, RI0_e r2.1 (fun j => ds_gn (by omega)), ⟨_, RSv_e r2.2.1 (fun a j q => ds_gn (by omega))⟩, Fr_set (Fr_trans hF r2.2.2.1) (by unfold RQ; omega), fun t t0 t1 => ?_⟩
      by_cases hx : t = x4
      · subst hx; rw [ds_ge (by omega)]
      · rw [ds_gn (by omega), r2.2.2.2 t]; exact ht t t0 (by omega)
    all_goals
      have eS : dsIter (fun (i : Int) (a : Int) => (if (dsAnd (dsShr i s) 1) = 0 then (dsw64 ((a + (((v306 M' (v178 M' i)) * (v306 M' (dsw (((wN W - 1) - (v178 M' i)))))) * ((M' 110 (dsOr i (dsShl 1 s))) - (M' 110 i)))))) else a)) 0 (dsShl 1 (wN W)) 0 = shS W s := by
        refine dsIter_congr _ _ (fun t a t0 t1 => ?_)
        by_cases hz : dsAnd (dsShr t s) 1 = 0
        · have hh := shr_i (by omega) hs ⟨t0, t1⟩ (hin t t0 t1 hz)
          have ef : shF W s t a = dsw64 (a + wOr (bitc t) * wOr (wN W - 1 - bitc t) * (wTot (PA W (dsOr t (dsShl 1 s))) (wY W) - wTot (PA W t) (wY W))) := if_neg (hin t t0 t1 hz)
          rw [ef, if_pos hz, v178_eq, dsw_id (x := wN W - 1 - bitc t) (by omega) (by omega), (@wOr_i (bitc t) (by omega) M').1, (@wOr_i (wN W - 1 - bitc t) (by omega) M').1, ht _ hh.2.1 (by omega), ht _ t0 (by omega)]
        · have hz1 := ds_b01 (dsShr t s)
          have ef : shF W s t a = a := if_pos (by omega)
          rw [ef, if_neg hz]
      have hlb := @lowT_b (shS W s) (wOr (wN W)) x 2800000 hsb (by omega)
      rw [eS] at *
      first
        | (rw [hno.1]; omega)
        | omega
        | (subst r2; refine q_eq ?_ (hQ M2 ⟨hI, hF⟩); unfold aShr; rw [if_pos (by omega), hno.1])
  · unfold aShr; rw [if_neg (by omega)]
