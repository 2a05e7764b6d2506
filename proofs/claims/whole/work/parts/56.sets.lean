/-! sums over sets of rains; rains out of time change nothing -/
def setRf (P : dsP) (f : Int → Int → Option (Int × Int)) : dsP := (P.1, P.2.1, P.2.2.1, P.2.2.2.1, P.2.2.2.2.1, P.2.2.2.2.2.1, P.2.2.2.2.2.2.1, P.2.2.2.2.2.2.2.1, P.2.2.2.2.2.2.2.2.1, P.2.2.2.2.2.2.2.2.2.1, (P.2.2.2.2.2.2.2.2.2.2.1.1, f), P.2.2.2.2.2.2.2.2.2.2.2.1, P.2.2.2.2.2.2.2.2.2.2.2.2)
theorem drkN_rf (P : dsP) (g : Int → Int → Option (Int × Int)) (first k : Int) : ∀ (j : Nat) (s : Int) (S : dsS) (r : Int), dsDrkN (setRf P g) first k j s S r = dsDrkN P first k j s S r
  | 0, _, _, _ => rfl
  | j + 1, s, S, r => by
    rw [dsDrkN, dsDrkN, drkN_rf P g first k j, drkN_rf P g first k j]
    rfl
theorem drink_rf (P : dsP) (g : Int → Int → Option (Int × Int)) (S : dsS) (first k n : Int) : dsDrink (setRf P g) S first k n = dsDrink P S first k n := by
  unfold dsDrink
  rw [drkN_rf]; rfl
theorem rain_rf (P : dsP) (g : Int → Int → Option (Int × Int)) (k n : Int) (S : dsS) : dsRain (setRf P g) k n S = dsRain P k n S := by
  unfold dsRain
  exact dsIter_congr _ _ (fun j b _ _ => by rw [drink_rf]; rfl)
theorem rains_rf {P : dsP} {g : Int → Int → Option (Int × Int)} {y : Int} {S : dsS} (h : ∀ i, 0 ≤ i → i < pRn P → g y i = pRf P y i) : dsRains (setRf P g) y S = dsRains P y S := by
  unfold dsRains
  refine dsIter_congr _ _ (fun j b j0 j1 => ?_)
  show (match g y j with | some q => dsRain (setRf P g) q.1 q.2 b | none => b) = _
  rw [h j j0 j1]
  cases pRf P y j with
  | none => rfl
  | some q => exact rain_rf P g q.1 q.2 b
theorem year_rf {P : dsP} {g : Int → Int → Option (Int × Int)} {y : Int} {S : dsS} (h : ∀ i, 0 ≤ i → i < pRn P → g y i = pRf P y i) : dsYear (setRf P g) y S = dsYear P y S := by
  unfold dsYear
  have e : dsRains (setRf P g) y (dsSave (setRf P g) y (dyNew S)) = dsRains P y (dsSave P y (dyNew S)) := rains_rf h
  rw [e]; rfl
theorem stN_rf {P : dsP} {g : Int → Int → Option (Int × Int)} {S : dsS} : ∀ k : Nat, (∀ y i, 0 ≤ y → y < (k : Int) → 0 ≤ i → i < pRn P → g y i = pRf P y i) → dsStN (setRf P g) S 0 k = dsStN P S 0 k
  | 0, _ => rfl
  | k + 1, h => by
    show dsYear (setRf P g) (0 + k) (dsStN (setRf P g) S 0 k) = dsYear P (0 + k) (dsStN P S 0 k)
    rw [stN_rf k (fun y i y0 y1 => h y i y0 (by omega)), year_rf (fun i => h (0 + k) i (by omega) (by omega))]
-- bits
theorem bitA0 : ∀ k : Fin 8, ∀ S : Fin 128, ((S.val : Nat) : Int) < dsShl 1 ((k.val : Nat) : Int) → dsOr ((S.val : Nat) : Int) (dsShl 1 ((k.val : Nat) : Int)) = ((S.val : Nat) : Int) + dsShl 1 ((k.val : Nat) : Int) ∧ dsBit (((S.val : Nat) : Int) + dsShl 1 ((k.val : Nat) : Int)) ((k.val : Nat) : Int) ∧ ¬ dsBit ((S.val : Nat) : Int) ((k.val : Nat) : Int) ∧ ∀ i : Fin 8, i.val < k.val → (dsBit (((S.val : Nat) : Int) + dsShl 1 ((k.val : Nat) : Int)) ((i.val : Nat) : Int) ↔ dsBit ((S.val : Nat) : Int) ((i.val : Nat) : Int)) := by decide +kernel
theorem bitB0 : ∀ u : Fin 256, ∀ k : Fin 8, (dsAnd (dsShl 1 ((k.val : Nat) : Int)) (dsXor ((u.val : Nat) : Int) (-1)) = 0 ↔ dsBit ((u.val : Nat) : Int) ((k.val : Nat) : Int)) ∧ (dsBit (dsOr ((u.val : Nat) : Int) (dsShl 1 ((k.val : Nat) : Int))) ((k.val : Nat) : Int)) ∧ 0 ≤ dsOr ((u.val : Nat) : Int) (dsShl 1 ((k.val : Nat) : Int)) ∧ dsOr ((u.val : Nat) : Int) (dsShl 1 ((k.val : Nat) : Int)) < 256 := by decide +kernel
theorem bitC0 : ∀ u : Fin 256, ∀ k i : Fin 8, i.val ≠ k.val → (dsBit (dsOr ((u.val : Nat) : Int) (dsShl 1 ((k.val : Nat) : Int))) ((i.val : Nat) : Int) ↔ dsBit ((u.val : Nat) : Int) ((i.val : Nat) : Int)) := by decide +kernel
theorem shl_8 : ∀ k : Fin 8, dsShl 1 (((k.val : Nat) : Int) + 1) = 2 * dsShl 1 ((k.val : Nat) : Int) ∧ 1 ≤ dsShl 1 ((k.val : Nat) : Int) ∧ dsShl 1 ((k.val : Nat) : Int) ≤ 128 := by decide +kernel
theorem shl_i {k : Int} (hk : 0 ≤ k ∧ k < 8) : dsShl 1 (k + 1) = 2 * dsShl 1 k ∧ 1 ≤ dsShl 1 k ∧ dsShl 1 k ≤ 128 := by
  obtain ⟨k, rfl⟩ : ∃ m : Nat, k = m := ⟨k.toNat, by omega⟩
  exact shl_8 ⟨k, by omega⟩
theorem shl_j {k : Int} (hk : 0 ≤ k ∧ k ≤ 8) : 1 ≤ dsShl 1 k ∧ dsShl 1 k ≤ 256 := by
  by_cases h : k = 8
  · subst h; decide
  · have := @shl_i k (by omega); omega
theorem bitA {k S : Int} (hk : 0 ≤ k ∧ k < 8) (hS : 0 ≤ S ∧ S < dsShl 1 k) : dsOr S (dsShl 1 k) = S + dsShl 1 k ∧ dsBit (S + dsShl 1 k) k ∧ ¬ dsBit S k ∧ ∀ i, 0 ≤ i → i < k → (dsBit (S + dsShl 1 k) i ↔ dsBit S i) := by
  have h64 := shl_i hk
  obtain ⟨k, rfl⟩ : ∃ m : Nat, k = m := ⟨k.toNat, by omega⟩
  obtain ⟨S, rfl⟩ : ∃ m : Nat, S = m := ⟨S.toNat, by omega⟩
  have h := bitA0 ⟨k, by omega⟩ ⟨S, by omega⟩ hS.2
  refine ⟨h.1, h.2.1, h.2.2.1, fun i i0 i1 => ?_⟩
  obtain ⟨i, rfl⟩ : ∃ m : Nat, i = m := ⟨i.toNat, by omega⟩
  exact h.2.2.2 ⟨i, by omega⟩ (by show i < k; omega)
theorem bitB {u k : Int} (hu : 0 ≤ u ∧ u < 256) (hk : 0 ≤ k ∧ k < 8) : (dsAnd (dsShl 1 k) (dsXor u (-1)) = 0 ↔ dsBit u k) ∧ dsBit (dsOr u (dsShl 1 k)) k ∧ (0 ≤ dsOr u (dsShl 1 k) ∧ dsOr u (dsShl 1 k) < 256) ∧ ∀ i, 0 ≤ i → i < 8 → ¬ i = k → (dsBit (dsOr u (dsShl 1 k)) i ↔ dsBit u i) := by
  obtain ⟨k, rfl⟩ : ∃ m : Nat, k = m := ⟨k.toNat, by omega⟩
  obtain ⟨u, rfl⟩ : ∃ m : Nat, u = m := ⟨u.toNat, by omega⟩
  have h := bitB0 ⟨u, by omega⟩ ⟨k, by omega⟩
  refine ⟨h.1, h.2.1, h.2.2, fun i i0 i1 hi => ?_⟩
  obtain ⟨i, rfl⟩ : ∃ m : Nat, i = m := ⟨i.toNat, by omega⟩
  exact bitC0 ⟨u, by omega⟩ ⟨k, by omega⟩ ⟨i, by omega⟩ (by show i ≠ k; omega)
theorem iter_last {α : Type} {f : Int → α → α} {k : Int} {a : α} (hk : 0 ≤ k) : dsIter f 0 (k + 1) a = f k (dsIter f 0 k a) := by
  rw [dsIter_split (m := k) (by omega) 0 (by omega), dsIter_step (by omega), dsIter_end (by omega)]
/-- bits of a search -/
def orB (p : Int → Prop) [DecidablePred p] (n : Int) : Int := dsIter (fun i a => if p i then a else dsOr a (dsShl 1 i)) 0 n 0
theorem orB_all (p : Int → Prop) [DecidablePred p] : ∀ n : Nat, n ≤ 8 → (0 ≤ orB p n ∧ orB p n < 256) ∧ ∀ i, 0 ≤ i → i < 8 → (dsBit (orB p n) i ↔ i < (n : Int) ∧ ¬ p i)
  | 0, _ => by
    refine ⟨by show (0 : Int) ≤ 0 ∧ (0 : Int) < 256; omega, fun i i0 i1 => ?_⟩
    exact ⟨fun h => absurd h (bit_0 (by omega)), fun h => by omega⟩
  | n + 1, hn => by
    have ih := orB_all p n (by omega)
    have e : orB p ((n + 1 : Nat) : Int) = if p n then orB p n else dsOr (orB p n) (dsShl 1 n) := by
      show dsIter _ 0 ((n + 1 : Nat) : Int) 0 = _
      rw [show ((n + 1 : Nat) : Int) = (n : Int) + 1 by omega, iter_last (by omega)]; rfl
    rw [e]
    by_cases hp : p n
    · rw [if_pos hp]
      refine ⟨ih.1, fun i i0 i1 => (ih.2 i i0 i1).trans ⟨fun q => ⟨by omega, q.2⟩, fun q => ⟨?_, q.2⟩⟩⟩
      by_cases hi : i = n
      · subst hi; exact absurd hp q.2
      · omega
    · rw [if_neg hp]
      have hb := bitB ih.1 (show 0 ≤ (n : Int) ∧ (n : Int) < 8 by omega)
      refine ⟨hb.2.2.1, fun i i0 i1 => ?_⟩
      by_cases hi : i = n
      · subst hi; exact ⟨fun _ => ⟨by omega, hp⟩, fun _ => hb.2.1⟩
      · exact (hb.2.2.2 i i0 i1 hi).trans ((ih.2 i i0 i1).trans ⟨fun q => ⟨by omega, q.2⟩, fun q => ⟨by omega, q.2⟩⟩)
theorem and_orD (a b z : Int) : dsAnd (dsOr a b) z = dsOr (dsAnd a z) (dsAnd b z) := by
  unfold dsAnd dsOr
  rw [ds_o32, ds_o32, ds_o32]
  congr 1
  exact Int32.toBitVec_inj.1 BitVec.and_or_distrib_right
theorem toInt_0 {x : Int32} : x.toInt = 0 ↔ x = 0 := ⟨fun h => Int32.toInt_inj.1 (h.trans rfl), fun h => by rw [h]; rfl⟩
theorem or_0 (a b z : Int) : dsOr (dsAnd a z) (dsAnd b z) = 0 ↔ dsAnd a z = 0 ∧ dsAnd b z = 0 := by
  unfold dsOr dsAnd
  rw [ds_o32, ds_o32, toInt_0, toInt_0, toInt_0, Int32.or_eq_zero_iff]
theorem sub_all {u : Int} (hu : 0 ≤ u ∧ u < 256) : ∀ (k : Nat) (S : Int), k ≤ 8 → 0 ≤ S ∧ S < dsShl 1 k → (dsAnd S (dsXor u (-1)) = 0 ↔ ∀ i, 0 ≤ i → i < (k : Int) → dsBit S i → dsBit u i)
  | 0, S, _, hS => by
    have e : S = 0 := by have : dsShl 1 ((0 : Nat) : Int) = 1 := by decide
                         omega
    subst e
    refine ⟨fun _ i i0 i1 => by omega, fun _ => ?_⟩
    unfold dsAnd
    rw [show Int32.ofInt 0 = 0 from rfl, Int32.zero_and]; rfl
  | k + 1, S, hk, hS => by
    have h2 := @shl_i (k : Int) (by omega)
    have ec : ((k + 1 : Nat) : Int) = (k : Int) + 1 := by omega
    rw [ec] at hS
    by_cases hl : S < dsShl 1 (k : Int)
    · have ih := sub_all hu k S (by omega) ⟨hS.1, hl⟩
      have hb := bitA (k := k) (S := S) (by omega) ⟨hS.1, hl⟩
      refine ih.trans ⟨fun h i i0 i1 q => ?_, fun h i i0 i1 q => h i i0 (by omega) q⟩
      by_cases hi : i = k
      · subst hi; exact absurd q hb.2.2.1
      · exact h i i0 (by omega) q
    · have hT : 0 ≤ S - dsShl 1 (k : Int) ∧ S - dsShl 1 (k : Int) < dsShl 1 (k : Int) := by omega
      have ih := sub_all hu k (S - dsShl 1 (k : Int)) (by omega) hT
      have hb := bitA (k := k) (S := S - dsShl 1 (k : Int)) (by omega) hT
      have hz := bitB hu (k := k) (by omega)
      rw [show S - dsShl 1 (k : Int) + dsShl 1 (k : Int) = S by omega] at hb
      rw [← hb.1, and_orD, or_0, ih, hz.1]
      rw [hb.1]
      refine ⟨fun h i i0 i1 q => ?_, fun h => ⟨fun i i0 i1 q => h i i0 (by omega) ((hb.2.2.2 i i0 i1).2 q), h k (by omega) (by omega) hb.2.1⟩⟩
      by_cases hi : i = k
      · subst hi; exact h.2
      · exact h.1 i i0 (by omega) ((hb.2.2.2 i i0 (by omega)).1 q)
-- weights
def wF (d k S : Int) : Int := dsIter (fun i a => if dsBit S i then a * d else a * (10 - d)) 0 k 1
def wC (d u k S : Int) : Int := dsIter (fun i a => if dsBit u i then (if dsBit S i then a * d else a * (10 - d)) else (if dsBit S i then 0 else a)) 0 k 1
def zS (f : Int → Int) (k : Int) : Int := dsSm f 0 (dsShl 1 k) 0
def cW (u k : Int) : Int := dsIter (fun i a => if dsBit u i then a else a * 10) 0 k 1
theorem sm_congr {f g : Int → Int} {i n a : Int} (h : ∀ j, i ≤ j → j < n → f j = g j) : dsSm f i n a = dsSm g i n a := dsIter_congr _ _ (fun j b j0 j1 => by rw [h j j0 j1])
theorem sm_add (f g : Int → Int) {n : Int} : ∀ i a b : Int, dsSm (fun j => f j + g j) i n (a + b) = dsSm f i n a + dsSm g i n b := by
  refine ds_ind n ?_ ?_
  · intro i hi a b; unfold dsSm; rw [dsIter_end hi, dsIter_end hi, dsIter_end hi]
  · intro i hi ih a b
    have h1 := ih (a + f i) (b + g i)
    unfold dsSm at h1 ⊢
    rw [dsIter_step hi, dsIter_step hi, dsIter_step hi, ← h1]
    congr 1
    show a + b + (f i + g i) = a + f i + (b + g i)
    omega
theorem sm_mul (c : Int) (f : Int → Int) {n : Int} : ∀ i a : Int, dsSm (fun j => c * f j) i n (c * a) = c * dsSm f i n a := by
  refine ds_ind n ?_ ?_
  · intro i hi a; unfold dsSm; rw [dsIter_end hi, dsIter_end hi]
  · intro i hi ih a
    have h1 := ih (a + f i)
    unfold dsSm at h1 ⊢
    rw [dsIter_step hi, dsIter_step hi, ← h1, Int.mul_add]
theorem zS_step (f : Int → Int) {k : Int} (hk : 0 ≤ k ∧ k < 8) : zS f (k + 1) = zS (fun S => f S + f (S + dsShl 1 k)) k := by
  have h2 := shl_i hk
  unfold zS
  rw [h2.1]
  have e1 : dsSm f 0 (2 * dsShl 1 k) 0 = dsSm f (dsShl 1 k) (2 * dsShl 1 k) (dsSm f 0 (dsShl 1 k) 0) := dsIter_split (m := dsShl 1 k) (by omega) 0 (by omega) 0
  have e2 : dsSm f (dsShl 1 k) (2 * dsShl 1 k) 0 = dsSm (fun S => f (S + dsShl 1 k)) 0 (dsShl 1 k) 0 := by
    have := dsIter_sh (f := fun s a => a + f s) (g := fun s a => a + f (s + dsShl 1 k)) (c := dsShl 1 k) (n := dsShl 1 k) (fun i a _ _ => by rw [Int.add_comm (dsShl 1 k) i]) 0 (by omega) (0 : Int)
    rw [Int.add_zero] at this
    rw [show 2 * dsShl 1 k = dsShl 1 k + dsShl 1 k by omega]
    exact this
  rw [e1, sm_a, e2]
  exact (sm_add f (fun S => f (S + dsShl 1 k)) 0 0 0).symm
theorem wF_bits {d k S T : Int} (h : ∀ i, 0 ≤ i → i < k → (dsBit S i ↔ dsBit T i)) : wF d k S = wF d k T := dsIter_congr _ _ (fun i a i0 i1 => if_iff (h i i0 i1))
theorem wC_bits {d u k S T : Int} (h : ∀ i, 0 ≤ i → i < k → (dsBit S i ↔ dsBit T i)) : wC d u k S = wC d u k T := by
  refine dsIter_congr _ _ (fun i a i0 i1 => ?_)
  by_cases hu : dsBit u i
  · rw [if_pos hu, if_pos hu]; exact if_iff (h i i0 i1)
  · rw [if_neg hu, if_neg hu]; exact if_iff (h i i0 i1)
theorem wF_s {d k S : Int} (hk : 0 ≤ k) : wF d (k + 1) S = if dsBit S k then wF d k S * d else wF d k S * (10 - d) := iter_last hk
theorem wC_s {d u k S : Int} (hk : 0 ≤ k) : wC d u (k + 1) S = if dsBit u k then (if dsBit S k then wC d u k S * d else wC d u k S * (10 - d)) else (if dsBit S k then 0 else wC d u k S) := iter_last hk
theorem cW_s {u k : Int} (hk : 0 ≤ k) : cW u (k + 1) = if dsBit u k then cW u k else cW u k * 10 := iter_last hk
theorem sets_eq (d u : Int) : ∀ (k : Nat), k ≤ 8 → ∀ V : Int → Int, (∀ i, 0 ≤ i → i < (k : Int) → ¬ dsBit u i → ∀ S, 0 ≤ S → S < dsShl 1 k → ¬ dsBit S i → S + dsShl 1 i < dsShl 1 k → V (S + dsShl 1 i) = V S) → zS (fun S => wF d k S * V S) k = cW u k * zS (fun S => wC d u k S * V S) k
  | 0, _, V, _ => by
    show dsSm _ 0 (dsShl 1 0) 0 = cW u 0 * dsSm _ 0 (dsShl 1 0) 0
    rw [show dsShl 1 0 = (1 : Int) by decide]
    unfold dsSm
    rw [dsIter_step (by omega), dsIter_end (by omega), dsIter_step (by omega), dsIter_end (by omega)]
    have e1 : wF d ((0 : Nat) : Int) 0 = 1 := dsIter_end (by omega)
    have e2 : wC d u ((0 : Nat) : Int) 0 = 1 := dsIter_end (by omega)
    have e3 : cW u 0 = 1 := dsIter_end (by omega)
    show 0 + wF d ((0 : Nat) : Int) 0 * V 0 = cW u 0 * (0 + wC d u ((0 : Nat) : Int) 0 * V 0)
    rw [e1, e2, e3]; omega
  | k + 1, hk, V, hV => by
    have h2 := @shl_i (k : Int) (by omega)
    have ec : ((k + 1 : Nat) : Int) = (k : Int) + 1 := by omega
    rw [ec] at hV ⊢
    rw [zS_step _ (by omega), zS_step _ (by omega), cW_s (by omega)]
    have ih1 := sets_eq d u k (by omega) V (fun i i0 i1 hu S s0 s1 hb hl => hV i i0 (by omega) hu S s0 (by omega) hb (by omega))
    have ih2 := sets_eq d u k (by omega) (fun S => V (S + dsShl 1 k)) (fun i i0 i1 hu S s0 s1 hb hl => by
      have hA := bitA (k := k) (S := S) (by omega) ⟨s0, s1⟩
      have := hV i i0 (by omega) hu (S + dsShl 1 k) (by omega) (by omega) (fun q => hb ((hA.2.2.2 i i0 i1).1 q)) (by omega)
      rw [show S + dsShl 1 k + dsShl 1 i = S + dsShl 1 i + dsShl 1 k by omega] at this
      exact this)
    have eF : ∀ S, 0 ≤ S → S < dsShl 1 (k : Int) → wF d (k + 1) S * V S + wF d (k + 1) (S + dsShl 1 k) * V (S + dsShl 1 k) = (10 - d) * (wF d k S * V S) + d * (wF d k S * V (S + dsShl 1 k)) := by
      intro S s0 s1
      have hA := bitA (k := k) (S := S) (by omega) ⟨s0, s1⟩
      rw [wF_s (by omega), wF_s (by omega), if_neg hA.2.2.1, if_pos hA.2.1, wF_bits (S := S + dsShl 1 k) (T := S) hA.2.2.2]
      rw [Int.mul_comm (wF d k S) (10 - d), Int.mul_comm (wF d k S) d, Int.mul_assoc, Int.mul_assoc]
    have e1 : zS (fun S => wF d (k + 1) S * V S + wF d (k + 1) (S + dsShl 1 k) * V (S + dsShl 1 k)) k = (10 - d) * zS (fun S => wF d k S * V S) k + d * zS (fun S => wF d k S * V (S + dsShl 1 k)) k := by
      unfold zS
      rw [sm_congr (fun S s0 s1 => eF S s0 s1)]
      have := sm_add (fun S => (10 - d) * (wF d k S * V S)) (fun S => d * (wF d k S * V (S + dsShl 1 k))) (n := dsShl 1 k) 0 ((10 - d) * 0) (d * 0)
      rw [sm_mul, sm_mul] at this
      rw [show (10 - d) * 0 + d * 0 = (0 : Int) by omega] at this
      exact this
    rw [e1]
    by_cases hu : dsBit u k
    · have eC : ∀ S, 0 ≤ S → S < dsShl 1 (k : Int) → wC d u (k + 1) S * V S + wC d u (k + 1) (S + dsShl 1 k) * V (S + dsShl 1 k) = (10 - d) * (wC d u k S * V S) + d * (wC d u k S * V (S + dsShl 1 k)) := by
        intro S s0 s1
        have hA := bitA (k := k) (S := S) (by omega) ⟨s0, s1⟩
        rw [wC_s (by omega), wC_s (by omega), if_pos hu, if_pos hu, if_neg hA.2.2.1, if_pos hA.2.1, wC_bits (S := S + dsShl 1 k) (T := S) hA.2.2.2]
        rw [Int.mul_comm (wC d u k S) (10 - d), Int.mul_comm (wC d u k S) d, Int.mul_assoc, Int.mul_assoc]
      have e2 : zS (fun S => wC d u (k + 1) S * V S + wC d u (k + 1) (S + dsShl 1 k) * V (S + dsShl 1 k)) k = (10 - d) * zS (fun S => wC d u k S * V S) k + d * zS (fun S => wC d u k S * V (S + dsShl 1 k)) k := by
        unfold zS
        rw [sm_congr (fun S s0 s1 => eC S s0 s1)]
        have := sm_add (fun S => (10 - d) * (wC d u k S * V S)) (fun S => d * (wC d u k S * V (S + dsShl 1 k))) (n := dsShl 1 k) 0 ((10 - d) * 0) (d * 0)
        rw [sm_mul, sm_mul] at this
        rw [show (10 - d) * 0 + d * 0 = (0 : Int) by omega] at this
        exact this
      rw [e2, if_pos hu, ih1, ih2, Int.mul_add, Int.mul_left_comm (10 - d), Int.mul_left_comm d]
    · have eC : ∀ S, 0 ≤ S → S < dsShl 1 (k : Int) → wC d u (k + 1) S * V S + wC d u (k + 1) (S + dsShl 1 k) * V (S + dsShl 1 k) = wC d u k S * V S := by
        intro S s0 s1
        have hA := bitA (k := k) (S := S) (by omega) ⟨s0, s1⟩
        rw [wC_s (by omega), wC_s (by omega), if_neg hu, if_neg hu, if_neg hA.2.2.1, if_pos hA.2.1, Int.zero_mul, Int.add_zero]
      have e2 : zS (fun S => wC d u (k + 1) S * V S + wC d u (k + 1) (S + dsShl 1 k) * V (S + dsShl 1 k)) k = zS (fun S => wC d u k S * V S) k := sm_congr (fun S s0 s1 => eC S s0 s1)
      have e3 : zS (fun S => wF d k S * V (S + dsShl 1 k)) k = zS (fun S => wF d k S * V S) k := by
        refine sm_congr (fun S s0 s1 => ?_)
        have hA := bitA (k := k) (S := S) (by omega) ⟨s0, s1⟩
        rw [hV k (by omega) (by omega) hu S s0 (by omega) hA.2.2.1 (by omega)]
      rw [e2, e3, if_neg hu, ih1, ← Int.add_mul, show 10 - d + d = (10 : Int) by omega, Int.mul_comm (cW u k) 10, Int.mul_assoc]
