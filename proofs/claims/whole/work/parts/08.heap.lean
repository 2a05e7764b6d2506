/-! the heap by a table of numbers -/
def dsEl (k : Nat) : FieldType := match k with
  | 0 => .int
  | 1 => .byte
  | 2 => .boolean
  | 3 => .long
  | 4 => .object RX7
  | _ => .object RX5
def dsTy (E : dsE) : List (ClassId × FieldType) := [(eA E 0, .int), (eA E 1, .byte), (eA E 2, .boolean), (eA E 3, .long), (eA E 4, .object RX7), (eA E 5, .object RX5)]
theorem dsTy_get (E : dsE) {k : Nat} (h : k < 6) : (dsTy E)[k]? = some (eA E k, dsEl k) := by
  match k, h with
  | 0, _ => rfl
  | 1, _ => rfl
  | 2, _ => rfl
  | 3, _ => rfl
  | 4, _ => rfl
  | 5, _ => rfl
def dsOk (t : FieldType) (x : Int) : Prop := match t with
  | .boolean => x = 0 ∨ x = 1
  | .byte => -128 ≤ x ∧ x ≤ 127
  | .long => -9223372036854775808 ≤ x ∧ x < 9223372036854775808
  | .object _ => True
  | .array _ => True
  | _ => -2147483648 ≤ x ∧ x < 2147483648
theorem dsOk_g {t : FieldType} {x : Int} (h : dsOk t x) : dsGv (dsMk t x) := by
  cases t <;> simp only [dsOk, dsMk, dsGv] at h ⊢ <;> omega
/-- a cell by its row of numbers -/
def dsOq (E : dsE) (x : Int) : Option Nat := if x < 0 then none else some (eB E + x.toNat)
theorem dsOq_rf (E : dsE) (x : Int) : va_rf (dsOq E x) = dsRf E x := by
  unfold dsOq dsRf
  split <;> rfl
def dsAd (E : dsE) (r : Int → Int) (k : Nat) : ((Nat → Int32) ⊕ (Nat → Int64) ⊕ (Nat → UInt32) ⊕ (Nat → UInt64) ⊕ (Nat → Option Nat)) :=
  if k < 3 then .inl (fun i => Int32.ofInt (r i)) else if k = 3 then .inr (.inl (fun i => Int64.ofInt (r i))) else .inr (.inr (.inr (.inr (fun i => dsOq E (r i)))))
def dsFs (E : dsE) (r : Int → Int) (c : Nat) : List Value := (List.range (dsN c)).map fun j => dsVal E (dsMk (dsY c j) (r j))
def dsEt (E : dsE) (r : Int → Int) : va_E := if r (-1) < 100 then .inr ((r (-1)).toNat, dsFs E r (r (-1)).toNat) else .inl (eA E (r (-1) - 100).toNat, ((r (-2)).toNat, dsAd E r (r (-1) - 100).toNat))
theorem dsEt_o (E : dsE) {r : Int → Int} {c : Nat} (hc : c < 10) (h : r (-1) = c) : dsEt E r = .inr (c, dsFs E r c) := by
  unfold dsEt
  rw [if_pos (by omega), h]
  rfl
theorem dsEt_a (E : dsE) {r : Int → Int} {k len : Nat} (h : r (-1) = 100 + k) (hl : r (-2) = len) : dsEt E r = .inl (eA E k, (len, dsAd E r k)) := by
  unfold dsEt
  rw [if_neg (by omega), h, hl, show ((100 : Int) + k - 100).toNat = k by omega]
  rfl
theorem dsFs_get (E : dsE) (r : Int → Int) {c k : Nat} (hk : k < dsN c) : (dsFs E r c)[k]? = some (dsVal E (dsMk (dsY c k) (r k))) := by
  unfold dsFs
  rw [List.getElem?_map, List.getElem?_range hk]
  rfl
theorem dsFs_len (E : dsE) (r : Int → Int) (c : Nat) : (dsFs E r c).length = dsN c := by simp [dsFs]
theorem dsFs_set (E : dsE) {r r' : Int → Int} {c k : Nat} {v : Value} (hk : k < dsN c) (h : ∀ j : Nat, j ≠ k → r' j = r j) (hv : dsVal E (dsMk (dsY c k) (r' k)) = v) : dsFs E r' c = (dsFs E r c).set k v := by
  apply List.ext_getElem?
  intro i
  by_cases hi : i < dsN c
  · rw [dsFs_get E r' hi]
    by_cases hik : i = k
    · subst hik
      rw [List.getElem?_set_self (by rw [dsFs_len]; exact hi), hv]
    · rw [List.getElem?_set_ne (fun q => hik q.symm), dsFs_get E r hi, h i hik]
  · rw [List.getElem?_eq_none (by rw [dsFs_len]; omega), List.getElem?_eq_none (by rw [List.length_set, dsFs_len]; omega)]
def dsWl (E : dsE) (M : dsMem) (n : Nat) : va_W := (List.range n).map fun (a : Nat) => (eB E + a, dsEt E (M a))
theorem dsWl_get (E : dsE) (M : dsMem) {n a : Nat} (h : a < n) : (dsWl E M n)[a]? = some (eB E + a, dsEt E (M a)) := by
  unfold dsWl
  rw [List.getElem?_map, List.getElem?_range h]
  rfl
theorem dsWl_inv {E : dsE} {M : dsMem} {n k : Nat} {q : Nat × va_E} (h : (dsWl E M n)[k]? = some q) : k < n ∧ q = (eB E + k, dsEt E (M k)) := by
  have hk : k < n := by
    have := (List.getElem?_eq_some_iff.mp h).1
    simpa [dsWl] using this
  rw [dsWl_get E M hk] at h
  exact ⟨hk, (Option.some.inj h).symm⟩
theorem dsWl_set (E : dsE) {M M' : dsMem} {n a : Nat} {e : va_E} (h : a < n) (ho : ∀ b : Nat, b ≠ a → M' b = M b) (he : dsEt E (M' a) = e) : dsWl E M' n = (dsWl E M n).set a (eB E + a, e) := by
  apply List.ext_getElem?
  intro i
  by_cases hi : i < n
  · rw [dsWl_get E M' hi]
    by_cases hia : i = a
    · subst hia
      rw [List.getElem?_set_self (by simp [dsWl]; exact hi), he]
    · rw [List.getElem?_set_ne (fun q => hia q.symm), dsWl_get E M hi, ho i hia]
  · rw [List.getElem?_eq_none (by simp [dsWl]; omega), List.getElem?_eq_none (by simp [dsWl]; omega)]
theorem dsWl_push (E : dsE) {M M' : dsMem} {n : Nat} {e : va_E} (ho : ∀ b : Nat, b < n → M' b = M b) (he : dsEt E (M' n) = e) : dsWl E M' (n + 1) = dsWl E M n ++ [(eB E + n, e)] := by
  unfold dsWl
  rw [List.range_succ, List.map_append]
  congr 1
  · apply List.map_congr_left
    intro a ha
    rw [ho a (List.mem_range.mp ha)]
  · simp [he]
def dsOwn (E : dsE) : Nat → Prop := fun q => eB E ≤ q
theorem dsWl_D (E : dsE) (M : dsMem) (n : Nat) : va_D (dsOwn E) (dsWl E M n) := by
  refine ⟨fun i j p q hi hj hpq => ?_, fun k q hk => ?_⟩
  · obtain ⟨-, rfl⟩ := dsWl_inv hi
    obtain ⟨-, rfl⟩ := dsWl_inv hj
    dsimp only at hpq
    omega
  · obtain ⟨-, rfl⟩ := dsWl_inv hk
    exact Nat.le_add_right _ _
def dsGd (M : dsMem) (n : Nat) : Prop := (∀ a : Int, (a < 0 ∨ (n : Int) ≤ a) → M a (-1) = -1) ∧ ∀ a : Nat, a < n →
  (∃ c : Nat, c < 10 ∧ M a (-1) = c ∧ ∀ k : Nat, k < dsN c → dsOk (dsY c k) (M a k)) ∨ (∃ k len : Nat, k < 6 ∧ M a (-1) = 100 + k ∧ M a (-2) = len ∧ len < 2147483648 ∧ ∀ i : Nat, i < len → dsOk (dsEl k) (M a i))
def dsSc (E : dsE) (M : dsMem) : Prop := M (-2) (-2) = (eL E : Int) ∧ eL E < 2147483648 ∧ ∀ i : Nat, i < eL E → M (-2) i = (eX E i).toInt
def dsRel (E : dsE) (M : dsMem) (H : Heap) : Prop := ∃ n : Nat, M (-1) 0 = n ∧ H.size = eB E + n ∧ va_P (eG E) vwCl (dsWl E M n) H ∧ dsGd M n ∧ dsSc E M
/-- an address with a make, or a kind of row, is a cell -/
theorem dsGd.o {M : dsMem} {n : Nat} (h : dsGd M n) {a : Int} {c : Nat} (hc : c < 10) (ha : M a (-1) = c) : ∃ q : Nat, a = q ∧ q < n ∧ ∀ k : Nat, k < dsN c → dsOk (dsY c k) (M a k) := by
  by_cases h1 : a < 0 ∨ (n : Int) ≤ a
  · rw [h.1 a h1] at ha
    omega
  · obtain ⟨q, rfl⟩ := Int.eq_ofNat_of_zero_le (show 0 ≤ a by omega)
    refine ⟨q, rfl, by omega, ?_⟩
    rcases h.2 q (by omega) with ⟨c', h2, h3, h4⟩ | ⟨k, len, h2, h3, -⟩
    · have : c' = c := by omega
      subst this
      exact h4
    · omega
theorem dsGd.a {M : dsMem} {n : Nat} (h : dsGd M n) {a : Int} {k : Nat} (hk : k < 6) (ha : M a (-1) = 100 + k) : ∃ q len : Nat, a = q ∧ q < n ∧ M a (-2) = len ∧ len < 2147483648 ∧ ∀ i : Nat, i < len → dsOk (dsEl k) (M a i) := by
  by_cases h1 : a < 0 ∨ (n : Int) ≤ a
  · rw [h.1 a h1] at ha
    omega
  · obtain ⟨q, rfl⟩ := Int.eq_ofNat_of_zero_le (show 0 ≤ a by omega)
    rcases h.2 q (by omega) with ⟨c', h2, h3, h4⟩ | ⟨k', len, h2, h3, h4, h5, h6⟩
    · omega
    · have : k' = k := by omega
      subst this
      exact ⟨q, len, rfl, by omega, h4, h5, h6⟩
/-- a number put -/
theorem dsSet_ne {M : dsMem} {a b i x : Int} (h : b ≠ a) : dsSet M a i x b = M b := by
  funext j
  unfold dsSet
  rw [if_neg (fun q => h q.1)]
theorem dsSet_at {M : dsMem} {a i x : Int} (j : Int) : dsSet M a i x a j = if j = i then x else M a j := by
  unfold dsSet
  by_cases h : j = i <;> simp [h]
theorem dsSc.set {E : dsE} {M : dsMem} (h : dsSc E M) {a i x : Int} (ha : 0 ≤ a) : dsSc E (dsSet M a i x) := by
  unfold dsSc at *
  rw [dsSet_ne (by omega)]
  exact h
theorem dsGd.setO {M : dsMem} {n q c k : Nat} {x : Int} (h : dsGd M n) (hq : q < n) (hc : c < 10) (hM : M q (-1) = c) (hk : k < dsN c) (hx : dsOk (dsY c k) x) : dsGd (dsSet M q k x) n := by
  refine ⟨fun a ha => ?_, fun a ha => ?_⟩
  · rw [dsSet_ne (by omega)]
    exact h.1 a ha
  · by_cases e : a = q
    · subst e
      left
      refine ⟨c, hc, by rw [dsSet_at, if_neg (by omega)]; exact hM, fun j hj => ?_⟩
      rw [dsSet_at]
      by_cases hjk : (j : Int) = k
      · rw [if_pos hjk]
        have : j = k := by omega
        subst this
        exact hx
      · rw [if_neg hjk]
        obtain ⟨_, -, -, h4⟩ := h.o hc hM
        exact h4 j hj
    · rw [dsSet_ne (by omega)]
      exact h.2 a ha
theorem dsGd.setA {M : dsMem} {n q k len i : Nat} {x : Int} (h : dsGd M n) (hq : q < n) (hk : k < 6) (hM : M q (-1) = 100 + k) (hl : M q (-2) = len) (hi : i < len) (hx : dsOk (dsEl k) x) : dsGd (dsSet M q i x) n := by
  refine ⟨fun a ha => ?_, fun a ha => ?_⟩
  · rw [dsSet_ne (by omega)]
    exact h.1 a ha
  · by_cases e : a = q
    · subst e
      right
      obtain ⟨_, len', -, -, h4, h5, h6⟩ := h.a hk hM
      refine ⟨k, len, hk, by rw [dsSet_at, if_neg (by omega)]; exact hM, by rw [dsSet_at, if_neg (by omega)]; exact hl, by omega, fun j hj => ?_⟩
      rw [dsSet_at]
      by_cases hjk : (j : Int) = i
      · rw [if_pos hjk]; exact hx
      · rw [if_neg hjk]; exact h6 j (by omega)
    · rw [dsSet_ne (by omega)]
      exact h.2 a ha
