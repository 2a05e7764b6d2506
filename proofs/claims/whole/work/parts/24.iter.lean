/-! counted loops as functions -/
def dsItN {α : Type} (f : Int → α → α) : Nat → Int → α → α
  | 0, _, a => a
  | k + 1, i, a => dsItN f k (i + 1) (f i a)
def dsIter {α : Type} (f : Int → α → α) (i n : Int) (a : α) : α := dsItN f (n - i).toNat i a
def dsFiN (p : Int → Prop) [DecidablePred p] : Nat → Int → Int
  | 0, i => i
  | k + 1, i => if p i then i else dsFiN p k (i + 1)
def dsFind (p : Int → Prop) [DecidablePred p] (i n : Int) : Int := dsFiN p (n - i).toNat i
theorem dsIter_end {α : Type} {f : Int → α → α} {i n : Int} {a : α} (h : ¬ i < n) : dsIter f i n a = a := by
  unfold dsIter; rw [show (n - i).toNat = 0 by omega]; rfl
theorem dsIter_step {α : Type} {f : Int → α → α} {i n : Int} {a : α} (h : i < n) : dsIter f i n a = dsIter f (i + 1) n (f i a) := by
  unfold dsIter; rw [show (n - i).toNat = (n - (i + 1)).toNat + 1 by omega]; rfl
theorem dsFind_end {p : Int → Prop} [DecidablePred p] {i n : Int} (h : ¬ i < n) : dsFind p i n = i := by
  unfold dsFind; rw [show (n - i).toNat = 0 by omega]; rfl
theorem dsFind_yes {p : Int → Prop} [DecidablePred p] {i n : Int} (h : i < n) (hp : p i) : dsFind p i n = i := by
  unfold dsFind; rw [show (n - i).toNat = (n - (i + 1)).toNat + 1 by omega]; unfold dsFiN; rw [if_pos hp]
theorem dsFind_no {p : Int → Prop} [DecidablePred p] {i n : Int} (h : i < n) (hp : ¬ p i) : dsFind p i n = dsFind p (i + 1) n := by
  unfold dsFind; rw [show (n - i).toNat = (n - (i + 1)).toNat + 1 by omega]; rw [dsFiN, if_neg hp]
/-- induction upwards to a bound -/
theorem ds_ind {P : Int → Prop} (n : Int) (he : ∀ i, ¬ i < n → P i) (hs : ∀ i, i < n → P (i + 1) → P i) (i : Int) : P i := by
  have key : ∀ (k : Nat) (i : Int), (n - i).toNat = k → P i := by
    intro k
    induction k with
    | zero => intro i h; exact he i (by omega)
    | succ k ih =>
      intro i h
      exact hs i (by omega) (ih (i + 1) (by omega))
  exact key _ i rfl
theorem dsFind_ge {p : Int → Prop} [DecidablePred p] {n : Int} (i : Int) : i ≤ dsFind p i n := by
  refine ds_ind (P := fun i => i ≤ dsFind p i n) n ?_ ?_ i
  · intro i h; rw [dsFind_end h]; omega
  · intro i h ih
    by_cases hp : p i
    · rw [dsFind_yes h hp]; omega
    · rw [dsFind_no h hp]; omega
theorem dsFind_end2 {p : Int → Prop} [DecidablePred p] {n : Int} (i : Int) (h : ∀ j, i ≤ j → j < n → ¬ p j) : ¬ dsFind p i n < n := by
  revert h
  refine ds_ind (P := fun i => (∀ j, i ≤ j → j < n → ¬ p j) → ¬ dsFind p i n < n) n ?_ ?_ i
  · intro i h _; rw [dsFind_end h]; exact h
  · intro i h ih hh
    rw [dsFind_no h (hh i (by omega) h)]
    exact ih (fun j hj => hh j (by omega))
section BLoops
variable {m pc : Nat} {M : dsMem} {Q : bQT}
theorem b_for {α : Type} (ls : Int → α → List dsU) (f : Int → α → α) (i0 n : Int) (a0 : α)
    (hs : ∀ i a, i0 ≤ i → i < n → bB m pc (ls (i + 1) (f i a)) [] M Q → bB m pc (ls i a) [] M Q)
    (he : ∀ i, i0 ≤ i → ¬ i < n → bB m pc (ls i (dsIter f i0 n a0)) [] M Q) : bB m pc (ls i0 a0) [] M Q := by
  have key : ∀ i, ∀ a, i0 ≤ i → dsIter f i n a = dsIter f i0 n a0 → bB m pc (ls i a) [] M Q := by
    refine ds_ind n ?_ ?_
    · intro i h a h0 e
      rw [dsIter_end h] at e
      rw [e]; exact he i h0 h
    · intro i h ih a h0 e
      exact hs i a h0 h (ih _ (by omega) (by rw [← dsIter_step h]; exact e))
  exact key i0 a0 (by omega) rfl
theorem b_forI {α : Type} (Inv : Int → α → Prop) (ls : Int → α → List dsU) (f : Int → α → α) (i0 n : Int) (a0 : α)
    (h0 : Inv i0 a0) (hi : ∀ i a, i0 ≤ i → i < n → Inv i a → Inv (i + 1) (f i a))
    (hs : ∀ i a, i0 ≤ i → i < n → Inv i a → bB m pc (ls (i + 1) (f i a)) [] M Q → bB m pc (ls i a) [] M Q)
    (he : ∀ i, i0 ≤ i → ¬ i < n → Inv i (dsIter f i0 n a0) → bB m pc (ls i (dsIter f i0 n a0)) [] M Q) : bB m pc (ls i0 a0) [] M Q := by
  have key : ∀ i, ∀ a, i0 ≤ i → Inv i a → dsIter f i n a = dsIter f i0 n a0 → bB m pc (ls i a) [] M Q := by
    refine ds_ind n ?_ ?_
    · intro i h a h0 hI e
      rw [dsIter_end h] at e
      subst e; exact he i h0 h hI
    · intro i h ih a h0 hI e
      exact hs i a h0 h hI (ih _ (by omega) (hi i a h0 h hI) (by rw [← dsIter_step h]; exact e))
  exact key i0 a0 (by omega) h0 rfl
theorem b_find (ls : Int → List dsU) (p : Int → Prop) [DecidablePred p] (i0 n : Int)
    (hs : ∀ i, i0 ≤ i → i < n → ¬ p i → bB m pc (ls (i + 1)) [] M Q → bB m pc (ls i) [] M Q)
    (hf : ∀ i, i0 ≤ i → i < n → p i → dsFind p i0 n = i → bB m pc (ls i) [] M Q)
    (he : ∀ i, i0 ≤ i → ¬ i < n → ¬ dsFind p i0 n < n → bB m pc (ls i) [] M Q) : bB m pc (ls i0) [] M Q := by
  have key : ∀ i, i0 ≤ i → dsFind p i n = dsFind p i0 n → (∀ j, i0 ≤ j → j < i → ¬ p j) → bB m pc (ls i) [] M Q := by
    refine ds_ind n ?_ ?_
    · intro i h h0 e hno
      exact he i h0 h (dsFind_end2 i0 (fun j h1 h2 => hno j h1 (by omega)))
    · intro i h ih h0 e hno
      by_cases hp : p i
      · exact hf i h0 h hp (by rw [← e]; exact dsFind_yes h hp)
      · refine hs i h0 h hp (ih (by omega) (by rw [← dsFind_no h hp]; exact e) ?_)
        intro j h1 h2
        by_cases hj : j = i
        · rw [hj]; exact hp
        · exact hno j h1 (by omega)
  exact key i0 (by omega) rfl (fun j h1 h2 => by omega)
/-- a method's contract: it answers r of the new memory, and the new memory is as R says -/
def bCt (m : Nat) (ls : List dsU) (M : dsMem) (r : dsMem → List dsU) (R : dsMem → Prop) : Prop := ∀ Q : bQT, (∀ M1, R M1 → Q (r M1) M1) → bB m 0 ls [] M Q
end BLoops
theorem dsIter_congr {α : Type} {f g : Int → α → α} {n : Int} (i : Int) (a : α) (h : ∀ j b, i ≤ j → j < n → f j b = g j b) : dsIter f i n a = dsIter g i n a := by
  revert a h
  refine ds_ind (P := fun i => ∀ a, (∀ j b, i ≤ j → j < n → f j b = g j b) → dsIter f i n a = dsIter g i n a) n ?_ ?_ i
  · intro i h a _; rw [dsIter_end h, dsIter_end h]
  · intro i h ih a hh
    rw [dsIter_step h, dsIter_step h, hh i a (by omega) h]
    exact ih _ (fun j b h1 h2 => hh j b (by omega) h2)
theorem dsFind_congr {p q : Int → Prop} [DecidablePred p] [DecidablePred q] {n : Int} (i : Int) (h : ∀ j, i ≤ j → j < n → (p j ↔ q j)) : dsFind p i n = dsFind q i n := by
  revert h
  refine ds_ind (P := fun i => (∀ j, i ≤ j → j < n → (p j ↔ q j)) → dsFind p i n = dsFind q i n) n ?_ ?_ i
  · intro i h _; rw [dsFind_end h, dsFind_end h]
  · intro i h ih hh
    by_cases hp : p i
    · rw [dsFind_yes h hp, dsFind_yes h ((hh i (by omega) h).1 hp)]
    · rw [dsFind_no h hp, dsFind_no h (fun hq => hp ((hh i (by omega) h).2 hq))]
      exact ih (fun j h1 => hh j (by omega))
theorem dsIter_inv {α : Type} (P : Int → α → Prop) {f : Int → α → α} {i n : Int} {a : α} (hin : i ≤ n) (h0 : P i a) (hs : ∀ j b, i ≤ j → j < n → P j b → P (j + 1) (f j b)) : P n (dsIter f i n a) := by
  suffices key : ∀ i, ∀ a, i ≤ n → P i a → (∀ j b, i ≤ j → j < n → P j b → P (j + 1) (f j b)) → P n (dsIter f i n a) by
    exact key i a hin h0 hs
  clear h0 hs hin a i
  refine ds_ind n ?_ ?_
  · intro i h a h1 h0 _
    rw [dsIter_end h, show n = i by omega]; exact h0
  · intro i h ih a h1 h0 hs
    rw [dsIter_step h]
    exact ih _ (by omega) (hs i a (by omega) h h0) (fun j b h1 => hs j b (by omega))
