/-! what was seen: rows in slots, both sides; the class's answers -/
abbrev slT := Int → Int × Int × (Int → Int)
abbrev slN (S : slT) (t : Int) : Int := (S t).1
abbrev slW (S : slT) (t : Int) : Int := (S t).2.1
abbrev slF (S : slT) (t : Int) : Int → Int := (S t).2.2
def CSl (M : dsMem) (S : slT) : Prop :=
  (∀ t, 0 ≤ t → t < 4 → (slN S t = -1 ∧ M 46 t = -1) ∨ (0 ≤ slN S t ∧ slN S t ≤ 60 ∧ 0 ≤ slW S t ∧ slW S t ≤ 3 ∧ 115 ≤ M 46 t ∧ M (M 46 t) 0 = slW S t ∧ M (M 46 t) 1 = slN S t ∧ ∀ j, 0 ≤ j → j < 60 → M (M 46 t + 1) j = slF S t j)) ∧
  (∀ t u, 0 ≤ t → t < 4 → 0 ≤ u → u < 4 → t ≠ u → 0 ≤ slN S t → 0 ≤ slN S u → M 46 t ≠ M 46 u ∧ M 46 t + 1 ≠ M 46 u)
def RSl (M : dsMem) (S : slT) : Prop :=
  ∀ t, 0 ≤ t → t < 4 → (slN S t = -1 ∧ M 111 t = -1) ∨ (0 ≤ slN S t ∧ slN S t ≤ 60 ∧ 0 ≤ slW S t ∧ slW S t ≤ 3 ∧ M 111 t = slN S t ∧ M 112 t = slW S t ∧ ∀ j, 0 ≤ j → j < 60 → M 113 (60 * t + j) = slF S t j)
theorem CSl_e {M M' : dsMem} {S : slT} (h : CSl M S) (e : ∀ a j, a = 46 ∨ 115 ≤ a → M' a j = M a j) : CSl M' S := by
  refine ⟨fun t t0 t1 => ?_, fun t u t0 t1 u0 u1 q n1 n2 => ?_⟩
  · rw [e 46 t (Or.inl rfl)]
    rcases h.1 t t0 t1 with a | ⟨a, b, c, d, f, g, i, j⟩
    · exact Or.inl a
    · refine Or.inr ⟨a, b, c, d, f, by rw [e _ _ (Or.inr f)]; exact g, by rw [e _ _ (Or.inr f)]; exact i, fun k k0 k1 => by rw [e _ _ (Or.inr (by omega))]; exact j k k0 k1⟩
  · rw [e 46 t (Or.inl rfl), e 46 u (Or.inl rfl)]
    exact h.2 t u t0 t1 u0 u1 q n1 n2
theorem RSl_e {M M' : dsMem} {S : slT} (h : RSl M S) (e : ∀ a j, 111 ≤ a → a ≤ 113 → M' a j = M a j) : RSl M' S := by
  intro t t0 t1
  rcases h t t0 t1 with a | ⟨a, b, c, d, f, g, i⟩
  · exact Or.inl ⟨a.1, by rw [e _ _ (by omega) (by omega)]; exact a.2⟩
  · exact Or.inr ⟨a, b, c, d, by rw [e _ _ (by omega) (by omega)]; exact f, by rw [e _ _ (by omega) (by omega)]; exact g, fun k k0 k1 => by rw [e _ _ (by omega) (by omega)]; exact i k k0 k1⟩
theorem CSl_q {M M' : dsMem} {S : slT} (h : CSl M S) (e : Fr CQ M M') : CSl M' S := CSl_e h (fun a j q => e a j (by unfold CQ; omega))
theorem RSl_q {M M' : dsMem} {S : slT} (h : RSl M S) (e : Fr RQ M M') : RSl M' S := RSl_e h (fun a j q1 q2 => e a j (by unfold RQ; omega))
-- by threes
def al3 (c : Int → Bool) (n : Int) : Nat → Bool
  | 0 => true
  | k + 1 => al3 c n k && (decide (n ≤ 3 * (k : Int) + 2) || c (3 * (k : Int)))
theorem al3_iff {c : Int → Bool} {n : Int} : ∀ k : Nat, al3 c n k = true ↔ ∀ j : Nat, j < k → 3 * (j : Int) + 2 < n → c (3 * (j : Int)) = true
  | 0 => ⟨fun _ j h => absurd h (by omega), fun _ => rfl⟩
  | k + 1 => by
    have ih := al3_iff (c := c) (n := n) k
    unfold al3
    rw [Bool.and_eq_true, ih, Bool.or_eq_true, decide_eq_true_iff]
    constructor
    · intro h j j1 j2
      by_cases hj : j = k
      · subst hj
        rcases h.2 with q | q
        · omega
        · exact q
      · exact h.1 j (by omega) j2
    · intro h
      refine ⟨fun j j1 j2 => h j (by omega) j2, ?_⟩
      by_cases hn : n ≤ 3 * (k : Int) + 2
      · exact Or.inl hn
      · exact Or.inr (h k (by omega) (by omega))
theorem al3_end {c : Int → Bool} {n : Int} {k : Nat} (h : n ≤ 3 * (k : Int) + 2) (hk : k ≤ 20) : al3 c n 20 = true ↔ al3 c n k = true := by
  rw [al3_iff, al3_iff]
  exact ⟨fun q j j1 j2 => q j (by omega) j2, fun q j j1 j2 => q j (by omega) j2⟩
theorem al3_suc {c : Int → Bool} {n : Int} {k : Nat} (h : 3 * (k : Int) + 2 < n) : al3 c n (k + 1) = true ↔ al3 c n k = true ∧ c (3 * (k : Int)) = true := by
  show (al3 c n k && (decide (n ≤ 3 * (k : Int) + 2) || c (3 * (k : Int)))) = true ↔ _
  rw [Bool.and_eq_true, decide_eq_false (show ¬ n ≤ 3 * (k : Int) + 2 by omega), Bool.false_or]
def goodAt (W : dsW) (f : Int → Int) (i : Int) : Bool := decide (0 ≤ f i ∧ f i < wN W ∧ 0 ≤ f (i + 1) ∧ f (i + 1) ≤ wY W ∧ 0 ≤ f (i + 2) ∧ f (i + 2) ≤ 60)
abbrev SeenOK (W : dsW) (S : slT) (t : Int) : Prop := ((0 ≤ t ∧ t ≤ 3) ∧ 0 < wLn W) ∧ ¬ slN S t = -1 ∧ slN S t % 3 = 0 ∧ al3 (goodAt W (slF S t)) (slN S t) 20 = true
def aRef (W : dsW) (S : slT) (t : Int) : Int := if (0 ≤ t ∧ t ≤ 3) ∧ 0 < wLn W then (if slN S t = -1 then -6 else if slN S t % 3 = 0 ∧ al3 (goodAt W (slF S t)) (slN S t) 20 = true then 0 else -2) else -2
theorem aRef_ok {W : dsW} {S : slT} {t : Int} (h : 0 ≤ aRef W S t) : SeenOK W S t := by
  unfold aRef at h
  split at h
  · rename_i h1
    split at h
    · omega
    · rename_i h2
      split at h
      · rename_i h3
        exact ⟨h1, h2, h3⟩
      · omega
  · omega
def seenB (P : dsP) (S : slT) (t : Int) : Bool := al3 (fun i => decide (aH P (slF S t (i + 1)) (slF S t i) = slF S t (i + 2))) (slN S t) 20
theorem ok_f {W : dsW} {S : slT} {t : Int} (h : SeenOK W S t) (hn : slN S t ≤ 60) {k : Nat} (hk : 3 * (k : Int) + 2 < slN S t) : 0 ≤ slF S t (3 * (k : Int)) ∧ slF S t (3 * (k : Int)) < wN W ∧ 0 ≤ slF S t (3 * (k : Int) + 1) ∧ slF S t (3 * (k : Int) + 1) ≤ wY W :=
  have := of_decide_eq_true ((al3_iff 20).1 h.2.2.2 k (by omega) hk)
  ⟨this.1, this.2.1, this.2.2.1, this.2.2.2.1⟩
-- the class: refusals
theorem ref_ct {M : dsMem} {W : dsW} {S : slT} {t : Int} (h : CI M W) (hs : CSl M S) : bCt 168 [uR 10 0, uI t, uX 0, uX 0, uX 0] M (fun _ => [uI (aRef W S t)]) (fun M' => M' = M) := by
  intro Q hQ
  have b := CI_b h
  have e5 := cN5 h
  have e1 := cY1 h
  have go : (0 ≤ t ∧ t ≤ 3) → 0 < wLn W → ¬ M 46 t < 0 → ∀ g : Int, (g = if slN S t % 3 = 0 then 1 else 0) → bB 168 49 [uR 10 0, uX 0, uR 13 (M 46 t), uI g, uI 0] [] M Q := by
    intro q1 q2 q3 g hg
    rcases hs.1 t q1.1 (by omega) with a | ⟨a, bb, c, d, f, g1, i, j⟩
    · omega
    have hm : slN S t ≠ -1 := by omega
    refine b_loop (fun (a : Int × Int) => [uR 10 0, uX 0, uR 13 (M 46 t), uI a.1, uI a.2]) (fun a M' => M' = M ∧ ∃ k : Nat, k ≤ 20 ∧ a.2 = 3 * (k : Int) ∧ a.1 = if slN S t % 3 = 0 ∧ al3 (goodAt W (slF S t)) (slN S t) k = true then 1 else 0) (fun a => (63 - a.2).toNat) ?_ (g, 0) M ⟨rfl, 0, by omega, rfl, by rw [hg]; exact if_iff ⟨fun q => ⟨q, rfl⟩, fun q => q.1⟩⟩
    rintro ⟨x3, x4⟩ M' ⟨hM, k, hk, hx4, hx3⟩ ih
    subst hM
    simp only at hx4 hx3
    subst hx4
    show bB 168 49 [uR 10 0, uX 0, uR 13 (M' 46 t), uI x3, uI (3 * (k : Int))] [] M' Q
    have fin : slN S t ≤ 3 * (k : Int) + 2 → ∀ v : Int, (v = if slN S t % 3 = 0 ∧ al3 (goodAt W (slF S t)) (slN S t) k = true then 0 else -2) → Q [uI v] M' := fun q v hv => by
      refine q_eq ?_ (hQ M' rfl)
      unfold aRef
      rw [if_pos ⟨q1, q2⟩, if_neg hm, hv]
      exact if_iff ⟨fun u => ⟨u.1, (al3_end q hk).2 u.2⟩, fun u => ⟨u.1, (al3_end q hk).1 u.2⟩⟩
    have nx : ¬ slN S t ≤ 3 * (k : Int) + 2 → ∀ v : Int, (v = if slN S t % 3 = 0 ∧ al3 (goodAt W (slF S t)) (slN S t) (k + 1) = true then 1 else 0) → bB 168 49 [uR 10 0, uX 0, uR 13 (M' 46 t), uI v, uI (3 * (k : Int) + 3)] [] M' Q := fun q v hv =>
      ih (v, 3 * (k : Int) + 3) M' (by show (63 - (3 * (k : Int) + 3)).toNat < (63 - 3 * (k : Int)).toNat; omega) ⟨rfl, k + 1, by omega, by show 3 * (k : Int) + 3 = 3 * ((k + 1 : Nat) : Int); omega, hv⟩
    have gd : ¬ slN S t ≤ 3 * (k : Int) + 2 → (goodAt W (slF S t) (3 * (k : Int)) = true ↔ ((¬ ((M' (M' 46 t + 1) (3 * (k : Int))) < 0)) ∧ ((¬ ((M' 24 5) ≤ (M' (M' 46 t + 1) (3 * (k : Int))))) ∧ ((¬ ((M' (M' 46 t + 1) (3 * (k : Int) + 1)) < 0)) ∧ ((¬ ((M' 24 1) < (M' (M' 46 t + 1) (3 * (k : Int) + 1)))) ∧ ((¬ ((M' (M' 46 t + 1) (3 * (k : Int) + 2)) < 0)) ∧ (¬ (60 < (M' (M' 46 t + 1) (3 * (k : Int) + 2)))))))))) := fun q => by
      rw [j _ (by omega) (by omega), j _ (by omega) (by omega), j _ (by omega) (by omega), e5, e1]
      unfold goodAt
      rw [decide_eq_true_iff]
      omega
    refine r168_49 (s1 := by omega) (s2 := by omega) (k1 := fun q1 q2 => fin (by omega) _ ?_) (k2 := fun q1 q2 => fin (by omega) _ ?_) (s3 := fun q1 q2 => by omega) (k3 := fun q1 q2 => nx (by omega) _ ?_) (s4 := fun q1 q2 => by omega) (s5 := fun q1 q2 => by omega) (s6 := fun q1 q2 => by omega) (s7 := fun q1 q2 q3 => by omega) (k4 := fun q1 q2 q3 => nx (by omega) _ ?_) (s8 := fun q1 q2 q3 => by omega) (k5 := fun q1 q2 q3 => nx (by omega) _ ?_)
    · rw [q2] at hx3; rw [if_neg (if01_0 hx3.symm)]
    · rw [hx3] at q2; rw [if_pos (if01_1 q2)]
    · rw [q2] at hx3
      rw [if_neg (fun u => if01_0 hx3.symm ⟨u.1, ((al3_suc (by omega)).1 u.2).1⟩)]
    · rw [if_neg (fun u => q3 ((gd (by omega)).1 ((al3_suc (by omega)).1 u.2).2))]
    · rw [hx3] at q2
      have := if01_1 q2
      rw [if_pos ⟨this.1, (al3_suc (by omega)).2 ⟨this.2, (gd (by omega)).2 q3⟩⟩]
  have hr : (0 ≤ t ∧ t ≤ 3) → ¬ M 46 t < 0 → 115 ≤ M 46 t ∧ M (M 46 t) 1 = slN S t ∧ 0 ≤ slN S t := fun q1 q3 => by
    rcases hs.1 t q1.1 (by omega) with a | ⟨a, bb, c, d, f, g1, i, j⟩
    · omega
    · exact ⟨f, i, a⟩
  refine r168_0 (k1 := fun q => ?_) (s1 := fun q1 q2 => by omega) (s2 := fun q1 q2 q3 => by omega) (s3 := fun q1 q2 q3 => by have := hr q1 q3; omega) (k2 := fun q1 q2 q3 q4 => go q1 (by omega) q3 0 ?_) (k3 := fun q1 q2 q3 q4 => go q1 (by omega) q3 1 ?_) (k4 := fun q1 q2 q3 => ?_) (k5 := fun q1 q2 => ?_)
  · refine q_eq ?_ (hQ M rfl)
    unfold aRef; rw [if_neg (fun u => q u.1)]
  · rw [(hr q1 q3).2.1] at q4; rw [if_neg q4]
  · rw [(hr q1 q3).2.1] at q4; rw [if_pos q4]
  · refine q_eq ?_ (hQ M rfl)
    unfold aRef; rw [if_pos ⟨q1, by omega⟩]
    rcases hs.1 t q1.1 (by omega) with a | ⟨a, bb, c, d, f, g1, i, j⟩
    · rw [if_pos a.1]
    · omega
  · refine q_eq ?_ (hQ M rfl)
    unfold aRef; rw [if_neg (fun u => by omega)]
def aRfs (W : dsW) (S : slT) (t s : Int) : Int := if 0 ≤ s ∧ s ≤ wN W - 1 then aRef W S t else -2
theorem aRfs_ok {W : dsW} {S : slT} {t s : Int} (h : 0 ≤ aRfs W S t s) : SeenOK W S t ∧ 0 ≤ s ∧ s < wN W := by
  unfold aRfs at h
  split at h
  · exact ⟨aRef_ok h, by omega⟩
  · omega
/-- is the run as seen -/
theorem seen_ct {M : dsMem} {W : dsW} {S : slT} {t : Int} {P : dsP} (hW : WOK W) (hs : CSl M S) (hF : FR M 62 P) (hN : pN P = wN W) (hY : pY P = wY W) (ok : SeenOK W S t) : bCt 170 [uR 10 0, uI t, uX 0, uX 0, uX 0] M (fun _ => [uI (if seenB P S t = true then 1 else 0)]) (fun M' => M' = M) := by
  intro Q hQ
  have hw := hW.1
  rcases hs.1 t ok.1.1.1 (by have := ok.1.1.2; omega) with a | ⟨a, bb, c, d, f, g1, i, j⟩
  · exact absurd a.1 ok.2.1
  have ot := ok.1.1
  refine r170_0 (s1 := by omega) (k1 := fun _ => ?_) (k2 := fun q => by omega)
  refine b_loop (fun (a : Int) => [uR 10 0, uX 0, uR 13 (M 46 t), uI a, uX 0]) (fun a M' => M' = M ∧ ∃ k : Nat, k ≤ 20 ∧ a = 3 * (k : Int) ∧ al3 (fun i => decide (aH P (slF S t (i + 1)) (slF S t i) = slF S t (i + 2))) (slN S t) k = true) (fun a => (63 - a).toNat) ?_ 0 M ⟨rfl, 0, by omega, rfl, rfl⟩
  rintro x M' ⟨hM, k, hk, hx, hA⟩ ih
  subst hM
  subst hx
  show bB 170 15 [uR 10 0, uX 0, uR 13 (M' 46 t), uI (3 * (k : Int)), uX 0] [] M' Q
  have hf : ¬ M' (M' 46 t) 1 ≤ 3 * (k : Int) + 2 → (M' (M' 46 t + 1) (3 * (k : Int)) = slF S t (3 * (k : Int)) ∧ M' (M' 46 t + 1) (3 * (k : Int) + 1) = slF S t (3 * (k : Int) + 1) ∧ M' (M' 46 t + 1) (3 * (k : Int) + 2) = slF S t (3 * (k : Int) + 2)) ∧ 0 ≤ slF S t (3 * (k : Int)) ∧ slF S t (3 * (k : Int)) < wN W ∧ 0 ≤ slF S t (3 * (k : Int) + 1) ∧ slF S t (3 * (k : Int) + 1) ≤ wY W := fun q =>
    ⟨⟨j _ (by omega) (by omega), j _ (by omega) (by omega), j _ (by omega) (by omega)⟩, ok_f ok bb (by omega)⟩
  have hH : ¬ M' (M' 46 t) 1 ≤ 3 * (k : Int) + 2 → M' 67 (M' (M' 46 t + 1) (3 * (k : Int) + 1) * 6 + M' (M' 46 t + 1) (3 * (k : Int))) = aH P (slF S t (3 * (k : Int) + 1)) (slF S t (3 * (k : Int))) := fun q => by
    have := hf q
    rw [this.1.1, this.1.2.1]
    exact FQ_H hF (by rw [hY]; omega) (by rw [hN]; omega)
  refine r170_15 (s1 := by omega) (s2 := by omega) (k1 := fun q => ?_) (s3 := fun q => by omega) (s4 := fun q => by omega) (s5 := fun q => by have := hf q; omega) (s6 := fun q => by have := hf q; omega) (s7 := fun q => by have := hf q; omega) (s8 := fun q => by have := hf q; omega) (s9 := fun q => by omega) (s10 := fun q q2 => by omega) (k2 := fun q q2 => ?_) (k3 := fun q q2 => ?_)
  · refine q_eq ?_ (hQ M' rfl)
    have z : seenB P S t = true := (al3_end (by omega) hk).2 hA
    rw [if_pos z]
  · rw [hH q, (hf q).1.2.2] at q2
    exact ih (3 * (k : Int) + 3) M' (by show (63 - (3 * (k : Int) + 3)).toNat < (63 - 3 * (k : Int)).toNat; omega) ⟨rfl, k + 1, by omega, by omega, (al3_suc (by omega)).2 ⟨hA, decide_eq_true q2⟩⟩
  · rw [hH q, (hf q).1.2.2] at q2
    refine q_eq ?_ (hQ M' rfl)
    have z : ¬ seenB P S t = true := fun u => q2 (of_decide_eq_true ((al3_iff 20).1 (show al3 _ _ 20 = true from u) k (by omega) (by omega)))
    rw [if_neg z]
-- the rooms that fit
abbrev gsT := Int × (Int → Int) × (Int → Int → Int)
def gStep (W : dsW) (S : slT) (t s r : Int) (g : gsT) : gsT :=
  if seenB (PRm W s r) S t = true then (g.1 + 1, dsUpd g.2.1 g.1 r, dsUpd g.2.2 g.1 (fun y => aH (PRm W s r) y s)) else g
def gN (W : dsW) (S : slT) (t s : Int) (n : Nat) : gsT := match n with
  | 0 => (0, fun _ => 0, fun _ _ => 0)
  | k + 1 => gStep W S t s ((k : Int) + 1) (gN W S t s k)
theorem gN_b {W : dsW} {S : slT} {t s : Int} (hW : WOK W) (hs : 0 ≤ s ∧ s < wN W) : ∀ n : Nat, n ≤ 60 → 0 ≤ (gN W S t s n).1 ∧ (gN W S t s n).1 ≤ n ∧ ∀ k y, 0 ≤ k → k < (gN W S t s n).1 → 0 ≤ (gN W S t s n).2.2 k y ∧ (gN W S t s n).2.2 k y ≤ 60
  | 0, _ => ⟨Int.le_refl _, Int.le_refl _, fun k y k0 k1 => by have : k < 0 := k1; omega⟩
  | n + 1, hn => by
    have ih := gN_b (S := S) (t := t) hW hs n (by omega)
    show 0 ≤ (gStep W S t s ((n : Int) + 1) (gN W S t s n)).1 ∧ (gStep W S t s ((n : Int) + 1) (gN W S t s n)).1 ≤ ((n + 1 : Nat) : Int) ∧ ∀ k y, 0 ≤ k → k < (gStep W S t s ((n : Int) + 1) (gN W S t s n)).1 → 0 ≤ (gStep W S t s ((n : Int) + 1) (gN W S t s n)).2.2 k y ∧ (gStep W S t s ((n : Int) + 1) (gN W S t s n)).2.2 k y ≤ 60
    obtain ⟨g, hg⟩ : ∃ g, gN W S t s n = g := ⟨_, rfl⟩
    rw [hg] at ih ⊢
    unfold gStep
    split
    · refine ⟨by show 0 ≤ g.1 + 1; omega, by show g.1 + 1 ≤ ((n + 1 : Nat) : Int); omega, fun k y k0 k1 => ?_⟩
      have k2 : k < g.1 + 1 := k1
      show 0 ≤ dsUpd g.2.2 g.1 (fun y => aH (PRm W s ((n : Int) + 1)) y s) k y ∧ dsUpd g.2.2 g.1 (fun y => aH (PRm W s ((n : Int) + 1)) y s) k y ≤ 60
      by_cases hk : k = g.1
      · subst hk
        rw [upd_e]
        have hP := PRm_ok (W := W) (st := s) (n := (n : Int) + 1) hW (by omega)
        have := stP_WS hP (PRm_T hW) y s hs.1 hs.2
        have hr : pRoom (PRm W s ((n : Int) + 1)) s ≤ 60 := (hP.2.1 s hs.1 hs.2).2.1
        exact ⟨dySum_nn this.1, Int.le_trans this.2 hr⟩
      · rw [upd_n _ _ hk]; exact ih.2.2 k y k0 (by omega)
    · exact ⟨ih.1, by omega, ih.2.2⟩
def GCs (M : dsMem) (W : dsW) (g : gsT) : Prop := M 77 0 = g.1 ∧ ∀ k, 0 ≤ k → k < g.1 → M 78 k = g.2.1 k ∧ ∀ y, 0 ≤ y → y ≤ wY W → M 79 (k * 13 + y) = g.2.2 k y
theorem GCs_e {M M' : dsMem} {W : dsW} {g : gsT} (h : GCs M W g) (e : ∀ a j, 77 ≤ a → a ≤ 79 → M' a j = M a j) : GCs M' W g := by
  refine ⟨by rw [e _ _ (by omega) (by omega)]; exact h.1, fun k k0 k1 => ⟨by rw [e _ _ (by omega) (by omega)]; exact (h.2 k k0 k1).1, fun y y0 y1 => by rw [e _ _ (by omega) (by omega)]; exact (h.2 k k0 k1).2 y y0 y1⟩⟩
theorem keepG_ct {M : dsMem} {n r s : Int} (hn : M 77 0 = n) (h0 : 0 ≤ n ∧ n < 60) (hs : 0 ≤ s ∧ s < 6) : bCt 31 [uR 7 77, uI r, uI s, uR 5 62, uX 0] M (fun _ => [])
    (fun M' => M' 77 0 = n + 1 ∧ M' 78 n = r ∧ (∀ y, 0 ≤ y → y < 13 → M' 79 (n * 13 + y) = M 67 (y * 6 + s)) ∧ Fr (fun a j => (a = 77 ∧ j = 0) ∨ (a = 78 ∧ j = n) ∨ (a = 79 ∧ n * 13 ≤ j ∧ j < n * 13 + 13)) M M') := by
  intro Q hQ
  refine r31_0 (k1 := fun q => by omega) (s1 := fun _ => by omega) (k2 := fun _ => ?_)
  refine b_loop (fun (a : Int) => [uR 7 77, uX 0, uI s, uR 5 62, uI a]) (fun a M' => (0 ≤ a ∧ a ≤ 13) ∧ M' 77 0 = n ∧ M' 78 n = r ∧ (∀ y, 0 ≤ y → y < a → M' 79 (n * 13 + y) = M 67 (y * 6 + s)) ∧ Fr (fun a j => (a = 78 ∧ j = n) ∨ (a = 79 ∧ n * 13 ≤ j ∧ j < n * 13 + 13)) M M') (fun a => (13 - a).toNat) ?_ 0 _ ⟨by omega, by rw [ds_gn (by omega)]; exact hn, by rw [ds_ge (by omega)], fun y y0 y1 => by omega, Fr_set Fr_refl (by omega)⟩
  rintro x M' ⟨hx, h1, h2, h3, h4⟩ ih
  have e67 : ∀ j, M' 67 j = M 67 j := fun j => h4 67 j (by omega)
  refine r31_22 (s1 := fun q => by omega) (k1 := fun q => hQ _ ⟨by rw [ds_ge (by omega), h1], by rw [ds_gn (by omega)]; exact h2, fun y y0 y1 => by rw [ds_gn (by omega)]; exact h3 y y0 (by omega), Fr_set (Fr_mono (fun a j q => by omega) h4) (by omega)⟩) (s2 := fun q => by omega) (s3 := fun q => by omega) (s4 := fun q => by omega) (s5 := fun q => by omega) (k2 := fun q => ?_)
  refine ih (x + 1) _ (by show (13 - (x + 1)).toNat < (13 - x).toNat; omega) ⟨by omega, by rw [ds_gn (by omega)]; exact h1, by rw [ds_gn (by omega)]; exact h2, fun y y0 y1 => ?_, Fr_set h4 (by omega)⟩
  by_cases hy : y = x
  · subst hy
    rw [ds_ge (by omega), e67]
  · rw [ds_gn (by omega)]; exact h3 y y0 (by omega)
def CQ5 : Int → Int → Prop := fun a _ => 62 ≤ a ∧ a ≤ 76
theorem cRun5 {M M1 : dsMem} {P : dsP} (hf : Fr CQ5 M M1) (hP : POK P) (hsv : ∀ y s, pSv P y s = false) (hC : CWp M1 62 P ∧ CE M1 62 P) :
    bCt 7 [uR 5 62, uI 0, uI 0, uX 0, uX 0] M1 (fun M' => [uI (if M' (62 + 7) (pY P) = dsShl 1 (pW P) - 1 then 1 else 0)]) (fun M' => FR M' 62 P ∧ Fr CQ5 M M') := by
  intro Q hQ
  refine run_ct hP (Or.inr rfl) hsv hC.1 hC.2 Q (fun M' r => hQ M' ⟨r.1, Fr_trans hf (Fr_mono ?_ r.2.2)⟩)
  intro a j q; unfold FX at q; unfold CQ5; omega
def gFin (W : dsW) (S : slT) (t s : Int) : gsT := gN W S t s 60
def aGs (W : dsW) (S : slT) (t s : Int) : Int := if 0 ≤ aRfs W S t s then (gFin W S t s).1 else aRfs W S t s
theorem aGs_p {W : dsW} {S : slT} {t s : Int} (h : 0 ≤ aGs W S t s) : 0 ≤ aRfs W S t s := by
  unfold aGs at h
  split at h
  · assumption
  · exact h
theorem aGs_n {W : dsW} {S : slT} {t s : Int} (hW : WOK W) (h : ¬ 0 ≤ aGs W S t s) : ¬ 0 ≤ aRfs W S t s := by
  intro q
  unfold aGs at h
  rw [if_pos q] at h
  exact h (gN_b (S := S) (t := t) hW (aRfs_ok q).2 60 (by omega)).1
theorem guess_ct {M : dsMem} {W : dsW} {S : slT} {t s : Int} (h : CI M W) (hs : CSl M S) : bCt 171 [uR 10 0, uI t, uI s, uX 0, uX 0, uX 0] M (fun _ => [uI (aGs W S t s)]) (fun M' => CI M' W ∧ (0 ≤ aRfs W S t s → GCs M' W (gFin W S t s)) ∧ Fr CQ2 M M') := by
  intro Q hQ
  have b := CI_b h
  have hw := h.1.1
  have go : 0 ≤ aRfs W S t s → bB 171 35 [uR 10 0, uI t, uI s, uX 0, uI 1, uX 0] [] (dsSet M 77 0 0) Q := by
    intro q0
    have ok := (aRfs_ok q0).1
    have hst := (aRfs_ok q0).2
    refine b_loop (fun (a : Int) => [uR 10 0, uI t, uI s, uX 0, uI a, uX 0]) (fun a M' => ∃ k : Nat, k ≤ 60 ∧ a = (k : Int) + 1 ∧ GCs M' W (gN W S t s k) ∧ Fr CQ2 M M') (fun a => (62 - a).toNat) ?_ 1 _ ⟨0, by omega, rfl, ⟨by rw [ds_ge (by omega)]; rfl, fun k k0 k1 => by have : k < 0 := k1; omega⟩, Fr_set Fr_refl (by unfold CQ2; omega)⟩
    rintro x M' ⟨k, hk, hx, hG, hF⟩ ih
    subst hx
    have hI := CI_q h hF
    have hS := CSl_q hs (CQ2_q hF)
    have gb := gN_b (S := S) (t := t) h.1 hst k hk
    show bB 171 35 [uR 10 0, uI t, uI s, uX 0, uI ((k : Int) + 1), uX 0] [] M' Q
    have e77 : M' 77 0 = (gN W S t s k).1 := hG.1
    have step : gN W S t s (k + 1) = gStep W S t s ((k : Int) + 1) (gN W S t s k) := rfl
    have hrun : (k : Int) + 1 ≤ 60 → ∀ M1, Dfl M1 63 ∧ Fr (fun a _ => a = 63) M' M1 → bCt 7 [uR 5 62, uI 0, uI 0, uX 0, uX 0] (dsSet (dsSet M1 63 5 s) 63 6 ((k : Int) + 1)) (fun M2 => [uI (if M2 (62 + 7) (pY (PRm W s ((k : Int) + 1))) = dsShl 1 (pW (PRm W s ((k : Int) + 1))) - 1 then 1 else 0)]) (fun M2 => FR M2 62 (PRm W s ((k : Int) + 1)) ∧ Fr CQ5 M' M2) := fun q M1 r1 =>
      cRun5 (Fr_set (Fr_set (Fr_mono (fun a j q => by unfold CQ5; omega) r1.2) (by unfold CQ5; omega)) (by unfold CQ5; omega)) (PRm_ok h.1 (by omega)) (fun _ _ => rfl) (cpPRm (n := (k : Int) + 1) h.1 hI.2.1 r1 (by omega)).1
    refine r171_35 (k1 := fun q => ?_) (hA1 := fun q => oth_ct) (hA2 := fun q M1 r1 => hrun (by omega) M1 r1) (hA3 := fun q M1 r1 M2 r2 => seen_ct h.1 (CSl_e hS (fun a j u => r2.2 a j (by unfold CQ5; omega))) r2.1 rfl rfl ok) (s1 := fun q M1 r1 M2 r2 M3 r3 q2 => by omega) (k2 := fun q M1 r1 M2 r2 M3 r3 q2 => ?_) (hA4 := fun q M1 r1 M2 r2 M3 r3 q2 => keepG_ct (M := M3) (n := (gN W S t s k).1) (r := (k : Int) + 1) (s := s) (by rw [r3, r2.2 _ _ (by unfold CQ5; omega)]; exact e77) (by omega) (by omega)) (s2 := fun q M1 r1 M2 r2 M3 r3 q2 M4 r4 => by omega) (k3 := fun q M1 r1 M2 r2 M3 r3 q2 M4 r4 => ?_)
    · have e60 : k = 60 := by omega
      subst e60
      refine q_eq ?_ (hQ M' ⟨hI, fun _ => hG, hF⟩)
      unfold aGs; rw [if_pos q0]
      exact e77
    · subst r3
      have z := if01_0 q2
      refine ih ((k : Int) + 1 + 1) M3 (by show (62 - ((k : Int) + 1 + 1)).toNat < (62 - ((k : Int) + 1)).toNat; omega) ⟨k + 1, by omega, by omega, ?_, Fr_trans hF (Fr_mono (fun a j u => by unfold CQ5 at u; unfold CQ2; omega) r2.2)⟩
      rw [step]
      unfold gStep
      rw [if_neg z]
      exact GCs_e hG (fun a j u1 u2 => r2.2 a j (by unfold CQ5; omega))
    · subst r3
      have z := if01_1 q2
      have f5 : Fr CQ2 M' M3 := Fr_mono (fun a j u => by unfold CQ5 at u; unfold CQ2; omega) r2.2
      refine ih ((k : Int) + 1 + 1) M4 (by show (62 - ((k : Int) + 1 + 1)).toNat < (62 - ((k : Int) + 1)).toNat; omega) ⟨k + 1, by omega, by omega, ?_, Fr_trans hF (Fr_trans f5 (Fr_mono (fun a j u => by unfold CQ2; omega) r4.2.2.2))⟩
      rw [step]
      unfold gStep
      rw [if_pos z]
      have e3 : ∀ a j, 77 ≤ a → a ≤ 79 → M3 a j = M' a j := fun a j u1 u2 => r2.2 a j (by unfold CQ5; omega)
      refine ⟨r4.1, fun i i0 i1 => ?_⟩
      have i2 : i < (gN W S t s k).1 + 1 := i1
      show M4 78 i = dsUpd (gN W S t s k).2.1 (gN W S t s k).1 ((k : Int) + 1) i ∧ ∀ y, 0 ≤ y → y ≤ wY W → M4 79 (i * 13 + y) = dsUpd (gN W S t s k).2.2 (gN W S t s k).1 (fun y => aH (PRm W s ((k : Int) + 1)) y s) i y
      by_cases hi : i = (gN W S t s k).1
      · rw [hi, upd_e, upd_e]
        refine ⟨r4.2.1, fun y y0 y1 => ?_⟩
        rw [r4.2.2.1 y y0 (by omega)]
        exact FQ_H r2.1 (by show 0 ≤ y ∧ y ≤ wY W; omega) hst
      · rw [upd_n _ _ hi, upd_n _ _ hi]
        have := hG.2 i i0 (by omega)
        refine ⟨by rw [r4.2.2.2 _ _ (by omega), e3 _ _ (by omega) (by omega)]; exact this.1, fun y y0 y1 => ?_⟩
        rw [r4.2.2.2 _ _ (by omega), e3 _ _ (by omega) (by omega)]; exact this.2 y y0 y1
  refine r171_0 (k1 := fun q => ?_) (hA1 := fun q => ref_ct h hs) (R2 := fun M1 M' => M' = dsSet M1 77 0 0) (hA2 := fun q M1 r1 q2 => fun Q h => r30_0 (k1 := h _ rfl)) (k2 := fun q M1 r1 q2 M2 r2 => ?_) (k3 := fun q M1 r1 q2 => ?_)
  · have e : aRfs W S t s = -2 := by unfold aRfs; rw [if_neg (by omega)]
    refine q_eq ?_ (hQ M ⟨h, fun u => by omega, Fr_refl⟩)
    unfold aGs; rw [if_neg (by omega), e]
  · have e : aRfs W S t s = aRef W S t := by unfold aRfs; rw [if_pos (by omega)]
    subst r1
    subst r2
    exact go (by rw [e]; exact q2)
  · have e : aRfs W S t s = aRef W S t := by unfold aRfs; rw [if_pos (by omega)]
    subst r1
    refine q_eq ?_ (hQ M1 ⟨h, fun u => by omega, Fr_refl⟩)
    unfold aGs; rw [if_neg (by omega), e]
