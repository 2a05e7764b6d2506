/-! the class's reader, word by word -/
def eqW (b : Int → Int) (f : Int) (k : Nat) : Nat → Bool
  | 0 => true
  | j + 1 => eqW b f k j && decide (b (f + (j : Int)) = dsChr k (j : Int))
theorem eqW_iff {b : Int → Int} {f : Int} {k : Nat} : ∀ j : Nat, eqW b f k j = true ↔ ∀ i : Int, 0 ≤ i → i < (j : Int) → b (f + i) = dsChr k i
  | 0 => ⟨fun _ i i0 i1 => by omega, fun _ => rfl⟩
  | j + 1 => by
    have ih := eqW_iff (b := b) (f := f) (k := k) j
    unfold eqW
    rw [Bool.and_eq_true, ih, decide_eq_true_iff]
    constructor
    · intro h i i0 i1
      by_cases hi : i = (j : Int)
      · rw [hi]; exact h.2
      · exact h.1 i i0 (by omega)
    · intro h
      exact ⟨fun i i0 i1 => h i i0 (by omega), h _ (by omega) (by omega)⟩
abbrev isW (n : Int) (b : Int → Int) (p : Int) (k : Nat) : Prop := tU n b p - tF n b p = dsLen k ∧ eqW b (tF n b p) k (dsLen k).toNat = true
theorem len_b {k : Nat} (h : k < 15) : 2 ≤ dsLen k ∧ dsLen k ≤ 5 := by
  have : ∀ u : Fin 15, 2 ≤ dsLen u.val ∧ dsLen u.val ≤ 5 := by decide +kernel
  exact this ⟨k, h⟩
theorem isW_iff {n p : Int} {b : Int → Int} {k : Nat} (hk : k < 15) : isW n b p k ↔ tU n b p - tF n b p = dsLen k ∧ ∀ i, 0 ≤ i → i < dsLen k → b (tF n b p + i) = dsChr k i := by
  have := len_b hk
  unfold isW
  rw [eqW_iff, show (((dsLen k).toNat : Nat) : Int) = dsLen k by omega]
theorem isW_ne {n p : Int} {b : Int → Int} {j k : Nat} (hj : j < 15) (hk : k < 15) (h : j ≠ k) (h1 : isW n b p j) : ¬ isW n b p k := by
  intro h2
  rw [isW_iff hj] at h1
  rw [isW_iff hk] at h2
  have key : ∀ u v : Fin 15, u ≠ v → dsLen u.val = dsLen v.val → ∃ i : Fin 5, (i.val : Int) < dsLen u.val ∧ dsChr u.val (i.val : Int) ≠ dsChr v.val (i.val : Int) := by decide +kernel
  obtain ⟨i, i1, ne⟩ := key ⟨j, hj⟩ ⟨k, hk⟩ (fun e => h (congrArg Fin.val e)) (show dsLen j = dsLen k by omega)
  have i1' : (i.val : Int) < dsLen j := i1
  have e1 := h1.2 (i.val : Int) (by omega) i1'
  have e2 := h2.2 (i.val : Int) (by omega) (by omega)
  exact ne (e1.symm.trans e2)
abbrev psT := Int × Int × Int
def exW (n : Int) (b : Int → Int) (k : Nat) (q : psT) : psT := if q.1 = 0 then (if isW n b q.2.2 k then (0, q.2.1, tU n b q.2.2) else (1, tF n b q.2.2, q.2.2)) else q
def nmQ (n : Int) (b : Int → Int) (lo hi : Int) (q : psT) : psT := if q.1 = 0 then (if tK n b q.2.2 = 2 then (if lo ≤ tN n b q.2.2 ∧ tN n b q.2.2 ≤ hi then (0, q.2.1, tU n b q.2.2) else (2, tF n b q.2.2, q.2.2)) else (1, tF n b q.2.2, q.2.2)) else q
def nmV (n : Int) (b : Int → Int) (q : psT) : Int := if q.1 = 0 ∧ tK n b q.2.2 = 2 then tN n b q.2.2 else 0
def sgQ (n : Int) (b : Int → Int) (q : psT) : psT := if q.1 = 0 then (if tK n b q.2.2 = 3 then (0, q.2.1, tU n b q.2.2) else (1, tF n b q.2.2, q.2.2)) else q
theorem exW_0 {n : Int} {b : Int → Int} {k : Nat} {q : psT} (h : (exW n b k q).1 = 0) : q.1 = 0 := by
  unfold exW at h
  split at h
  · assumption
  · exact h
theorem nmQ_0 {n lo hi : Int} {b : Int → Int} {q : psT} (h : (nmQ n b lo hi q).1 = 0) : q.1 = 0 ∧ tK n b q.2.2 = 2 ∧ lo ≤ tN n b q.2.2 ∧ tN n b q.2.2 ≤ hi := by
  unfold nmQ at h
  split at h
  · rename_i h0
    split at h
    · rename_i h1
      split at h
      · rename_i h2; exact ⟨h0, h1, h2⟩
      · exact absurd h (by show ¬ (2 : Int) = 0; omega)
    · exact absurd h (by show ¬ (1 : Int) = 0; omega)
  · rename_i h0; exact absurd h h0
theorem sgQ_0 {n : Int} {b : Int → Int} {q : psT} (h : (sgQ n b q).1 = 0) : q.1 = 0 ∧ tK n b q.2.2 = 3 := by
  unfold sgQ at h
  split at h
  · rename_i h0
    split at h
    · rename_i h1; exact ⟨h0, h1⟩
    · exact absurd h (by show ¬ (1 : Int) = 0; omega)
  · rename_i h0; exact absurd h h0
def PQ (n : Int) (q : psT) : Prop := q.1 = 0 → q.2.1 = -1 ∧ 0 ≤ q.2.2 ∧ q.2.2 ≤ n
theorem exW_p {n : Int} {b : Int → Int} {k : Nat} {q : psT} (h : PQ n q) : PQ n (exW n b k q) ∧ ((exW n b k q).1 = 0 → q.2.2 ≤ (exW n b k q).2.2) := by
  unfold exW
  split
  · rename_i h0
    have hq := h h0
    have tb := t_b (n := n) (p := q.2.2) (b := b) hq.2
    split
    · exact ⟨fun _ => ⟨hq.1, by show 0 ≤ tU n b q.2.2; omega, tb.2.2.1⟩, fun _ => by show q.2.2 ≤ tU n b q.2.2; omega⟩
    · exact ⟨fun u => absurd u (by show ¬ (1 : Int) = 0; omega), fun u => absurd u (by show ¬ (1 : Int) = 0; omega)⟩
  · exact ⟨h, fun _ => Int.le_refl _⟩
theorem nmQ_p {n lo hi : Int} {b : Int → Int} {q : psT} (h : PQ n q) : PQ n (nmQ n b lo hi q) ∧ ((nmQ n b lo hi q).1 = 0 → q.2.2 ≤ (nmQ n b lo hi q).2.2) := by
  unfold nmQ
  split
  · rename_i h0
    have hq := h h0
    have tb := t_b (n := n) (p := q.2.2) (b := b) hq.2
    split
    · split
      · exact ⟨fun _ => ⟨hq.1, by show 0 ≤ tU n b q.2.2; omega, tb.2.2.1⟩, fun _ => by show q.2.2 ≤ tU n b q.2.2; omega⟩
      · exact ⟨fun u => absurd u (by show ¬ (2 : Int) = 0; omega), fun u => absurd u (by show ¬ (2 : Int) = 0; omega)⟩
    · exact ⟨fun u => absurd u (by show ¬ (1 : Int) = 0; omega), fun u => absurd u (by show ¬ (1 : Int) = 0; omega)⟩
  · exact ⟨h, fun _ => Int.le_refl _⟩
theorem sgQ_p {n : Int} {b : Int → Int} {q : psT} (h : PQ n q) : PQ n (sgQ n b q) ∧ ((sgQ n b q).1 = 0 → q.2.2 ≤ (sgQ n b q).2.2) := by
  unfold sgQ
  split
  · rename_i h0
    have hq := h h0
    have tb := t_b (n := n) (p := q.2.2) (b := b) hq.2
    split
    · exact ⟨fun _ => ⟨hq.1, by show 0 ≤ tU n b q.2.2; omega, tb.2.2.1⟩, fun _ => by show q.2.2 ≤ tU n b q.2.2; omega⟩
    · exact ⟨fun u => absurd u (by show ¬ (1 : Int) = 0; omega), fun u => absurd u (by show ¬ (1 : Int) = 0; omega)⟩
  · exact ⟨h, fun _ => Int.le_refl _⟩
-- the class
def FP : Int → Int → Prop := fun a j => a = 1 ∧ (j = 1 ∨ j = 2 ∨ j = 4 ∨ j = 5)
/-- where the class's reader stands -/
def CQs (M : dsMem) (n : Int) (b : Int → Int) (q : psT) : Prop := CTp M n b ∧ M 1 1 = q.1 ∧ M 1 2 = q.2.1 ∧ (q.1 = 0 → M 1 5 = q.2.2) ∧ PQ n q
theorem CTp_p {M M' : dsMem} {n : Int} {b : Int → Int} (h : CTp M n b) (e : Fr FP M M') : CTp M' n b := CTp_e h (fun a j q => e a j (by unfold FP; omega))
theorem FT_p {M M' : dsMem} (h : Fr FT M M') : Fr FP M M' := Fr_mono (fun a j q => by unfold FT at q; unfold FP; omega) h
theorem isw_ct {M : dsMem} {n p : Int} {b : Int → Int} {k : Nat} (h : CTp M n b) (hk : k < 15) (h4 : M 1 4 = tF n b p) (h5 : M 1 5 = tU n b p) (hp : 0 ≤ p ∧ p ≤ n) : bCt 59 [uR 6 1, uX (k + 2), uX 0] M (fun _ => [uI (if isW n b p k then 1 else 0)]) (fun M' => M' = M) := by
  intro Q hQ
  have tb := t_b (n := n) (p := p) (b := b) hp
  have h600 := h.2.1
  have hl := len_b hk
  have e2 : M 1 5 - M 1 4 = dsLen k → ∀ i, 0 ≤ i → i < dsLen k → M 2 (M 1 4 + i) = b (tF n b p + i) := fun q i i0 i1 => by rw [h4]; exact h.2.2 _ (by omega) (by omega)
  refine r59_0 (s1 := hk) (s2 := by omega) (s3 := fun q i i0 i1 => by omega) (s4 := fun q i i0 i1 => ⟨hk, i0, i1⟩) (s5 := fun q i i0 i1 => by omega) (k1 := fun q q2 => ?_) (k2 := fun q q2 => ?_) (k3 := fun q => ?_)
  · refine q_eq ?_ (hQ M rfl)
    have f := dsFind_p (p := fun i => ¬ (M 2 (M 1 4 + i) = dsChr k i)) (n := dsLen k) 0 q2
    rw [if_neg (fun u => f.1 (by rw [e2 q _ f.2.1 q2]; exact ((isW_iff hk).1 u).2 _ f.2.1 q2))]
  · refine q_eq ?_ (hQ M rfl)
    have f := dsFind_all (p := fun i => ¬ (M 2 (M 1 4 + i) = dsChr k i)) (n := dsLen k) 0 q2
    rw [if_pos ((isW_iff hk).2 ⟨by omega, fun i i0 i1 => by rw [← e2 q i i0 i1]; exact Decidable.not_not.1 (f i i0 i1)⟩)]
  · refine q_eq ?_ (hQ M rfl)
    rw [if_neg (fun u => q (by rw [h4, h5]; exact u.1))]
theorem fail_ct {M : dsMem} {x : Int} : bCt 53 [uR 6 1, uI x] M (fun _ => []) (fun M' => M' = dsSet (dsSet M 1 1 x) 1 2 (M 1 4)) := by
  intro Q hQ
  exact r53_0 (k1 := hQ _ rfl)
/-- failing at the token just read -/
theorem CQs_fail {M M' : dsMem} {n x f p : Int} {b : Int → Int} (h : CTp M n b) (hx : x ≠ 0) (h4 : M 1 4 = f) (e : M' = dsSet (dsSet M 1 1 x) 1 2 (M 1 4)) : CQs M' n b (x, f, p) ∧ Fr FP M M' := by
  subst e
  have hF : Fr FP M (dsSet (dsSet M 1 1 x) 1 2 (M 1 4)) := Fr_set (Fr_set Fr_refl (by unfold FP; omega)) (by unfold FP; omega)
  exact ⟨⟨CTp_p h hF, by rw [ds_gn (by omega), ds_ge ⟨rfl, rfl⟩], by rw [ds_ge ⟨rfl, rfl⟩]; exact h4, fun u => absurd u hx, fun u => absurd u hx⟩, hF⟩
/-- one token on, well -/
theorem CQs_next {M M' : dsMem} {n p : Int} {b : Int → Int} (h : CQs M n b (0, -1, p)) (r : M' 1 4 = tF n b p ∧ M' 1 5 = tU n b p ∧ Fr FT M M') : CQs M' n b (0, -1, tU n b p) := by
  have hq := h.2.2.2.2 rfl
  have tb := t_b (n := n) (p := p) (b := b) hq.2
  refine ⟨CTp_p h.1 (FT_p r.2.2), by rw [r.2.2 _ _ (by unfold FT; omega)]; exact h.2.1, by rw [r.2.2 _ _ (by unfold FT; omega)]; exact h.2.2.1, fun _ => r.2.1, fun _ => ⟨rfl, ?_, tb.2.2.1⟩⟩
  have := hq.2.1
  show 0 ≤ tU n b p
  have : 0 ≤ p := hq.2.1
  omega
theorem CQs_pos {M : dsMem} {n : Int} {b : Int → Int} {q : psT} (h : CQs M n b q) (h0 : q.1 = 0) : q = (0, -1, q.2.2) ∧ M 1 5 = q.2.2 ∧ 0 ≤ q.2.2 ∧ q.2.2 ≤ n := by
  have hq := h.2.2.2.2 h0
  refine ⟨?_, h.2.2.2.1 h0, hq.2⟩
  obtain ⟨a, c, d⟩ := q
  simp only at h0 hq ⊢
  rw [h0, hq.1]
def cV (n : Int) (b : Int → Int) (q : psT) : Int := if q.1 = 0 ∧ tK n b q.2.2 = 2 then (if tN n b q.2.2 < 1000000 then tN n b q.2.2 else 1000000) else 0
theorem cV_eq {n lo hi : Int} {b : Int → Int} {q : psT} (h : (nmQ n b lo hi q).1 = 0) (hh : hi < 1000000) : cV n b q = nmV n b q := by
  have := nmQ_0 h
  have c : q.1 = 0 ∧ tK n b q.2.2 = 2 := ⟨this.1, this.2.1⟩
  unfold cV nmV
  rw [if_pos c, if_pos c, if_pos (by omega)]
theorem nmV_b {n lo hi : Int} {b : Int → Int} {q : psT} (h : (nmQ n b lo hi q).1 = 0) : lo ≤ nmV n b q ∧ nmV n b q ≤ hi := by
  have := nmQ_0 h
  unfold nmV
  rw [if_pos ⟨this.1, this.2.1⟩]; exact this.2.2
theorem rn_ct {M : dsMem} {n lo hi : Int} {b : Int → Int} {q : psT} (h : CQs M n b q) (hlo : 0 ≤ lo) (hh : hi < 1000000) : bCt 55 [uR 6 1, uI lo, uI hi, uX 0, uX 0] M (fun _ => [uI (cV n b q)]) (fun M' => CQs M' n b (nmQ n b lo hi q) ∧ Fr FP M M') := by
  intro Q hQ
  by_cases h0 : q.1 = 0
  · have hp := CQs_pos h h0
    obtain ⟨p, hpp⟩ : ∃ p, q.2.2 = p := ⟨_, rfl⟩
    rw [hpp] at hp
    have eq0 := hp.1
    have tb := t_b (n := n) (p := p) (b := b) hp.2.2
    have h600 := h.1.2.1
    subst eq0
    have m1 : M 1 1 = 0 := h.2.1
    have hv : ∀ M1, (M1 1 4 = tF n b p ∧ M1 1 5 = tU n b p ∧ Fr FT M M1) → CTp M1 n b ∧ v58 M1 (M1 1 4) = tK n b p := fun M1 r => by
      have hc := CTp_p h.1 (FT_p r.2.2)
      exact ⟨hc, by rw [v58_eq hc.1 hc.2.2, r.1]⟩
    have hs : tK n b p = 2 → ∀ M1, (M1 1 4 = tF n b p ∧ M1 1 5 = tU n b p ∧ Fr FT M M1) → dsIter (fun (i : Int) (a : Int) => (if (dsw ((((a * 10) + (M1 2 i)) - 48))) < 1000000 then (dsw ((((a * 10) + (M1 2 i)) - 48))) else 1000000)) (M1 1 4) (M1 1 5) 0 = cV n b (0, -1, p) := fun k2 M1 r => by
      have hc := (hv M1 r).1
      have hd := t_dig (n := n) (p := p) (b := b) hp.2.2 k2
      rw [r.1, r.2.1]
      unfold cV
      rw [if_pos ⟨rfl, k2⟩]
      refine (sat_iter (K := 1000000) (b := b) (by omega) hd (fun j a j0 j1 a0 a1 => ?_)).1
      have := hd j j0 j1
      rw [hc.2.2 j (by omega) (by omega)]
      rw [dsw_id (by omega) (by omega), show a * 10 + b j - 48 = 10 * a + (b j - 48) by omega]
    have val : tK n b p = 2 → (tN n b p < 1000000 ∧ cV n b (0, -1, p) = tN n b p) ∨ (1000000 ≤ tN n b p ∧ cV n b (0, -1, p) = 1000000) := fun k2 => by
      have e : cV n b (0, -1, p) = if tN n b p < 1000000 then tN n b p else 1000000 := by unfold cV; rw [if_pos ⟨rfl, k2⟩]
      by_cases hl : tN n b p < 1000000
      · rw [if_pos hl] at e; exact Or.inl ⟨hl, e⟩
      · rw [if_neg hl] at e; exact Or.inr ⟨by omega, e⟩
    have fl : tK n b p = 2 → ¬ (lo ≤ tN n b p ∧ tN n b p ≤ hi) → ∀ M1 M2, (M1 1 4 = tF n b p ∧ M1 1 5 = tU n b p ∧ Fr FT M M1) → M2 = dsSet (dsSet M1 1 1 2) 1 2 (M1 1 4) → CQs M2 n b (nmQ n b lo hi (0, -1, p)) ∧ Fr FP M M2 := fun k2 nb M1 M2 r r2 => by
      have := CQs_fail (p := p) (hv M1 r).1 (by omega) r.1 r2
      unfold nmQ
      rw [if_pos rfl, if_pos k2, if_neg nb]
      exact ⟨this.1, Fr_trans (FT_p r.2.2) this.2⟩
    refine r55_0 (hA1 := fun _ => nt_ct h.1 hp.2.1 hp.2.2) (s1 := fun _ M1 r _ _ => by have := (hv M1 r).1.1; have := r.1; omega) (s2 := fun _ M1 r _ i a i0 i1 => by omega) (s3 := fun _ M1 r _ i a i0 i1 => by omega) (hA2 := fun _ M1 r _ _ => fail_ct) (k1 := fun _ M1 r q1 q2 M2 r2 => ?_) (k2 := fun _ M1 r q1 q2 q3 => ?_) (hA3 := fun _ M1 r _ _ _ => fail_ct) (k3 := fun _ M1 r q1 q2 q3 M2 r2 => ?_) (hA4 := fun _ M1 r _ => fail_ct) (k4 := fun _ M1 r q1 M2 r2 => ?_) (k5 := fun q => absurd m1 q)
    · have k2 : tK n b p = 2 := by rw [(hv M1 r).2] at q1; exact q1
      rw [hs k2 M1 r] at q2 ⊢
      have := val k2
      exact hQ M2 (fl k2 (by omega) M1 M2 r r2)
    · have k2 : tK n b p = 2 := by rw [(hv M1 r).2] at q1; exact q1
      rw [hs k2 M1 r] at q2 q3 ⊢
      have v1 := val k2
      refine hQ M1 ⟨?_, FT_p r.2.2⟩
      unfold nmQ
      rw [if_pos rfl, if_pos k2, if_pos (show lo ≤ tN n b p ∧ tN n b p ≤ hi by omega)]
      exact CQs_next h r
    · have k2 : tK n b p = 2 := by rw [(hv M1 r).2] at q1; exact q1
      rw [hs k2 M1 r] at q2 q3 ⊢
      have v2 := val k2
      exact hQ M2 (fl k2 (by omega) M1 M2 r r2)
    · have k2 : ¬ tK n b p = 2 := fun u => q1 (by rw [(hv M1 r).2]; exact u)
      have := CQs_fail (p := p) (hv M1 r).1 (by omega) r.1 r2
      refine q_eq ?_ (hQ M2 ⟨?_, Fr_trans (FT_p r.2.2) this.2⟩)
      · unfold cV; rw [if_neg (fun u => k2 u.2)]
      · unfold nmQ; rw [if_pos rfl, if_neg k2]; exact this.1
  · have m1 : ¬ M 1 1 = 0 := by rw [h.2.1]; exact h0
    have ev : cV n b q = 0 := by unfold cV; rw [if_neg (fun u => h0 u.1)]
    have eq0 : nmQ n b lo hi q = q := by unfold nmQ; rw [if_neg h0]
    refine r55_0 (g1 := fun _ => 0) (R1 := fun _ => False) (R2 := fun _ _ => False) (R3 := fun _ _ => False) (R4 := fun _ _ => False) (hA1 := fun u => absurd u m1) (s1 := fun u => absurd u m1) (s2 := fun u => absurd u m1) (s3 := fun u => absurd u m1) (hA2 := fun u => absurd u m1) (k1 := fun u => absurd u m1) (k2 := fun u => absurd u m1) (hA3 := fun u => absurd u m1) (k3 := fun u => absurd u m1) (hA4 := fun u => absurd u m1) (k4 := fun u => absurd u m1) (k5 := fun _ => ?_)
    rw [← ev]
    exact hQ M ⟨by rw [eq0]; exact h, Fr_refl⟩
theorem nb_ct {M : dsMem} {n lo hi : Int} {b : Int → Int} {q : psT} {k : Nat} (hk : k < 15) (h : CQs M n b q) (hlo : 0 ≤ lo) (hh : hi < 1000000) : bCt 54 [uR 6 1, uX (k + 2), uI lo, uI hi] M (fun _ => [uI (cV n b (exW n b k q))]) (fun M' => CQs M' n b (nmQ n b lo hi (exW n b k q)) ∧ Fr FP M M') := by
  intro Q hQ
  by_cases h0 : q.1 = 0
  · have hp := CQs_pos h h0
    obtain ⟨p, hpp⟩ : ∃ p, q.2.2 = p := ⟨_, rfl⟩
    rw [hpp] at hp
    have eq0 := hp.1
    subst eq0
    have m1 : M 1 1 = 0 := h.2.1
    have hc : ∀ M1, (M1 1 4 = tF n b p ∧ M1 1 5 = tU n b p ∧ Fr FT M M1) → CTp M1 n b := fun M1 r => CTp_p h.1 (FT_p r.2.2)
    have e1 : isW n b p k → exW n b k (0, -1, p) = (0, -1, tU n b p) := fun w => by unfold exW; rw [if_pos rfl, if_pos w]
    have e2 : ¬ isW n b p k → exW n b k (0, -1, p) = (1, tF n b p, p) := fun w => by unfold exW; rw [if_pos rfl, if_neg w]
    refine r54_0 (g1 := fun _ => 0) (R1 := fun _ => False) (hA1 := fun u => absurd m1 u) (k1 := fun u => absurd m1 u) (hA2 := fun _ => nt_ct h.1 hp.2.1 hp.2.2) (hA3 := fun _ M2 r2 => isw_ct (hc M2 r2) hk r2.1 r2.2.1 hp.2.2) (hA4 := fun _ M2 r2 M3 r3 q3 => rn_ct (q := (0, -1, tU n b p)) (by rw [r3]; exact CQs_next h r2) hlo hh) (k2 := fun _ M2 r2 M3 r3 q3 M4 r4 => ?_) (hA5 := fun _ M2 r2 M3 r3 q3 => fail_ct) (hA6 := fun _ M2 r2 M3 r3 q3 M5 r5 => rn_ct (q := (1, tF n b p, p)) (CQs_fail (M := M3) (p := p) (by rw [r3]; exact hc M2 r2) (by omega) (by rw [r3]; exact r2.1) r5).1 hlo hh) (k3 := fun _ M2 r2 M3 r3 q3 M5 r5 M6 r6 => ?_)
    · have w := if01_1 q3
      subst r3
      refine q_eq ?_ (hQ M4 ⟨?_, Fr_trans (FT_p r2.2.2) r4.2⟩)
      · rw [e1 w]
      · rw [e1 w]; exact r4.1
    · have w := if01_0 q3
      subst r3
      have := CQs_fail (M := M3) (p := p) (hc M3 r2) (by omega) r2.1 r5
      refine q_eq ?_ (hQ M6 ⟨?_, Fr_trans (Fr_trans (FT_p r2.2.2) this.2) r6.2⟩)
      · rw [e2 w]
      · rw [e2 w]; exact r6.1
  · have m1 : ¬ M 1 1 = 0 := by rw [h.2.1]; exact h0
    have eq0 : exW n b k q = q := by unfold exW; rw [if_neg h0]
    rw [eq0] at hQ
    refine r54_0 (g2 := fun _ => 0) (g3 := fun _ _ => 0) (g4 := fun _ _ _ => 0) (g6 := fun _ _ _ _ => 0) (R2 := fun _ => False) (R3 := fun _ _ => False) (R4 := fun _ _ _ => False) (R5 := fun _ _ _ => False) (R6 := fun _ _ _ _ => False) (hA1 := fun _ => rn_ct h hlo hh) (k1 := fun _ M1 r1 => hQ M1 r1) (hA2 := fun u => absurd u m1) (hA3 := fun u => absurd u m1) (hA4 := fun u => absurd u m1) (k2 := fun u => absurd u m1) (hA5 := fun u => absurd u m1) (hA6 := fun u => absurd u m1) (k3 := fun u => absurd u m1)
theorem sg_ct {M : dsMem} {n : Int} {b : Int → Int} {q : psT} (h : CQs M n b q) : bCt 56 [uR 6 1] M (fun _ => []) (fun M' => CQs M' n b (sgQ n b q) ∧ Fr FP M M') := by
  intro Q hQ
  by_cases h0 : q.1 = 0
  · have hp := CQs_pos h h0
    obtain ⟨p, hpp⟩ : ∃ p, q.2.2 = p := ⟨_, rfl⟩
    rw [hpp] at hp
    have eq0 := hp.1
    have tb := t_b (n := n) (p := p) (b := b) hp.2.2
    have h600 := h.1.2.1
    subst eq0
    have m1 : M 1 1 = 0 := h.2.1
    have hv : ∀ M1, (M1 1 4 = tF n b p ∧ M1 1 5 = tU n b p ∧ Fr FT M M1) → CTp M1 n b ∧ v58 M1 (M1 1 4) = tK n b p := fun M1 r => by
      have hc := CTp_p h.1 (FT_p r.2.2)
      exact ⟨hc, by rw [v58_eq hc.1 hc.2.2, r.1]⟩
    refine r56_0 (k1 := fun u => absurd m1 u) (hA1 := fun _ => nt_ct h.1 hp.2.1 hp.2.2) (s1 := fun _ M1 r _ _ => by have := (hv M1 r).1.1; omega) (k2 := fun _ M1 r q1 => ?_) (hA2 := fun _ M1 r _ => fail_ct) (k3 := fun _ M1 r q1 M2 r2 => ?_)
    · rw [(hv M1 r).2] at q1
      refine hQ M1 ⟨?_, FT_p r.2.2⟩
      unfold sgQ
      rw [if_pos rfl, if_pos q1]
      exact CQs_next h r
    · rw [(hv M1 r).2] at q1
      have := CQs_fail (p := p) (hv M1 r).1 (by omega) r.1 r2
      refine hQ M2 ⟨?_, Fr_trans (FT_p r.2.2) this.2⟩
      unfold sgQ
      rw [if_pos rfl, if_neg q1]
      exact this.1
  · have m1 : ¬ M 1 1 = 0 := by rw [h.2.1]; exact h0
    have eq0 : sgQ n b q = q := by unfold sgQ; rw [if_neg h0]
    rw [eq0] at hQ
    exact r56_0 (g1 := fun _ => 0) (R1 := fun _ => False) (R2 := fun _ _ => False) (k1 := fun _ => hQ M ⟨h, Fr_refl⟩) (hA1 := fun u => absurd u m1) (s1 := fun u => absurd u m1) (k2 := fun u => absurd u m1) (hA2 := fun u => absurd u m1) (k3 := fun u => absurd u m1)
