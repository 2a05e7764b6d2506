/-! the other side's drinking, stone by stone -/
theorem dsFind_p {p : Int → Prop} [DecidablePred p] {n : Int} : ∀ i, dsFind p i n < n → p (dsFind p i n) ∧ i ≤ dsFind p i n ∧ ∀ j, i ≤ j → j < dsFind p i n → ¬ p j := by
  refine ds_ind n ?_ ?_
  · intro i h h1; rw [dsFind_end h] at h1; omega
  · intro i h ih h1
    by_cases hp : p i
    · rw [dsFind_yes h hp]
      exact ⟨hp, by omega, fun j _ _ => by omega⟩
    · rw [dsFind_no h hp] at h1 ⊢
      have := ih h1
      refine ⟨this.1, by omega, fun j j0 j1 => ?_⟩
      by_cases hj : j = i
      · rw [hj]; exact hp
      · exact this.2.2 j (by omega) j1
theorem dsFind_all {p : Int → Prop} [DecidablePred p] {n : Int} : ∀ i, ¬ dsFind p i n < n → ∀ j, i ≤ j → j < n → ¬ p j := by
  refine ds_ind n ?_ ?_
  · intro i h h1 j j0 j1; omega
  · intro i h ih h1 j j0 j1
    by_cases hp : p i
    · rw [dsFind_yes h hp] at h1; omega
    · rw [dsFind_no h hp] at h1
      by_cases hj : j = i
      · rw [hj]; exact hp
      · exact ih h1 j (by omega) j1
theorem drk_r0 {P : dsP} {first k : Int} {S : dsS} {r : Int} (h : r ≤ 0) : ∀ (j : Nat) (s : Int), dsDrkN P first k j s S r = (S, r)
  | 0, _ => rfl
  | j + 1, s => by rw [dsDrkN, if_pos h]
theorem drk_skip {P : dsP} {first k m : Int} {S : dsS} {r : Int} (hm : m ≤ pN P) : ∀ i, i ≤ m → (∀ t, i ≤ t → t < m → ¬ (t = first ∨ dsComes P first t)) → dsDrkN P first k (pN P - i).toNat i S r = dsDrkN P first k (pN P - m).toNat m S r := by
  refine ds_ind m ?_ ?_
  · intro i h h1 _
    rw [show i = m by omega]
  · intro i h ih h1 hn
    by_cases hr : r ≤ 0
    · rw [drk_r0 hr, drk_r0 hr]
    · rw [show (pN P - i).toNat = (pN P - (i + 1)).toNat + 1 by omega, dsDrkN, if_neg hr, if_neg (hn i (by omega) h)]
      exact ih (by omega) (fun t t0 t1 => hn t (by omega) t1)
theorem rdrk_x {M : dsMem} {y k r : Int} {P : dsP} {S : dsS} {Q : bQT} (hy : 0 ≤ y ∧ y < 12) (h : RF M y P S) (K : ∀ M', RF M' y P (dsLose S r) → Fr (DR y) M M' → Q [] M') :
    bB 227 6 [uR 11 84, uX 0, uX 0, uI k, uI (-1), uI r, uX 0, uX 0] [] M Q := by
  refine r227_6 (hA1 := fun q1 => loses_ct hy h) (k1 := fun q1 M1 r1 => K M1 r1.1 (DR_l r1.2)) (hA2 := fun q1 q2 => loses_ct hy h) (k2 := fun q1 q2 M1 r1 => K M1 r1.1 (DR_l r1.2))
    (hA3 := fun q1 q2 => absurd rfl q2) (k3 := fun q1 q2 => absurd rfl q2) (hA4 := fun q1 q2 => absurd rfl q2) (k4 := fun q1 q2 => absurd rfl q2) (k5 := fun q1 q2 => absurd rfl q2) (k6 := fun q1 q2 => absurd rfl q2) (hA5 := fun q1 q2 => absurd rfl q2) (k7 := fun q1 q2 => absurd rfl q2)
    (hA6 := fun q1 q2 => absurd rfl q2) (k8 := fun q1 q2 => absurd rfl q2) (k9 := fun q1 q2 => absurd rfl q2) (k10 := fun q1 q2 => absurd rfl q2) (hA7 := fun q1 q2 => absurd rfl q2) (k11 := fun q1 q2 => absurd rfl q2) (k12 := fun q1 q2 => absurd rfl q2) (k13 := fun q1 q2 => absurd rfl q2) (hA8 := fun q1 q2 => absurd rfl q2) (k14 := fun q1 q2 => absurd rfl q2)
    (R3 := fun _ => True) (R4 := fun _ => True) (R5 := fun _ => True) (R6 := fun _ => True) (R7 := fun _ => True) (R8 := fun _ => True) (s4 := fun q1 q2 q3 q4 q5 q6 M4 rr4 => by omega) (s5 := fun q1 q2 q3 q4 q5 q6 M4 rr4 q7 => by omega) (s6 := fun q1 q2 q3 q4 q5 q6 M4 rr4 q7 i224_1 q8 q9 q10 => by omega) (s7 := fun q1 q2 q3 q4 q5 q6 M4 rr4 q7 i224_1 q8 q9 q10 => by omega) (s8 := fun q1 q2 q3 q4 q5 q6 M4 rr4 q7 i224_1 q8 q9 => by omega) (s9 := fun q1 q2 q3 q4 q5 q6 M4 rr4 q7 q8 => by omega) (s10 := fun q1 q2 q3 q4 q5 q6 M4 rr4 q7 q8 i224_1 q9 q10 q11 => by omega) (s11 := fun q1 q2 q3 q4 q5 q6 M4 rr4 q7 q8 i224_1 q9 q10 q11 => by omega) (s12 := fun q1 q2 q3 q4 q5 q6 M4 rr4 q7 q8 i224_1 q9 q10 => by omega) (s13 := fun q1 q2 q3 q4 q5 q6 M6 rr6 => by omega) (s14 := fun q1 q2 q3 q4 q5 q6 M6 rr6 q7 => by omega) (s15 := fun q1 q2 q3 q4 q5 q6 M6 rr6 q7 i224_1 q8 q9 q10 => by omega) (s16 := fun q1 q2 q3 q4 q5 q6 M6 rr6 q7 i224_1 q8 q9 q10 => by omega) (s17 := fun q1 q2 q3 q4 q5 q6 M6 rr6 q7 i224_1 q8 q9 => by omega) (s18 := fun q1 q2 q3 q4 q5 q6 M6 rr6 q7 q8 => by omega) (s19 := fun q1 q2 q3 q4 q5 q6 M6 rr6 q7 q8 i224_1 q9 q10 q11 => by omega) (s20 := fun q1 q2 q3 q4 q5 q6 M6 rr6 q7 q8 i224_1 q9 q10 q11 => by omega) (s21 := fun q1 q2 q3 q4 q5 q6 M6 rr6 q7 q8 i224_1 q9 q10 => by omega) (s22 := fun q1 q2 q3 q4 q5 q6 M7 rr7 => by omega) (s23 := fun q1 q2 q3 q4 q5 q6 M7 rr7 q7 => by omega) (s24 := fun q1 q2 q3 q4 q5 q6 M7 rr7 q7 i224_1 q8 q9 q10 => by omega) (s25 := fun q1 q2 q3 q4 q5 q6 M7 rr7 q7 i224_1 q8 q9 q10 => by omega) (s26 := fun q1 q2 q3 q4 q5 q6 M7 rr7 q7 i224_1 q8 q9 => by omega) (s27 := fun q1 q2 q3 q4 q5 q6 M7 rr7 q7 q8 => by omega) (s28 := fun q1 q2 q3 q4 q5 q6 M7 rr7 q7 q8 i224_1 q9 q10 q11 => by omega) (s29 := fun q1 q2 q3 q4 q5 q6 M7 rr7 q7 q8 i224_1 q9 q10 q11 => by omega) (s30 := fun q1 q2 q3 q4 q5 q6 M7 rr7 q7 q8 i224_1 q9 q10 => by omega)
theorem rdrk_1 {y k first : Int} {P : dsP} {Q : bQT} (hP : POK P) (hy : 0 ≤ y ∧ y < 12) (hk : 1 ≤ k ∧ k ≤ 5) (hf0 : 0 ≤ first ∧ first < pN P) :
    ∀ (j : Nat) (s r : Int) (S : dsS) (M : dsMem), j = (pN P - s).toNat → first ≤ s → s < pN P → (s = first ∨ dsComes P first s) → 0 ≤ r → r ≤ 80 → RW M P → RF M y P S → WS P S →
    (∀ M', RF M' y P (dsLose (dsDrkN P first k (pN P - s).toNat s S r).1 (dsDrkN P first k (pN P - s).toNat s S r).2) → Fr (DR y) M M' → Q [] M') →
    bB 227 6 [uR 11 84, uX 0, uX 0, uI k, uI s, uI r, uX 0, uX 0] [] M Q := by
  intro j
  induction j using Nat.strongRecOn with
  | ind j IH =>
  intro s r S M hj h1 h2 hcm hr0 hr1 hW hC hS K
  have hN := hP.1
  have hs : 0 ≤ s ∧ s < pN P := by omega
  have es := hW.2.1 s hs.1 hs.2
  have eu := hC.2.2.1
  have el := hW.1.2.2.2
  have e85 := hW.1.1
  have hst := hP.2.1 s hs.1 hs.2
  have hw := hS s hs.1 hs.2
  have hnn := dySum_nn hw.1
  have e96 := (hC.1 s hs.1 hs.2).2.1
  by_cases hr : r ≤ 0
  · rw [drk_r0 hr] at K
    refine r227_6 (hA1 := fun q1 => loses_ct hy hC) (k1 := fun q1 M1 r1 => K M1 r1.1 (DR_l r1.2)) (hA2 := fun q1 => absurd hr q1) (k2 := fun q1 => absurd hr q1)
      (hA3 := fun q1 => absurd hr q1) (k3 := fun q1 => absurd hr q1) (hA4 := fun q1 => absurd hr q1) (k4 := fun q1 => absurd hr q1) (k5 := fun q1 => absurd hr q1) (k6 := fun q1 => absurd hr q1) (hA5 := fun q1 => absurd hr q1) (k7 := fun q1 => absurd hr q1)
      (hA6 := fun q1 => absurd hr q1) (k8 := fun q1 => absurd hr q1) (k9 := fun q1 => absurd hr q1) (k10 := fun q1 => absurd hr q1) (hA7 := fun q1 => absurd hr q1) (k11 := fun q1 => absurd hr q1) (k12 := fun q1 => absurd hr q1) (k13 := fun q1 => absurd hr q1) (hA8 := fun q1 => absurd hr q1) (k14 := fun q1 => absurd hr q1)
      (R2 := fun _ => True) (R3 := fun _ => True) (R4 := fun _ => True) (R5 := fun _ => True) (R6 := fun _ => True) (R7 := fun _ => True) (R8 := fun _ => True) (s4 := fun q1 q2 q3 q4 q5 q6 M4 rr4 => by first | omega | (have h9 := (RW_fr hW rr4.2).1.1; omega)) (s5 := fun q1 q2 q3 q4 q5 q6 M4 rr4 q7 => by first | omega | (have h9 := (RW_fr hW rr4.2).1.1; omega)) (s6 := fun q1 q2 q3 q4 q5 q6 M4 rr4 q7 i224_1 q8 q9 q10 => by first | omega | (have h9 := (RW_fr hW rr4.2).1.1; omega)) (s7 := fun q1 q2 q3 q4 q5 q6 M4 rr4 q7 i224_1 q8 q9 q10 => by first | omega | (have h9 := (RW_fr hW rr4.2).1.1; omega)) (s8 := fun q1 q2 q3 q4 q5 q6 M4 rr4 q7 i224_1 q8 q9 => by first | omega | (have h9 := (RW_fr hW rr4.2).1.1; omega)) (s9 := fun q1 q2 q3 q4 q5 q6 M4 rr4 q7 q8 => by first | omega | (have h9 := (RW_fr hW rr4.2).1.1; omega)) (s10 := fun q1 q2 q3 q4 q5 q6 M4 rr4 q7 q8 i224_1 q9 q10 q11 => by first | omega | (have h9 := (RW_fr hW rr4.2).1.1; omega)) (s11 := fun q1 q2 q3 q4 q5 q6 M4 rr4 q7 q8 i224_1 q9 q10 q11 => by first | omega | (have h9 := (RW_fr hW rr4.2).1.1; omega)) (s12 := fun q1 q2 q3 q4 q5 q6 M4 rr4 q7 q8 i224_1 q9 q10 => by first | omega | (have h9 := (RW_fr hW rr4.2).1.1; omega)) (s13 := fun q1 q2 q3 q4 q5 q6 M6 rr6 => by first | omega | (have h9 := (RW_fr hW rr6.2).1.1; omega)) (s14 := fun q1 q2 q3 q4 q5 q6 M6 rr6 q7 => by first | omega | (have h9 := (RW_fr hW rr6.2).1.1; omega)) (s15 := fun q1 q2 q3 q4 q5 q6 M6 rr6 q7 i224_1 q8 q9 q10 => by first | omega | (have h9 := (RW_fr hW rr6.2).1.1; omega)) (s16 := fun q1 q2 q3 q4 q5 q6 M6 rr6 q7 i224_1 q8 q9 q10 => by first | omega | (have h9 := (RW_fr hW rr6.2).1.1; omega)) (s17 := fun q1 q2 q3 q4 q5 q6 M6 rr6 q7 i224_1 q8 q9 => by first | omega | (have h9 := (RW_fr hW rr6.2).1.1; omega)) (s18 := fun q1 q2 q3 q4 q5 q6 M6 rr6 q7 q8 => by first | omega | (have h9 := (RW_fr hW rr6.2).1.1; omega)) (s19 := fun q1 q2 q3 q4 q5 q6 M6 rr6 q7 q8 i224_1 q9 q10 q11 => by first | omega | (have h9 := (RW_fr hW rr6.2).1.1; omega)) (s20 := fun q1 q2 q3 q4 q5 q6 M6 rr6 q7 q8 i224_1 q9 q10 q11 => by first | omega | (have h9 := (RW_fr hW rr6.2).1.1; omega)) (s21 := fun q1 q2 q3 q4 q5 q6 M6 rr6 q7 q8 i224_1 q9 q10 => by first | omega | (have h9 := (RW_fr hW rr6.2).1.1; omega)) (s22 := fun q1 q2 q3 q4 q5 q6 M7 rr7 => by first | omega | (have h9 := (RW_fr hW rr7.2).1.1; omega)) (s23 := fun q1 q2 q3 q4 q5 q6 M7 rr7 q7 => by first | omega | (have h9 := (RW_fr hW rr7.2).1.1; omega)) (s24 := fun q1 q2 q3 q4 q5 q6 M7 rr7 q7 i224_1 q8 q9 q10 => by first | omega | (have h9 := (RW_fr hW rr7.2).1.1; omega)) (s25 := fun q1 q2 q3 q4 q5 q6 M7 rr7 q7 i224_1 q8 q9 q10 => by first | omega | (have h9 := (RW_fr hW rr7.2).1.1; omega)) (s26 := fun q1 q2 q3 q4 q5 q6 M7 rr7 q7 i224_1 q8 q9 => by first | omega | (have h9 := (RW_fr hW rr7.2).1.1; omega)) (s27 := fun q1 q2 q3 q4 q5 q6 M7 rr7 q7 q8 => by first | omega | (have h9 := (RW_fr hW rr7.2).1.1; omega)) (s28 := fun q1 q2 q3 q4 q5 q6 M7 rr7 q7 q8 i224_1 q9 q10 q11 => by first | omega | (have h9 := (RW_fr hW rr7.2).1.1; omega)) (s29 := fun q1 q2 q3 q4 q5 q6 M7 rr7 q7 q8 i224_1 q9 q10 q11 => by first | omega | (have h9 := (RW_fr hW rr7.2).1.1; omega)) (s30 := fun q1 q2 q3 q4 q5 q6 M7 rr7 q7 q8 i224_1 q9 q10 => by first | omega | (have h9 := (RW_fr hW rr7.2).1.1; omega))
  rw [show (pN P - s).toNat = (pN P - (s + 1)).toNat + 1 by omega, dsDrkN, if_neg hr, if_pos hcm] at K
  have hb3 : dsBit (sU S) (pOn P s) ↔ ¬ dsAnd (dsShr (M 84 33) (M 85 (15 + 3 * s + 2))) 1 = 0 := by
    rw [eu, es.2.2.1]
    have := ds_b01 (dsShr (sU S) (pOn P s))
    unfold dsBit
    omega
  by_cases hb : dsBit (sU S) (pOn P s) ∧ pAl P s = true
  · rw [if_pos hb] at K
    have nb1 : ¬ dsAnd (dsShr (M 84 33) (M 85 (15 + 3 * s + 2))) 1 = 0 := hb3.1 hb.1
    have nb2 : ¬ dsAnd (dsShr (M 84 20) s) 1 = 0 := es.2.2.2.1.2 hb.2
    have hw2 := WS_pour (s := s) (k := k) hP hS hs hk hr0
    -- how it goes on behind this stone
    have nxt : ∀ M4, (RF M4 y P (dsPour P S s k r).1 ∧ Fr (DR y) M M4) → (M4 84 17 = 1 ∨ M4 84 17 = 2) → bB 227 6 [uR 11 84, uX 0, uX 0, uI k, uI (v224 M4 s), uI (dsPour P S s k r).2, uX 0, uX 0] [] M4 Q := by
      intro M4 r4 hl
      have hW4 := RW_fr hW r4.2
      have el4 := hW4.1.2.2.2
      have hon : ∀ t, 0 ≤ t → t < pN P → M4 85 (15 + 3 * t + 2) = pOn P t := fun t t0 t1 => (hW4.2.1 t t0 t1).2.2.1
      have hpq : ∀ t, s + 1 ≤ t → t < pN P → ((M4 84 17 = 2 ∨ (¬ M4 84 17 = 2 ∧ M4 85 (15 + 3 * t + 2) = M4 85 (15 + 3 * s + 2))) ↔ (t = first ∨ dsComes P first t)) := by
        intro t t0 t1
        rw [hon t (by omega) t1, hon s hs.1 hs.2, el4]
        rw [el4] at hl
        have hos : pL P = 1 → pOn P first = pOn P s := by
          intro e1
          rcases hcm with e | e | e
          · rw [e]
          · omega
          · exact e.2
        constructor
        · rintro (e | e)
          · exact Or.inr (Or.inl e)
          · have e1 : pL P = 1 := by omega
            exact Or.inr (Or.inr ⟨e1, (hos e1).trans e.2.symm⟩)
        · rintro (e | e | e)
          · omega
          · exact Or.inl e
          · right
            exact ⟨by omega, e.2.symm.trans (hos e.1)⟩
      unfold v224
      rw [hW4.1.1]
      split
      · rename_i hlt
        have hf := dsFind_p _ hlt
        have hF := (hpq _ hf.2.1 hlt).1 hf.1
        refine IH _ ?_ _ _ _ M4 rfl (by omega) hlt hF hw2.2.1 (by omega) hW4 r4.1 hw2.1 ?_
        · omega
        · intro M' g1 g2
          rw [← drk_skip (i := s + 1) (by omega) (by omega) (fun t t0 t1 => fun q => hf.2.2 t t0 t1 ((hpq t t0 (by omega)).2 q))] at g1
          exact K M' g1 (Fr_trans r4.2 g2)
      · rename_i hlt
        have hno := dsFind_all _ hlt
        refine rdrk_x hy r4.1 (fun M' g1 g2 => K M' ?_ (Fr_trans r4.2 g2))
        rw [drk_skip (m := pN P) (i := s + 1) (by omega) (by omega) (fun t t0 t1 => fun q => hno t t0 t1 ((hpq t t0 t1).2 q)), show (pN P - pN P).toNat = 0 by omega]
        exact g1
    have nxt0 : ∀ M4, (RF M4 y P (dsPour P S s k r).1 ∧ Fr (DR y) M M4) → ¬ M4 84 17 = 1 → ¬ M4 84 17 = 2 → bB 227 6 [uR 11 84, uX 0, uX 0, uI k, uI (-1), uI (dsPour P S s k r).2, uX 0, uX 0] [] M4 Q := by
      intro M4 r4 hl1 hl2
      have hW4 := RW_fr hW r4.2
      have el4 := hW4.1.2.2.2
      rw [el4] at hl1 hl2
      refine rdrk_x hy r4.1 (fun M' g1 g2 => K M' ?_ (Fr_trans r4.2 g2))
      rw [drk_skip (m := pN P) (i := s + 1) (by omega) (by omega) (fun t t0 t1 => by rintro (q | q | q) <;> omega), show (pN P - pN P).toNat = 0 by omega]
      exact g1
    by_cases hbg : dsAnd (dsShr (M 84 21) s) 1 = 1
    · have er := es.1
      rw [if_pos hbg] at er
      have ep : dsPour P S s k r = (S, r) := by
        unfold dsPour
        rw [if_pos (by unfold dsGoes dsMost; (repeat' split) <;> omega)]
      rw [ep] at nxt nxt0
      have f0 : RF M y P S ∧ Fr (DR y) M M := ⟨hC, Fr_refl⟩
      refine r227_6 (hA1 := fun q1 => absurd q1 hr) (k1 := fun q1 => absurd q1 hr) (hA2 := fun q1 q2 => by omega) (k2 := fun q1 q2 => by omega)
        (hA3 := fun q1 q2 q3 => absurd q3 nb1) (k3 := fun q1 q2 q3 => absurd q3 nb1) (hA4 := fun q1 q2 q3 q4 q5 => absurd hbg q5) (k4 := fun q1 q2 q3 q4 q5 => absurd hbg q5) (k5 := fun q1 q2 q3 q4 q5 => absurd hbg q5) (k6 := fun q1 q2 q3 q4 q5 => absurd hbg q5) (hA5 := fun q1 q2 q3 q4 q5 => absurd hbg q5) (k7 := fun q1 q2 q3 q4 q5 => absurd hbg q5)
        (hA6 := fun q1 q2 q3 q4 q5 q6 => putOn_0 (R := fun M' => RF M' y P S ∧ Fr (DR y) M M') f0) (k8 := fun q1 q2 q3 q4 q5 q6 M4 r4 q7 => by rw [Int.sub_zero]; exact nxt M4 r4 (Or.inl q7)) (k9 := fun q1 q2 q3 q4 q5 q6 M4 r4 q7 q8 => by rw [Int.sub_zero]; exact nxt0 M4 r4 q7 q8) (k10 := fun q1 q2 q3 q4 q5 q6 M4 r4 q7 q8 => by rw [Int.sub_zero]; exact nxt M4 r4 (Or.inr q8))
        (hA7 := fun q1 q2 q3 q4 q5 q6 => putOn_0 (R := fun M' => RF M' y P S ∧ Fr (DR y) M M') f0) (k11 := fun q1 q2 q3 q4 q5 q6 M4 r4 q7 => by rw [Int.sub_zero]; exact nxt M4 r4 (Or.inl q7)) (k12 := fun q1 q2 q3 q4 q5 q6 M4 r4 q7 q8 => by rw [Int.sub_zero]; exact nxt0 M4 r4 q7 q8) (k13 := fun q1 q2 q3 q4 q5 q6 M4 r4 q7 q8 => by rw [Int.sub_zero]; exact nxt M4 r4 (Or.inr q8))
        (hA8 := fun q1 q2 q3 q4 => absurd q4 nb2) (k14 := fun q1 q2 q3 q4 => absurd q4 nb2)
        (R1 := fun _ => True) (R2 := fun _ => True) (R3 := fun _ => True) (R4 := fun _ => True) (R5 := fun _ => True) (R8 := fun _ => True) (s4 := fun q1 q2 q3 q4 q5 q6 M4 rr4 => by first | omega | (have h9 := (RW_fr hW rr4.2).1.1; omega)) (s5 := fun q1 q2 q3 q4 q5 q6 M4 rr4 q7 => by first | omega | (have h9 := (RW_fr hW rr4.2).1.1; omega)) (s6 := fun q1 q2 q3 q4 q5 q6 M4 rr4 q7 i224_1 q8 q9 q10 => by first | omega | (have h9 := (RW_fr hW rr4.2).1.1; omega)) (s7 := fun q1 q2 q3 q4 q5 q6 M4 rr4 q7 i224_1 q8 q9 q10 => by first | omega | (have h9 := (RW_fr hW rr4.2).1.1; omega)) (s8 := fun q1 q2 q3 q4 q5 q6 M4 rr4 q7 i224_1 q8 q9 => by first | omega | (have h9 := (RW_fr hW rr4.2).1.1; omega)) (s9 := fun q1 q2 q3 q4 q5 q6 M4 rr4 q7 q8 => by first | omega | (have h9 := (RW_fr hW rr4.2).1.1; omega)) (s10 := fun q1 q2 q3 q4 q5 q6 M4 rr4 q7 q8 i224_1 q9 q10 q11 => by first | omega | (have h9 := (RW_fr hW rr4.2).1.1; omega)) (s11 := fun q1 q2 q3 q4 q5 q6 M4 rr4 q7 q8 i224_1 q9 q10 q11 => by first | omega | (have h9 := (RW_fr hW rr4.2).1.1; omega)) (s12 := fun q1 q2 q3 q4 q5 q6 M4 rr4 q7 q8 i224_1 q9 q10 => by first | omega | (have h9 := (RW_fr hW rr4.2).1.1; omega)) (s13 := fun q1 q2 q3 q4 q5 q6 M6 rr6 => by first | omega | (have h9 := (RW_fr hW rr6.2).1.1; omega)) (s14 := fun q1 q2 q3 q4 q5 q6 M6 rr6 q7 => by first | omega | (have h9 := (RW_fr hW rr6.2).1.1; omega)) (s15 := fun q1 q2 q3 q4 q5 q6 M6 rr6 q7 i224_1 q8 q9 q10 => by first | omega | (have h9 := (RW_fr hW rr6.2).1.1; omega)) (s16 := fun q1 q2 q3 q4 q5 q6 M6 rr6 q7 i224_1 q8 q9 q10 => by first | omega | (have h9 := (RW_fr hW rr6.2).1.1; omega)) (s17 := fun q1 q2 q3 q4 q5 q6 M6 rr6 q7 i224_1 q8 q9 => by first | omega | (have h9 := (RW_fr hW rr6.2).1.1; omega)) (s18 := fun q1 q2 q3 q4 q5 q6 M6 rr6 q7 q8 => by first | omega | (have h9 := (RW_fr hW rr6.2).1.1; omega)) (s19 := fun q1 q2 q3 q4 q5 q6 M6 rr6 q7 q8 i224_1 q9 q10 q11 => by first | omega | (have h9 := (RW_fr hW rr6.2).1.1; omega)) (s20 := fun q1 q2 q3 q4 q5 q6 M6 rr6 q7 q8 i224_1 q9 q10 q11 => by first | omega | (have h9 := (RW_fr hW rr6.2).1.1; omega)) (s21 := fun q1 q2 q3 q4 q5 q6 M6 rr6 q7 q8 i224_1 q9 q10 => by first | omega | (have h9 := (RW_fr hW rr6.2).1.1; omega)) (s22 := fun q1 q2 q3 q4 q5 q6 M7 rr7 => by first | omega | (have h9 := (RW_fr hW rr7.2).1.1; omega)) (s23 := fun q1 q2 q3 q4 q5 q6 M7 rr7 q7 => by first | omega | (have h9 := (RW_fr hW rr7.2).1.1; omega)) (s24 := fun q1 q2 q3 q4 q5 q6 M7 rr7 q7 i224_1 q8 q9 q10 => by first | omega | (have h9 := (RW_fr hW rr7.2).1.1; omega)) (s25 := fun q1 q2 q3 q4 q5 q6 M7 rr7 q7 i224_1 q8 q9 q10 => by first | omega | (have h9 := (RW_fr hW rr7.2).1.1; omega)) (s26 := fun q1 q2 q3 q4 q5 q6 M7 rr7 q7 i224_1 q8 q9 => by first | omega | (have h9 := (RW_fr hW rr7.2).1.1; omega)) (s27 := fun q1 q2 q3 q4 q5 q6 M7 rr7 q7 q8 => by first | omega | (have h9 := (RW_fr hW rr7.2).1.1; omega)) (s28 := fun q1 q2 q3 q4 q5 q6 M7 rr7 q7 q8 i224_1 q9 q10 q11 => by first | omega | (have h9 := (RW_fr hW rr7.2).1.1; omega)) (s29 := fun q1 q2 q3 q4 q5 q6 M7 rr7 q7 q8 i224_1 q9 q10 q11 => by first | omega | (have h9 := (RW_fr hW rr7.2).1.1; omega)) (s30 := fun q1 q2 q3 q4 q5 q6 M7 rr7 q7 q8 i224_1 q9 q10 => by first | omega | (have h9 := (RW_fr hW rr7.2).1.1; omega))
    · have er := es.1
      rw [if_neg hbg] at er
      by_cases h3 : M 84 17 = 3
      · rw [el] at h3
        have K3 : ∀ M', (RF M' y P (dsLose (dsPour P S s k r).1 (dsPour P S s k r).2) ∧ Fr (DR y) M M') → Q [] M' := by
          intro M' g
          refine K M' ?_ g.2
          rw [drk_skip (m := pN P) (i := s + 1) (by omega) (by omega) (fun t t0 t1 => by rintro (q | q | q) <;> omega), show (pN P - pN P).toNat = 0 by omega]
          exact g.1
        rw [← el] at h3
        refine r227_6 (hA1 := fun q1 => absurd q1 hr) (k1 := fun q1 => absurd q1 hr) (hA2 := fun q1 q2 => by omega) (k2 := fun q1 q2 => by omega)
          (hA3 := fun q1 q2 q3 => absurd q3 nb1) (k3 := fun q1 q2 q3 => absurd q3 nb1) (hA4 := fun q1 q2 q3 q4 q5 q6 => absurd h3 q6) (k4 := fun q1 q2 q3 q4 q5 q6 => absurd h3 q6) (k5 := fun q1 q2 q3 q4 q5 q6 => absurd h3 q6) (k6 := fun q1 q2 q3 q4 q5 q6 => absurd h3 q6)
          (hA5 := fun q1 q2 q3 q4 q5 q6 => press_ct hP hy hW hC hS hs hk (by omega) (by omega) hbg) (k7 := fun q1 q2 q3 q4 q5 q6 M4 r4 => K3 M4 r4)
          (hA6 := fun q1 q2 q3 q4 q5 => absurd q5 hbg) (k8 := fun q1 q2 q3 q4 q5 => absurd q5 hbg) (k9 := fun q1 q2 q3 q4 q5 => absurd q5 hbg) (k10 := fun q1 q2 q3 q4 q5 => absurd q5 hbg) (hA7 := fun q1 q2 q3 q4 q5 => absurd q5 hbg) (k11 := fun q1 q2 q3 q4 q5 => absurd q5 hbg) (k12 := fun q1 q2 q3 q4 q5 => absurd q5 hbg) (k13 := fun q1 q2 q3 q4 q5 => absurd q5 hbg)
          (hA8 := fun q1 q2 q3 q4 => absurd q4 nb2) (k14 := fun q1 q2 q3 q4 => absurd q4 nb2)
          (R1 := fun _ => True) (R2 := fun _ => True) (R3 := fun _ => True) (R4 := fun _ => True) (R6 := fun _ => True) (R7 := fun _ => True) (R8 := fun _ => True) (s4 := fun q1 q2 q3 q4 q5 q6 M4 rr4 => by first | omega | (have h9 := (RW_fr hW rr4.2).1.1; omega)) (s5 := fun q1 q2 q3 q4 q5 q6 M4 rr4 q7 => by first | omega | (have h9 := (RW_fr hW rr4.2).1.1; omega)) (s6 := fun q1 q2 q3 q4 q5 q6 M4 rr4 q7 i224_1 q8 q9 q10 => by first | omega | (have h9 := (RW_fr hW rr4.2).1.1; omega)) (s7 := fun q1 q2 q3 q4 q5 q6 M4 rr4 q7 i224_1 q8 q9 q10 => by first | omega | (have h9 := (RW_fr hW rr4.2).1.1; omega)) (s8 := fun q1 q2 q3 q4 q5 q6 M4 rr4 q7 i224_1 q8 q9 => by first | omega | (have h9 := (RW_fr hW rr4.2).1.1; omega)) (s9 := fun q1 q2 q3 q4 q5 q6 M4 rr4 q7 q8 => by first | omega | (have h9 := (RW_fr hW rr4.2).1.1; omega)) (s10 := fun q1 q2 q3 q4 q5 q6 M4 rr4 q7 q8 i224_1 q9 q10 q11 => by first | omega | (have h9 := (RW_fr hW rr4.2).1.1; omega)) (s11 := fun q1 q2 q3 q4 q5 q6 M4 rr4 q7 q8 i224_1 q9 q10 q11 => by first | omega | (have h9 := (RW_fr hW rr4.2).1.1; omega)) (s12 := fun q1 q2 q3 q4 q5 q6 M4 rr4 q7 q8 i224_1 q9 q10 => by first | omega | (have h9 := (RW_fr hW rr4.2).1.1; omega)) (s13 := fun q1 q2 q3 q4 q5 q6 M6 rr6 => by first | omega | (have h9 := (RW_fr hW rr6.2).1.1; omega)) (s14 := fun q1 q2 q3 q4 q5 q6 M6 rr6 q7 => by first | omega | (have h9 := (RW_fr hW rr6.2).1.1; omega)) (s15 := fun q1 q2 q3 q4 q5 q6 M6 rr6 q7 i224_1 q8 q9 q10 => by first | omega | (have h9 := (RW_fr hW rr6.2).1.1; omega)) (s16 := fun q1 q2 q3 q4 q5 q6 M6 rr6 q7 i224_1 q8 q9 q10 => by first | omega | (have h9 := (RW_fr hW rr6.2).1.1; omega)) (s17 := fun q1 q2 q3 q4 q5 q6 M6 rr6 q7 i224_1 q8 q9 => by first | omega | (have h9 := (RW_fr hW rr6.2).1.1; omega)) (s18 := fun q1 q2 q3 q4 q5 q6 M6 rr6 q7 q8 => by first | omega | (have h9 := (RW_fr hW rr6.2).1.1; omega)) (s19 := fun q1 q2 q3 q4 q5 q6 M6 rr6 q7 q8 i224_1 q9 q10 q11 => by first | omega | (have h9 := (RW_fr hW rr6.2).1.1; omega)) (s20 := fun q1 q2 q3 q4 q5 q6 M6 rr6 q7 q8 i224_1 q9 q10 q11 => by first | omega | (have h9 := (RW_fr hW rr6.2).1.1; omega)) (s21 := fun q1 q2 q3 q4 q5 q6 M6 rr6 q7 q8 i224_1 q9 q10 => by first | omega | (have h9 := (RW_fr hW rr6.2).1.1; omega)) (s22 := fun q1 q2 q3 q4 q5 q6 M7 rr7 => by first | omega | (have h9 := (RW_fr hW rr7.2).1.1; omega)) (s23 := fun q1 q2 q3 q4 q5 q6 M7 rr7 q7 => by first | omega | (have h9 := (RW_fr hW rr7.2).1.1; omega)) (s24 := fun q1 q2 q3 q4 q5 q6 M7 rr7 q7 i224_1 q8 q9 q10 => by first | omega | (have h9 := (RW_fr hW rr7.2).1.1; omega)) (s25 := fun q1 q2 q3 q4 q5 q6 M7 rr7 q7 i224_1 q8 q9 q10 => by first | omega | (have h9 := (RW_fr hW rr7.2).1.1; omega)) (s26 := fun q1 q2 q3 q4 q5 q6 M7 rr7 q7 i224_1 q8 q9 => by first | omega | (have h9 := (RW_fr hW rr7.2).1.1; omega)) (s27 := fun q1 q2 q3 q4 q5 q6 M7 rr7 q7 q8 => by first | omega | (have h9 := (RW_fr hW rr7.2).1.1; omega)) (s28 := fun q1 q2 q3 q4 q5 q6 M7 rr7 q7 q8 i224_1 q9 q10 q11 => by first | omega | (have h9 := (RW_fr hW rr7.2).1.1; omega)) (s29 := fun q1 q2 q3 q4 q5 q6 M7 rr7 q7 q8 i224_1 q9 q10 q11 => by first | omega | (have h9 := (RW_fr hW rr7.2).1.1; omega)) (s30 := fun q1 q2 q3 q4 q5 q6 M7 rr7 q7 q8 i224_1 q9 q10 => by first | omega | (have h9 := (RW_fr hW rr7.2).1.1; omega))
      · have hl3 : ¬ pL P = 3 := by rw [← el]; exact h3
        have eg : (if M 91 s - M 96 s < r then M 91 s - M 96 s else r) = dsGoes P (sL S s) s r := by
          rw [er, e96]; unfold dsGoes dsMost; rw [if_neg hl3]; (repeat' split) <;> omega
        have hg : 0 ≤ dsGoes P (sL S s) s r ∧ dsGoes P (sL S s) s r ≤ r ∧ dySum (sL S s) + dsGoes P (sL S s) s r ≤ pRoom P s := by
          unfold dsGoes dsMost; rw [if_neg hl3]; (repeat' split) <;> omega
        have ep2 : (dsPour P S s k r).2 = r - dsGoes P (sL S s) s r := by
          unfold dsPour; split
          · show r = _
            omega
          · rfl
        have c4 : bCt 222 [uR 11 84, uI s, uI (dsGoes P (sL S s) s r), uI k, uX 0, uX 0] M (fun _ => []) (fun M' => RF M' y P (dsPour P S s k r).1 ∧ Fr (DR y) M M') := by
          by_cases hg0 : dsGoes P (sL S s) s r ≤ 0
          · have ep : dsPour P S s k r = (S, r) := by unfold dsPour; rw [if_pos hg0]
            rw [ep, show dsGoes P (sL S s) s r = 0 by omega]
            exact putOn_0 ⟨hC, Fr_refl⟩
          · have c := puts_ct (k := k) hP hC hS hs (n := dsGoes P (sL S s) s r) (by omega) (by omega)
            have ep : (dsPour P S s k r).1 = mS (dsUpd (sL S) s (dyLay (sL S s) k (dsGoes P (sL S s) s r))) (sK S) (sU S) (sX S) (sH S) (sB S) (sA S) (sF S) (dsUpd (sD S) s (sD S s + dsGoes P (sL S s) s r)) := by
              unfold dsPour
              rw [if_neg hg0]
              show dsPourS P S s k r = _
              unfold dsPourS
              have ho : dsOver P (sL S s) s r ≤ 0 := by unfold dsOver; omega
              rw [dyDr_0 ho, if_neg (by omega), Int.add_zero]
            rw [ep]; exact c
        refine r227_6 (hA1 := fun q1 => absurd q1 hr) (k1 := fun q1 => absurd q1 hr) (hA2 := fun q1 q2 => by omega) (k2 := fun q1 q2 => by omega)
          (hA3 := fun q1 q2 q3 => absurd q3 nb1) (k3 := fun q1 q2 q3 => absurd q3 nb1)
          (hA4 := fun q1 q2 q3 q4 q5 q6 => by rw [eg]; exact c4) (k4 := fun q1 q2 q3 q4 q5 q6 M4 r4 q7 => by rw [eg, ← ep2]; exact nxt M4 r4 (Or.inl q7)) (k5 := fun q1 q2 q3 q4 q5 q6 M4 r4 q7 q8 => by rw [eg, ← ep2]; exact nxt0 M4 r4 q7 q8) (k6 := fun q1 q2 q3 q4 q5 q6 M4 r4 q7 q8 => by rw [eg, ← ep2]; exact nxt M4 r4 (Or.inr q8))
          (hA5 := fun q1 q2 q3 q4 q5 q6 => absurd q6 h3) (k7 := fun q1 q2 q3 q4 q5 q6 => absurd q6 h3)
          (hA6 := fun q1 q2 q3 q4 q5 => absurd q5 hbg) (k8 := fun q1 q2 q3 q4 q5 => absurd q5 hbg) (k9 := fun q1 q2 q3 q4 q5 => absurd q5 hbg) (k10 := fun q1 q2 q3 q4 q5 => absurd q5 hbg) (hA7 := fun q1 q2 q3 q4 q5 => absurd q5 hbg) (k11 := fun q1 q2 q3 q4 q5 => absurd q5 hbg) (k12 := fun q1 q2 q3 q4 q5 => absurd q5 hbg) (k13 := fun q1 q2 q3 q4 q5 => absurd q5 hbg)
          (hA8 := fun q1 q2 q3 q4 => absurd q4 nb2) (k14 := fun q1 q2 q3 q4 => absurd q4 nb2)
          (R1 := fun _ => True) (R2 := fun _ => True) (R3 := fun _ => True) (R5 := fun _ => True) (R6 := fun _ => True) (R7 := fun _ => True) (R8 := fun _ => True) (s5 := fun q1 q2 q3 q4 q5 q6 M4 rr4 q7 => by first | omega | (have h9 := (RW_fr hW rr4.2).1.1; omega)) (s6 := fun q1 q2 q3 q4 q5 q6 M4 rr4 q7 i224_1 q8 q9 q10 => by first | omega | (have h9 := (RW_fr hW rr4.2).1.1; omega)) (s7 := fun q1 q2 q3 q4 q5 q6 M4 rr4 q7 i224_1 q8 q9 q10 => by first | omega | (have h9 := (RW_fr hW rr4.2).1.1; omega)) (s8 := fun q1 q2 q3 q4 q5 q6 M4 rr4 q7 i224_1 q8 q9 => by first | omega | (have h9 := (RW_fr hW rr4.2).1.1; omega)) (s9 := fun q1 q2 q3 q4 q5 q6 M4 rr4 q7 q8 => by first | omega | (have h9 := (RW_fr hW rr4.2).1.1; omega)) (s10 := fun q1 q2 q3 q4 q5 q6 M4 rr4 q7 q8 i224_1 q9 q10 q11 => by first | omega | (have h9 := (RW_fr hW rr4.2).1.1; omega)) (s11 := fun q1 q2 q3 q4 q5 q6 M4 rr4 q7 q8 i224_1 q9 q10 q11 => by first | omega | (have h9 := (RW_fr hW rr4.2).1.1; omega)) (s12 := fun q1 q2 q3 q4 q5 q6 M4 rr4 q7 q8 i224_1 q9 q10 => by first | omega | (have h9 := (RW_fr hW rr4.2).1.1; omega)) (s13 := fun q1 q2 q3 q4 q5 q6 M6 rr6 => by first | omega | (have h9 := (RW_fr hW rr6.2).1.1; omega)) (s14 := fun q1 q2 q3 q4 q5 q6 M6 rr6 q7 => by first | omega | (have h9 := (RW_fr hW rr6.2).1.1; omega)) (s15 := fun q1 q2 q3 q4 q5 q6 M6 rr6 q7 i224_1 q8 q9 q10 => by first | omega | (have h9 := (RW_fr hW rr6.2).1.1; omega)) (s16 := fun q1 q2 q3 q4 q5 q6 M6 rr6 q7 i224_1 q8 q9 q10 => by first | omega | (have h9 := (RW_fr hW rr6.2).1.1; omega)) (s17 := fun q1 q2 q3 q4 q5 q6 M6 rr6 q7 i224_1 q8 q9 => by first | omega | (have h9 := (RW_fr hW rr6.2).1.1; omega)) (s18 := fun q1 q2 q3 q4 q5 q6 M6 rr6 q7 q8 => by first | omega | (have h9 := (RW_fr hW rr6.2).1.1; omega)) (s19 := fun q1 q2 q3 q4 q5 q6 M6 rr6 q7 q8 i224_1 q9 q10 q11 => by first | omega | (have h9 := (RW_fr hW rr6.2).1.1; omega)) (s20 := fun q1 q2 q3 q4 q5 q6 M6 rr6 q7 q8 i224_1 q9 q10 q11 => by first | omega | (have h9 := (RW_fr hW rr6.2).1.1; omega)) (s21 := fun q1 q2 q3 q4 q5 q6 M6 rr6 q7 q8 i224_1 q9 q10 => by first | omega | (have h9 := (RW_fr hW rr6.2).1.1; omega)) (s22 := fun q1 q2 q3 q4 q5 q6 M7 rr7 => by first | omega | (have h9 := (RW_fr hW rr7.2).1.1; omega)) (s23 := fun q1 q2 q3 q4 q5 q6 M7 rr7 q7 => by first | omega | (have h9 := (RW_fr hW rr7.2).1.1; omega)) (s24 := fun q1 q2 q3 q4 q5 q6 M7 rr7 q7 i224_1 q8 q9 q10 => by first | omega | (have h9 := (RW_fr hW rr7.2).1.1; omega)) (s25 := fun q1 q2 q3 q4 q5 q6 M7 rr7 q7 i224_1 q8 q9 q10 => by first | omega | (have h9 := (RW_fr hW rr7.2).1.1; omega)) (s26 := fun q1 q2 q3 q4 q5 q6 M7 rr7 q7 i224_1 q8 q9 => by first | omega | (have h9 := (RW_fr hW rr7.2).1.1; omega)) (s27 := fun q1 q2 q3 q4 q5 q6 M7 rr7 q7 q8 => by first | omega | (have h9 := (RW_fr hW rr7.2).1.1; omega)) (s28 := fun q1 q2 q3 q4 q5 q6 M7 rr7 q7 q8 i224_1 q9 q10 q11 => by first | omega | (have h9 := (RW_fr hW rr7.2).1.1; omega)) (s29 := fun q1 q2 q3 q4 q5 q6 M7 rr7 q7 q8 i224_1 q9 q10 q11 => by first | omega | (have h9 := (RW_fr hW rr7.2).1.1; omega)) (s30 := fun q1 q2 q3 q4 q5 q6 M7 rr7 q7 q8 i224_1 q9 q10 => by first | omega | (have h9 := (RW_fr hW rr7.2).1.1; omega)) (s4 := fun q1 q2 q3 q4 q5 q6 M4 r4 => by rw [eg]; omega)
  · rw [if_neg hb] at K
    have c := loses_ct (n := r) hy hC
    by_cases nb1 : dsAnd (dsShr (M 84 33) (M 85 (15 + 3 * s + 2))) 1 = 0
    · refine r227_6 (hA1 := fun q1 => absurd q1 hr) (k1 := fun q1 => absurd q1 hr) (hA2 := fun q1 q2 => by omega) (k2 := fun q1 q2 => by omega)
        (hA3 := fun q1 q2 q3 => c) (k3 := fun q1 q2 q3 M1 r1 => K M1 r1.1 (DR_l r1.2)) (hA4 := fun q1 q2 q3 => absurd nb1 q3) (k4 := fun q1 q2 q3 => absurd nb1 q3) (k5 := fun q1 q2 q3 => absurd nb1 q3) (k6 := fun q1 q2 q3 => absurd nb1 q3) (hA5 := fun q1 q2 q3 => absurd nb1 q3) (k7 := fun q1 q2 q3 => absurd nb1 q3)
        (hA6 := fun q1 q2 q3 => absurd nb1 q3) (k8 := fun q1 q2 q3 => absurd nb1 q3) (k9 := fun q1 q2 q3 => absurd nb1 q3) (k10 := fun q1 q2 q3 => absurd nb1 q3) (hA7 := fun q1 q2 q3 => absurd nb1 q3) (k11 := fun q1 q2 q3 => absurd nb1 q3) (k12 := fun q1 q2 q3 => absurd nb1 q3) (k13 := fun q1 q2 q3 => absurd nb1 q3) (hA8 := fun q1 q2 q3 => absurd nb1 q3) (k14 := fun q1 q2 q3 => absurd nb1 q3)
        (R1 := fun _ => True) (R2 := fun _ => True) (R4 := fun _ => True) (R5 := fun _ => True) (R6 := fun _ => True) (R7 := fun _ => True) (R8 := fun _ => True) (s4 := fun q1 q2 q3 q4 q5 q6 M4 rr4 => by first | omega | (have h9 := (RW_fr hW rr4.2).1.1; omega)) (s5 := fun q1 q2 q3 q4 q5 q6 M4 rr4 q7 => by first | omega | (have h9 := (RW_fr hW rr4.2).1.1; omega)) (s6 := fun q1 q2 q3 q4 q5 q6 M4 rr4 q7 i224_1 q8 q9 q10 => by first | omega | (have h9 := (RW_fr hW rr4.2).1.1; omega)) (s7 := fun q1 q2 q3 q4 q5 q6 M4 rr4 q7 i224_1 q8 q9 q10 => by first | omega | (have h9 := (RW_fr hW rr4.2).1.1; omega)) (s8 := fun q1 q2 q3 q4 q5 q6 M4 rr4 q7 i224_1 q8 q9 => by first | omega | (have h9 := (RW_fr hW rr4.2).1.1; omega)) (s9 := fun q1 q2 q3 q4 q5 q6 M4 rr4 q7 q8 => by first | omega | (have h9 := (RW_fr hW rr4.2).1.1; omega)) (s10 := fun q1 q2 q3 q4 q5 q6 M4 rr4 q7 q8 i224_1 q9 q10 q11 => by first | omega | (have h9 := (RW_fr hW rr4.2).1.1; omega)) (s11 := fun q1 q2 q3 q4 q5 q6 M4 rr4 q7 q8 i224_1 q9 q10 q11 => by first | omega | (have h9 := (RW_fr hW rr4.2).1.1; omega)) (s12 := fun q1 q2 q3 q4 q5 q6 M4 rr4 q7 q8 i224_1 q9 q10 => by first | omega | (have h9 := (RW_fr hW rr4.2).1.1; omega)) (s13 := fun q1 q2 q3 q4 q5 q6 M6 rr6 => by first | omega | (have h9 := (RW_fr hW rr6.2).1.1; omega)) (s14 := fun q1 q2 q3 q4 q5 q6 M6 rr6 q7 => by first | omega | (have h9 := (RW_fr hW rr6.2).1.1; omega)) (s15 := fun q1 q2 q3 q4 q5 q6 M6 rr6 q7 i224_1 q8 q9 q10 => by first | omega | (have h9 := (RW_fr hW rr6.2).1.1; omega)) (s16 := fun q1 q2 q3 q4 q5 q6 M6 rr6 q7 i224_1 q8 q9 q10 => by first | omega | (have h9 := (RW_fr hW rr6.2).1.1; omega)) (s17 := fun q1 q2 q3 q4 q5 q6 M6 rr6 q7 i224_1 q8 q9 => by first | omega | (have h9 := (RW_fr hW rr6.2).1.1; omega)) (s18 := fun q1 q2 q3 q4 q5 q6 M6 rr6 q7 q8 => by first | omega | (have h9 := (RW_fr hW rr6.2).1.1; omega)) (s19 := fun q1 q2 q3 q4 q5 q6 M6 rr6 q7 q8 i224_1 q9 q10 q11 => by first | omega | (have h9 := (RW_fr hW rr6.2).1.1; omega)) (s20 := fun q1 q2 q3 q4 q5 q6 M6 rr6 q7 q8 i224_1 q9 q10 q11 => by first | omega | (have h9 := (RW_fr hW rr6.2).1.1; omega)) (s21 := fun q1 q2 q3 q4 q5 q6 M6 rr6 q7 q8 i224_1 q9 q10 => by first | omega | (have h9 := (RW_fr hW rr6.2).1.1; omega)) (s22 := fun q1 q2 q3 q4 q5 q6 M7 rr7 => by first | omega | (have h9 := (RW_fr hW rr7.2).1.1; omega)) (s23 := fun q1 q2 q3 q4 q5 q6 M7 rr7 q7 => by first | omega | (have h9 := (RW_fr hW rr7.2).1.1; omega)) (s24 := fun q1 q2 q3 q4 q5 q6 M7 rr7 q7 i224_1 q8 q9 q10 => by first | omega | (have h9 := (RW_fr hW rr7.2).1.1; omega)) (s25 := fun q1 q2 q3 q4 q5 q6 M7 rr7 q7 i224_1 q8 q9 q10 => by first | omega | (have h9 := (RW_fr hW rr7.2).1.1; omega)) (s26 := fun q1 q2 q3 q4 q5 q6 M7 rr7 q7 i224_1 q8 q9 => by first | omega | (have h9 := (RW_fr hW rr7.2).1.1; omega)) (s27 := fun q1 q2 q3 q4 q5 q6 M7 rr7 q7 q8 => by first | omega | (have h9 := (RW_fr hW rr7.2).1.1; omega)) (s28 := fun q1 q2 q3 q4 q5 q6 M7 rr7 q7 q8 i224_1 q9 q10 q11 => by first | omega | (have h9 := (RW_fr hW rr7.2).1.1; omega)) (s29 := fun q1 q2 q3 q4 q5 q6 M7 rr7 q7 q8 i224_1 q9 q10 q11 => by first | omega | (have h9 := (RW_fr hW rr7.2).1.1; omega)) (s30 := fun q1 q2 q3 q4 q5 q6 M7 rr7 q7 q8 i224_1 q9 q10 => by first | omega | (have h9 := (RW_fr hW rr7.2).1.1; omega))
    · have nb2 : dsAnd (dsShr (M 84 20) s) 1 = 0 := by
        by_cases q : dsAnd (dsShr (M 84 20) s) 1 = 0
        · exact q
        · exact absurd ⟨hb3.2 nb1, es.2.2.2.1.1 q⟩ hb
      refine r227_6 (hA1 := fun q1 => absurd q1 hr) (k1 := fun q1 => absurd q1 hr) (hA2 := fun q1 q2 => by omega) (k2 := fun q1 q2 => by omega)
        (hA3 := fun q1 q2 q3 => absurd q3 nb1) (k3 := fun q1 q2 q3 => absurd q3 nb1) (hA4 := fun q1 q2 q3 q4 => absurd nb2 q4) (k4 := fun q1 q2 q3 q4 => absurd nb2 q4) (k5 := fun q1 q2 q3 q4 => absurd nb2 q4) (k6 := fun q1 q2 q3 q4 => absurd nb2 q4) (hA5 := fun q1 q2 q3 q4 => absurd nb2 q4) (k7 := fun q1 q2 q3 q4 => absurd nb2 q4)
        (hA6 := fun q1 q2 q3 q4 => absurd nb2 q4) (k8 := fun q1 q2 q3 q4 => absurd nb2 q4) (k9 := fun q1 q2 q3 q4 => absurd nb2 q4) (k10 := fun q1 q2 q3 q4 => absurd nb2 q4) (hA7 := fun q1 q2 q3 q4 => absurd nb2 q4) (k11 := fun q1 q2 q3 q4 => absurd nb2 q4) (k12 := fun q1 q2 q3 q4 => absurd nb2 q4) (k13 := fun q1 q2 q3 q4 => absurd nb2 q4) (hA8 := fun q1 q2 q3 q4 => c) (k14 := fun q1 q2 q3 q4 M1 r1 => K M1 r1.1 (DR_l r1.2))
        (R1 := fun _ => True) (R2 := fun _ => True) (R3 := fun _ => True) (R4 := fun _ => True) (R5 := fun _ => True) (R6 := fun _ => True) (R7 := fun _ => True) (s4 := fun q1 q2 q3 q4 q5 q6 M4 rr4 => by first | omega | (have h9 := (RW_fr hW rr4.2).1.1; omega)) (s5 := fun q1 q2 q3 q4 q5 q6 M4 rr4 q7 => by first | omega | (have h9 := (RW_fr hW rr4.2).1.1; omega)) (s6 := fun q1 q2 q3 q4 q5 q6 M4 rr4 q7 i224_1 q8 q9 q10 => by first | omega | (have h9 := (RW_fr hW rr4.2).1.1; omega)) (s7 := fun q1 q2 q3 q4 q5 q6 M4 rr4 q7 i224_1 q8 q9 q10 => by first | omega | (have h9 := (RW_fr hW rr4.2).1.1; omega)) (s8 := fun q1 q2 q3 q4 q5 q6 M4 rr4 q7 i224_1 q8 q9 => by first | omega | (have h9 := (RW_fr hW rr4.2).1.1; omega)) (s9 := fun q1 q2 q3 q4 q5 q6 M4 rr4 q7 q8 => by first | omega | (have h9 := (RW_fr hW rr4.2).1.1; omega)) (s10 := fun q1 q2 q3 q4 q5 q6 M4 rr4 q7 q8 i224_1 q9 q10 q11 => by first | omega | (have h9 := (RW_fr hW rr4.2).1.1; omega)) (s11 := fun q1 q2 q3 q4 q5 q6 M4 rr4 q7 q8 i224_1 q9 q10 q11 => by first | omega | (have h9 := (RW_fr hW rr4.2).1.1; omega)) (s12 := fun q1 q2 q3 q4 q5 q6 M4 rr4 q7 q8 i224_1 q9 q10 => by first | omega | (have h9 := (RW_fr hW rr4.2).1.1; omega)) (s13 := fun q1 q2 q3 q4 q5 q6 M6 rr6 => by first | omega | (have h9 := (RW_fr hW rr6.2).1.1; omega)) (s14 := fun q1 q2 q3 q4 q5 q6 M6 rr6 q7 => by first | omega | (have h9 := (RW_fr hW rr6.2).1.1; omega)) (s15 := fun q1 q2 q3 q4 q5 q6 M6 rr6 q7 i224_1 q8 q9 q10 => by first | omega | (have h9 := (RW_fr hW rr6.2).1.1; omega)) (s16 := fun q1 q2 q3 q4 q5 q6 M6 rr6 q7 i224_1 q8 q9 q10 => by first | omega | (have h9 := (RW_fr hW rr6.2).1.1; omega)) (s17 := fun q1 q2 q3 q4 q5 q6 M6 rr6 q7 i224_1 q8 q9 => by first | omega | (have h9 := (RW_fr hW rr6.2).1.1; omega)) (s18 := fun q1 q2 q3 q4 q5 q6 M6 rr6 q7 q8 => by first | omega | (have h9 := (RW_fr hW rr6.2).1.1; omega)) (s19 := fun q1 q2 q3 q4 q5 q6 M6 rr6 q7 q8 i224_1 q9 q10 q11 => by first | omega | (have h9 := (RW_fr hW rr6.2).1.1; omega)) (s20 := fun q1 q2 q3 q4 q5 q6 M6 rr6 q7 q8 i224_1 q9 q10 q11 => by first | omega | (have h9 := (RW_fr hW rr6.2).1.1; omega)) (s21 := fun q1 q2 q3 q4 q5 q6 M6 rr6 q7 q8 i224_1 q9 q10 => by first | omega | (have h9 := (RW_fr hW rr6.2).1.1; omega)) (s22 := fun q1 q2 q3 q4 q5 q6 M7 rr7 => by first | omega | (have h9 := (RW_fr hW rr7.2).1.1; omega)) (s23 := fun q1 q2 q3 q4 q5 q6 M7 rr7 q7 => by first | omega | (have h9 := (RW_fr hW rr7.2).1.1; omega)) (s24 := fun q1 q2 q3 q4 q5 q6 M7 rr7 q7 i224_1 q8 q9 q10 => by first | omega | (have h9 := (RW_fr hW rr7.2).1.1; omega)) (s25 := fun q1 q2 q3 q4 q5 q6 M7 rr7 q7 i224_1 q8 q9 q10 => by first | omega | (have h9 := (RW_fr hW rr7.2).1.1; omega)) (s26 := fun q1 q2 q3 q4 q5 q6 M7 rr7 q7 i224_1 q8 q9 => by first | omega | (have h9 := (RW_fr hW rr7.2).1.1; omega)) (s27 := fun q1 q2 q3 q4 q5 q6 M7 rr7 q7 q8 => by first | omega | (have h9 := (RW_fr hW rr7.2).1.1; omega)) (s28 := fun q1 q2 q3 q4 q5 q6 M7 rr7 q7 q8 i224_1 q9 q10 q11 => by first | omega | (have h9 := (RW_fr hW rr7.2).1.1; omega)) (s29 := fun q1 q2 q3 q4 q5 q6 M7 rr7 q7 q8 i224_1 q9 q10 q11 => by first | omega | (have h9 := (RW_fr hW rr7.2).1.1; omega)) (s30 := fun q1 q2 q3 q4 q5 q6 M7 rr7 q7 q8 i224_1 q9 q10 => by first | omega | (have h9 := (RW_fr hW rr7.2).1.1; omega))
theorem rdrink_ct {M : dsMem} {y k n first : Int} {P : dsP} {S : dsS} (hP : POK P) (hy : 0 ≤ y ∧ y < 12) (hk : 1 ≤ k ∧ k ≤ 5) (hf0 : 0 ≤ first ∧ first < pN P) (hn : 0 ≤ n ∧ n ≤ 80) (hW : RW M P) (hC : RF M y P S) (hS : WS P S) :
    bCt 227 [uR 11 84, uI first, uI n, uI k, uX 0, uX 0, uX 0, uX 0] M (fun _ => []) (fun M' => RF M' y P (dsDrink P S first k n) ∧ Fr (DR y) M M') := by
  intro Q hQ
  refine r227_0 ?_
  exact rdrk_1 hP hy hk hf0 _ first n S M rfl (Int.le_refl _) hf0.2 (Or.inl rfl) hn.1 hn.2 hW hC hS (fun M' g1 g2 => hQ M' ⟨g1, g2⟩)
