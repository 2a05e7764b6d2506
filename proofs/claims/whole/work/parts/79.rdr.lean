/-! the reference's reader, word by word -/
def FE : Int → Int → Prop := fun a j => a = 84 ∧ 8 ≤ j ∧ j ≤ 13
def RQs (M : dsMem) (n : Int) (b : Int → Int) (q : psT) : Prop := RTp M n b ∧ M 84 12 = q.1 ∧ M 84 13 = q.2.1 ∧ (q.1 = 0 → RTk M n b q.2.2) ∧ PQ n q
theorem RTk_e {M M' : dsMem} {n p : Int} {b : Int → Int} (h : RTk M n b p) (e : ∀ j, 8 ≤ j → j ≤ 11 → M' 84 j = M 84 j) : RTk M' n b p :=
  ⟨by rw [e _ (by omega) (by omega)]; exact h.1, by rw [e _ (by omega) (by omega)]; exact h.2.1, by rw [e _ (by omega) (by omega)]; exact h.2.2.1, fun u => by rw [e _ (by omega) (by omega)]; exact h.2.2.2 u⟩
theorem RQs_fr {M M' : dsMem} {n : Int} {b : Int → Int} {q : psT} (h : RQs M n b q) (e : ∀ a j, a = 84 ∨ a = 88 → M' a j = M a j) : RQs M' n b q :=
  ⟨RTp_e h.1 (fun a j u => e a j (by omega)), by rw [e _ _ (by omega)]; exact h.2.1, by rw [e _ _ (by omega)]; exact h.2.2.1, fun u => RTk_e (h.2.2.2.1 u) (fun j _ _ => e _ _ (by omega)), h.2.2.2.2⟩
theorem RQs_pos {M : dsMem} {n : Int} {b : Int → Int} {q : psT} (h : RQs M n b q) (h0 : q.1 = 0) : q = (0, -1, q.2.2) ∧ 0 ≤ q.2.2 ∧ q.2.2 ≤ n := by
  have hq := h.2.2.2.2 h0
  refine ⟨?_, hq.2⟩
  obtain ⟨a, c, d⟩ := q
  simp only at h0 hq ⊢
  rw [h0, hq.1]
theorem isW_t {n p : Int} {b : Int → Int} {k : Nat} (hk : k < 15) (hp : 0 ≤ p ∧ p ≤ n) (h : isW n b p k) : tT n b p = 1 := by
  have hl := len_b hk
  have tb := t_b (n := n) (p := p) (b := b) hp
  have hw := (isW_iff hk).1 h
  have h0 := hw.2 0 (by omega) (by omega)
  have key : ∀ u : Fin 15, 97 ≤ dsChr u.val 0 ∧ dsChr u.val 0 ≤ 122 := by decide +kernel
  have hc : 97 ≤ dsChr k 0 ∧ dsChr k 0 ≤ 122 := key ⟨k, hk⟩
  rw [show tF n b p + 0 = tF n b p by omega] at h0
  unfold tT
  rw [if_pos (by omega)]
  show kd n b (tF n b p) = 1
  rw [kd_at (by omega)]
  exact kdB_1.2 (by omega)
theorem is_ct {M : dsMem} {n : Int} {b : Int → Int} {q : psT} {k : Nat} (hk : k < 15) (h : RQs M n b q) : bCt 200 [uR 11 84, uX (k + 2), uX 0, uX 0] M (fun _ => [uI (if q.1 = 0 ∧ isW n b q.2.2 k then 1 else 0)]) (fun M' => M' = M) := by
  intro Q hQ
  have hl := len_b hk
  have e12 := h.2.1
  have no : ¬ (q.1 = 0 ∧ isW n b q.2.2 k) → bB 200 39 [uR 11 84, uX (k + 2), uI 0, uI 0] [] M Q := fun u => by
    have e : (0 : Int) = if q.1 = 0 ∧ isW n b q.2.2 k then 1 else 0 := by rw [if_neg u]
    exact r200_39 (s1 := hk) (k1 := fun _ => q_eq e (hQ M rfl)) (s2 := fun _ => Or.inl rfl) (k2 := fun _ _ => q_eq e (hQ M rfl)) (s3 := fun _ _ => Or.inl rfl) (s4 := fun _ v => absurd rfl v) (s5 := fun _ v => absurd rfl v) (s6 := fun _ v => absurd rfl v) (k3 := fun _ v => absurd rfl v) (s7 := fun _ v => absurd rfl v) (k4 := fun _ v => absurd rfl v)
  by_cases h0 : q.1 = 0
  · have hp := RQs_pos h h0
    have rk := h.2.2.2.1 h0
    have tb := t_b (n := n) (p := q.2.2) (b := b) hp.2
    have h600 := h.1.2.1
    have e8 := rk.2.1
    have e9 := rk.1
    have e10 := rk.2.2.1
    refine r200_0 (k1 := fun u => absurd (e12.trans h0) u) (k2 := fun _ u => no (fun w => u (by rw [e10]; exact isW_t hk hp.2 w.2))) (s1 := fun _ _ => hk) (s2 := fun _ _ => by omega) (k3 := fun _ _ u => no (fun w => u (by rw [e8, e9]; exact w.2.1))) (k4 := fun _ _ u => ?_)
    rw [e8, e9] at u
    have sub : ∀ x, (x = 0 ∨ x = 1) → ∀ i, 0 ≤ i → i ≤ dsLen k → (x = 1 ↔ ∀ j, 0 ≤ j → j < i → b (tF n b q.2.2 + j) = dsChr k j) → bB 200 39 [uR 11 84, uX (k + 2), uI x, uI i] [] M Q := by
      intro x hx i i0 i1 hi
      refine b_loop (fun (a : Int × Int) => [uR 11 84, uX (k + 2), uI a.1, uI a.2]) (fun a M' => M' = M ∧ (a.1 = 0 ∨ a.1 = 1) ∧ (0 ≤ a.2 ∧ a.2 ≤ dsLen k) ∧ (a.1 = 1 ↔ ∀ j, 0 ≤ j → j < a.2 → b (tF n b q.2.2 + j) = dsChr k j)) (fun a => (dsLen k - a.2).toNat) ?_ (x, i) M ⟨rfl, hx, ⟨i0, i1⟩, hi⟩
      rintro ⟨y, j⟩ M' ⟨hM, hy, hj, hij⟩ ih
      subst hM
      simp only at hy hj hij
      show bB 200 39 [uR 11 84, uX (k + 2), uI y, uI j] [] M' Q
      have fin : (y = 1 ↔ q.1 = 0 ∧ isW n b q.2.2 k) → Q [uI y] M' := fun w => by
        refine q_eq ?_ (hQ M' rfl)
        by_cases hc : q.1 = 0 ∧ isW n b q.2.2 k
        · rw [if_pos hc]; exact w.2 hc
        · rw [if_neg hc]
          rcases hy with v | v
          · exact v
          · exact absurd (w.1 v) hc
      have em : ¬ dsLen k ≤ j → M' 88 (M' 84 9 + j) = b (tF n b q.2.2 + j) := fun w => by rw [e9]; exact (h.1.2.2 _ (by omega) (by omega)).1
      refine r200_39 (s1 := hk) (k1 := fun w => fin ?_) (s2 := fun _ => hy) (k2 := fun w v => fin ?_) (s3 := fun _ _ => hy) (s4 := fun w _ => by omega) (s5 := fun w _ => ⟨hk, hj.1, by omega⟩) (s6 := fun w _ _ => by omega) (k3 := fun w v z => ?_) (s7 := fun w _ _ => by omega) (k4 := fun w v z => ?_)
      · have ej : j = dsLen k := by omega
        subst ej
        rw [hij]
        exact ⟨fun z => ⟨h0, (isW_iff hk).2 ⟨u, z⟩⟩, fun z => ((isW_iff hk).1 z.2).2⟩
      · refine ⟨fun z => by omega, fun z => ?_⟩
        have := hij.2 (fun i i0 i1 => ((isW_iff hk).1 z.2).2 i i0 (by omega))
        omega
      · rw [em w] at z
        exact ih (0, j + 1) M' (by show (dsLen k - (j + 1)).toNat < (dsLen k - j).toNat; omega) ⟨rfl, Or.inl rfl, by show 0 ≤ j + 1 ∧ j + 1 ≤ dsLen k; omega, ⟨fun c => by have : (0 : Int) = 1 := c; omega, fun c => absurd (c j hj.1 (by show j < j + 1; omega)) z⟩⟩
      · rw [em w] at z
        refine ih (1, j + 1) M' (by show (dsLen k - (j + 1)).toNat < (dsLen k - j).toNat; omega) ⟨rfl, Or.inr rfl, by show 0 ≤ j + 1 ∧ j + 1 ≤ dsLen k; omega, ⟨fun _ i i0 i1 => ?_, fun _ => rfl⟩⟩
        by_cases ei : i = j
        · subst ei; exact z
        · have i2 : i < j + 1 := i1
          exact hij.1 (by omega) i i0 (by omega)
    exact sub 1 (Or.inr rfl) 0 (by omega) (by omega) ⟨fun _ j j0 j1 => by omega, fun _ => rfl⟩
  · exact r200_0 (k1 := fun _ => no (fun w => h0 w.1)) (k2 := fun u => absurd (e12.symm.trans u) h0) (s1 := fun u => absurd (e12.symm.trans u) h0) (s2 := fun u => absurd (e12.symm.trans u) h0) (k3 := fun u => absurd (e12.symm.trans u) h0) (k4 := fun u => absurd (e12.symm.trans u) h0)
def erQ (n : Int) (b : Int → Int) (x : Int) (q : psT) : psT := if q.1 = 0 then (x, tF n b q.2.2, q.2.2) else q
theorem errs_ct {M : dsMem} {n x : Int} {b : Int → Int} {q : psT} (hx : x ≠ 0) (h : RQs M n b q) : bCt 199 [uR 11 84, uI x] M (fun _ => []) (fun M' => RQs M' n b (erQ n b x q) ∧ Fr FE M M') := by
  intro Q hQ
  have e12 := h.2.1
  refine r199_0 (k1 := fun u => hQ _ ?_) (k2 := fun u => hQ M ?_)
  · have h0 : q.1 = 0 := e12.symm.trans u
    unfold erQ; rw [if_pos h0]
    refine ⟨⟨RTp_e h.1 (fun a j w => by rw [ds_gn (by omega), ds_gn (by omega)]), by rw [ds_gn (by omega), ds_ge ⟨rfl, rfl⟩], by rw [ds_ge ⟨rfl, rfl⟩]; exact (h.2.2.2.1 h0).1, fun w => absurd w hx, fun w => absurd w hx⟩, Fr_set (Fr_set Fr_refl (by unfold FE; omega)) (by unfold FE; omega)⟩
  · have h0 : ¬ q.1 = 0 := fun w => u (e12.trans w)
    unfold erQ; rw [if_neg h0]; exact ⟨h, Fr_refl⟩
def avQ (n : Int) (b : Int → Int) (q : psT) : psT := (0, q.2.1, tU n b q.2.2)
theorem adv2_ct {M : dsMem} {n : Int} {b : Int → Int} {q : psT} (h0 : q.1 = 0) (h : RQs M n b q) : bCt 197 [uR 11 84, uX 0] M (fun _ => []) (fun M' => RQs M' n b (avQ n b q) ∧ Fr FE M M') := by
  intro Q hQ
  have hp := h.2.2.2.2 h0
  have tb := t_b (n := n) (p := q.2.2) (b := b) hp.2
  refine adv_ct h.1 (h.2.2.2.1 h0).2.1 (by omega) Q (fun M' r => hQ M' ?_)
  have e : ∀ j, j = 12 ∨ j = 13 → M' 84 j = M 84 j := fun j u => r.2 _ _ (by unfold FA; omega)
  refine ⟨⟨RTp_e h.1 (fun a j u => r.2 a j (by unfold FA; omega)), by rw [e _ (by omega)]; exact h.2.1.trans h0, by rw [e _ (by omega)]; exact h.2.2.1, fun _ => r.1, fun _ => ⟨hp.1, ?_, tb.2.2.1⟩⟩, Fr_mono (fun a j u => by unfold FA at u; unfold FE; omega) r.2⟩
  show 0 ≤ tU n b q.2.2
  omega
def tkQ (n : Int) (b : Int → Int) (k : Nat) (q : psT) : psT := if q.1 = 0 ∧ isW n b q.2.2 k then avQ n b q else q
theorem takes_ct {M : dsMem} {n : Int} {b : Int → Int} {q : psT} {k : Nat} (hk : k < 15) (h : RQs M n b q) : bCt 201 [uR 11 84, uX (k + 2), uX 0] M (fun _ => [uI (if q.1 = 0 ∧ isW n b q.2.2 k then 1 else 0)]) (fun M' => RQs M' n b (tkQ n b k q) ∧ Fr FE M M') := by
  intro Q hQ
  have b01 : (if q.1 = 0 ∧ isW n b q.2.2 k then (1 : Int) else 0) = 0 ∨ (if q.1 = 0 ∧ isW n b q.2.2 k then (1 : Int) else 0) = 1 := by split <;> omega
  refine r201_0 (hA1 := is_ct hk h) (k1 := fun M1 r1 u => ?_) (s1 := fun M1 r1 u => b01) (hA2 := fun M1 r1 u => adv2_ct (q := q) (if01_1 u).1 (by rw [r1]; exact h)) (k2 := fun M1 r1 u M2 r2 => ?_) (s2 := fun M1 r1 u M2 r2 => b01)
  · subst r1
    refine hQ M1 ⟨?_, Fr_refl⟩
    unfold tkQ; rw [if_neg (if01_0 u)]; exact h
  · subst r1
    refine hQ M2 ⟨?_, r2.2⟩
    unfold tkQ; rw [if_pos (if01_1 u)]; exact r2.1
theorem expects_ct {M : dsMem} {n : Int} {b : Int → Int} {q : psT} {k : Nat} (hk : k < 15) (h : RQs M n b q) : bCt 202 [uR 11 84, uX (k + 2)] M (fun _ => []) (fun M' => RQs M' n b (exW n b k q) ∧ Fr FE M M') := by
  intro Q hQ
  refine r202_0 (hA1 := takes_ct hk h) (k1 := fun M1 r1 u => hQ M1 ⟨?_, r1.2⟩) (hA2 := fun M1 r1 u => errs_ct (x := 1) (by omega) r1.1) (k2 := fun M1 r1 u M2 r2 => hQ M2 ⟨?_, Fr_trans r1.2 r2.2⟩)
  · have w := if01_1 u
    have := r1.1
    unfold tkQ at this; rw [if_pos w] at this
    unfold exW; rw [if_pos w.1, if_pos w.2]; exact this
  · have w := if01_0 u
    have := r2.1
    unfold tkQ at this; rw [if_neg w] at this
    unfold erQ at this
    unfold exW
    by_cases h0 : q.1 = 0
    · rw [if_pos h0] at this
      rw [if_pos h0, if_neg (fun v => w ⟨h0, v⟩)]; exact this
    · rw [if_neg h0] at this
      rw [if_neg h0]; exact this
def rV (n : Int) (b : Int → Int) (lo hi : Int) (q : psT) : Int := if (nmQ n b lo hi q).1 = 0 then nmV n b q else 0
theorem number_ct {M : dsMem} {n lo hi : Int} {b : Int → Int} {q : psT} (hh : hi < 99999) (h : RQs M n b q) : bCt 203 [uR 11 84, uI lo, uI hi, uX 0] M (fun _ => [uI (rV n b lo hi q)]) (fun M' => RQs M' n b (nmQ n b lo hi q) ∧ Fr FE M M') := by
  intro Q hQ
  have e12 := h.2.1
  -- the end
  have last0 : ∀ q' M1, ¬ q'.1 = 0 → RQs M1 n b q' → nmQ n b lo hi q = q' → Fr FE M M1 → bB 203 47 [uR 11 84, uX 0, uX 0, uX 0] [] M1 Q := fun q' M1 z r e f => by
    have m : ¬ M1 84 12 = 0 := fun u => z (r.2.1.symm.trans u)
    refine r203n_47 (R1 := fun _ => False) (hA1 := fun u => absurd u m) (k1 := fun u => absurd u m) (k2 := fun _ => ?_)
    refine q_eq ?_ (hQ M1 ⟨by rw [e]; exact r, f⟩)
    unfold rV; rw [if_neg (by rw [e]; exact z)]
  by_cases h0 : q.1 = 0
  · have hp := RQs_pos h h0
    have rk := h.2.2.2.1 h0
    have tb := t_b (n := n) (p := q.2.2) (b := b) hp.2
    have e10 := rk.2.2.1
    have m12 : M 84 12 = 0 := e12.trans h0
    have t2 : tT n b q.2.2 = 2 ↔ tK n b q.2.2 = 2 := by
      unfold tT
      by_cases hl : tF n b q.2.2 < n
      · rw [if_pos hl]
      · rw [if_neg hl]
        refine ⟨fun u => by omega, fun u => ?_⟩
        have := kd_in (n := n) (b := b) (i := tF n b q.2.2) (by show tK n b q.2.2 ≠ 4; omega)
        omega
    refine r203n_0 (k1 := fun u => absurd m12 u) (k2 := fun _ u => ?_) (hA1 := fun _ _ => errs_ct (x := 1) (by omega) h) (k3 := fun _ u M1 r1 => ?_)
    · have k2 : tK n b q.2.2 = 2 := t2.1 (e10.symm.trans u)
      have e11 := rk.2.2.2 k2
      have b11 : (lo ≤ M 84 11 ∧ M 84 11 ≤ hi) ↔ (lo ≤ tN n b q.2.2 ∧ tN n b q.2.2 ≤ hi) := by
        by_cases hl : tN n b q.2.2 < 99999
        · rw [if_pos hl] at e11; rw [e11]
        · rw [if_neg hl] at e11; rw [e11]; omega
      refine r203n_20 (k1 := fun v => absurd m12 v) (k2 := fun _ v => ?_) (hA1 := fun _ _ => errs_ct (x := 2) (by omega) h) (k3 := fun _ v M1 r1 => ?_)
      · have v' := b11.1 v
        have eq : nmQ n b lo hi q = avQ n b q := by unfold nmQ; rw [if_pos h0, if_pos k2, if_pos v']; rfl
        refine r203n_47 (hA1 := fun _ => adv2_ct h0 h) (k1 := fun _ M1 r1 => q_eq ?_ (hQ M1 ⟨by rw [eq]; exact r1.1, r1.2⟩)) (k2 := fun w => absurd m12 w)
        unfold rV
        rw [if_pos (by rw [eq]; rfl)]
        unfold nmV
        rw [if_pos ⟨h0, k2⟩]
        by_cases hl : tN n b q.2.2 < 99999
        · rw [if_pos hl] at e11; exact e11
        · omega
      · have v' : ¬ (lo ≤ tN n b q.2.2 ∧ tN n b q.2.2 ≤ hi) := fun w => v (b11.2 w)
        have eq : nmQ n b lo hi q = erQ n b 2 q := by unfold nmQ erQ; rw [if_pos h0, if_pos k2, if_neg v', if_pos h0]
        refine last0 _ M1 ?_ r1.1 eq r1.2
        unfold erQ; rw [if_pos h0]; show ¬ (2 : Int) = 0; omega
    · have k2 : ¬ tK n b q.2.2 = 2 := fun w => u (e10.trans (t2.2 w))
      have eq : nmQ n b lo hi q = erQ n b 1 q := by unfold nmQ erQ; rw [if_pos h0, if_neg k2, if_pos h0]
      have z : ¬ (erQ n b 1 q).1 = 0 := by unfold erQ; rw [if_pos h0]; show ¬ (1 : Int) = 0; omega
      have m : ¬ M1 84 12 = 0 := fun w => z (r1.1.2.1.symm.trans w)
      exact r203n_20 (R1 := fun _ => False) (k1 := fun _ => last0 _ M1 z r1.1 eq r1.2) (k2 := fun w => absurd w m) (hA1 := fun w => absurd w m) (k3 := fun w => absurd w m)
  · have m : ¬ M 84 12 = 0 := fun u => h0 (e12.symm.trans u)
    have eq : nmQ n b lo hi q = q := nmQ_f h0
    exact r203n_0 (R1 := fun _ => False) (k1 := fun _ => r203n_20 (R1 := fun _ => False) (k1 := fun _ => last0 q M h0 h eq Fr_refl) (k2 := fun w => absurd w m) (hA1 := fun w => absurd w m) (k3 := fun w => absurd w m)) (k2 := fun w => absurd w m) (hA1 := fun w => absurd w m) (k3 := fun w => absurd w m)
theorem toldBy_ct {M : dsMem} {n lo hi : Int} {b : Int → Int} {q : psT} {k : Nat} (hk : k < 15) (hh : hi < 99999) (h : RQs M n b q) : bCt 204 [uR 11 84, uX (k + 2), uI lo, uI hi] M (fun _ => [uI (rV n b lo hi (exW n b k q))]) (fun M' => RQs M' n b (nmQ n b lo hi (exW n b k q)) ∧ Fr FE M M') := by
  intro Q hQ
  exact r204_0 (hA1 := expects_ct hk h) (hA2 := fun M1 r1 => number_ct hh r1.1) (k1 := fun M1 r1 M2 r2 => hQ M2 ⟨r2.1, Fr_trans r1.2 r2.2⟩)
theorem rV_eq {n lo hi : Int} {b : Int → Int} {q : psT} (h : (nmQ n b lo hi q).1 = 0) : rV n b lo hi q = nmV n b q := by unfold rV; rw [if_pos h]
