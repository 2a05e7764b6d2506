/-! what a heap is, by a table of numbers -/
abbrev dsE : Type := va_G × (Nat → ClassId) × (Nat × Nat × Nat) × (Nat → Int32) × (Nat → Nat) × (Nat → Nat)
def eG (E : dsE) : va_G := E.1
def eA (E : dsE) : Nat → ClassId := E.2.1
def eB (E : dsE) : Nat := E.2.2.1.1
def eS (E : dsE) : Nat := E.2.2.1.2.1
def eL (E : dsE) : Nat := E.2.2.1.2.2
def eX (E : dsE) : Nat → Int32 := E.2.2.2.1
def eK (E : dsE) : Nat → Nat := E.2.2.2.2.1
def eV (E : dsE) : Nat → Nat := E.2.2.2.2.2
def dsRf (E : dsE) (x : Int) : Value := if x < 0 then .null else .ref (eB E + x.toNat)
def dsVal (E : dsE) (v : dsV) : Value := match v with
  | .inl x => .int (Int32.ofInt x)
  | .inr (.inl x) => .long (Int64.ofInt x)
  | .inr (.inr (.inl x)) => dsRf E x
  | .inr (.inr (.inr 0)) => .null
  | .inr (.inr (.inr 1)) => .ref (eS E)
  | .inr (.inr (.inr (k + 2))) => .ref (eK E k)
def dsGv (v : dsV) : Prop := match v with
  | .inl x => -2147483648 ≤ x ∧ x < 2147483648
  | .inr (.inl x) => -9223372036854775808 ≤ x ∧ x < 9223372036854775808
  | _ => True
def dsGs : List dsV → Prop
  | [] => True
  | v :: r => dsGv v ∧ dsGs r
theorem dsGs_app {a b : List dsV} (ha : dsGs a) (hb : dsGs b) : dsGs (a ++ b) := by
  induction a with
  | nil => exact hb
  | cons v r ih => exact ⟨ha.1, ih ha.2⟩
theorem dsCat (E : dsE) (v : dsV) : (dsVal E v).category = dsC v := by
  rcases v with x | x | x | n
  · rfl
  · rfl
  · simp only [dsVal, dsRf, dsC]; split <;> rfl
  · rcases n with _ | _ | n <;> rfl
theorem dsCats (E : dsE) (st : List dsV) : (((st.map (dsVal E)).map fun v => v.category).sum) = dsCs st := by
  induction st with
  | nil => rfl
  | cons v r ih => simp only [List.map_cons, List.sum_cons, dsCs, ih, dsCat]
/-! locals -/
def dsEn (E : dsE) : Nat → List dsV → List (Nat × Value)
  | _, [] => []
  | i, .inr (.inr (.inr 0)) :: r => dsEn E (i + 1) r
  | i, v :: r => (i, dsVal E v) :: dsEn E (i + 1) r
theorem dsEn_in (E : dsE) : ∀ (ls : List dsV) (i k : Nat), dsg ls k ≠ vX 0 → (i + k, dsVal E (dsg ls k)) ∈ dsEn E i ls := by
  intro ls
  induction ls with
  | nil => intro i k h; exact absurd rfl h
  | cons v r ih =>
    intro i k h
    cases k with
    | zero =>
      have hv : v ≠ vX 0 := h
      have e : dsEn E i (v :: r) = (i, dsVal E v) :: dsEn E (i + 1) r := by
        rcases v with x | x | x | n <;> first | rfl | (rcases n with _ | n; exact absurd rfl hv; rfl)
      rw [e]
      exact List.mem_cons_self
    | succ k =>
      have h2 := ih (i + 1) k h
      rw [show i + 1 + k = i + (k + 1) by omega] at h2
      rcases v with x | x | x | n
      · exact List.mem_cons_of_mem _ h2
      · exact List.mem_cons_of_mem _ h2
      · exact List.mem_cons_of_mem _ h2
      · rcases n with _ | n
        · exact h2
        · exact List.mem_cons_of_mem _ h2
def dsLR (E : dsE) (arr : Array Slot) (nL : Nat) (ls : List dsV) : Prop := arr.size = nL ∧ lv_wf arr ∧ (∀ i, dsg ls i ≠ vX 0 → arr[i]? = some (.val (dsVal E (dsg ls i)))) ∧ ∀ i, dsGv (dsg ls i)
theorem dsEn_out (E : dsE) : ∀ (ls : List dsV) (i : Nat) (q : Nat × Value), q ∈ dsEn E i ls → ∃ k, dsg ls k ≠ vX 0 ∧ q = (i + k, dsVal E (dsg ls k)) := by
  intro ls
  induction ls with
  | nil => intro i q h; cases h
  | cons v r ih =>
    intro i q h
    have key : q ∈ dsEn E (i + 1) r → ∃ k, dsg (v :: r) k ≠ vX 0 ∧ q = (i + k, dsVal E (dsg (v :: r) k)) := by
      intro h
      obtain ⟨k, h1, h2⟩ := ih _ _ h
      exact ⟨k + 1, h1, by rw [h2, show i + 1 + k = i + (k + 1) by omega]; rfl⟩
    rcases v with x | x | x | n
    · rcases List.mem_cons.mp h with h | h
      · exact ⟨0, (fun z => by cases z), h⟩
      · exact key h
    · rcases List.mem_cons.mp h with h | h
      · exact ⟨0, (fun z => by cases z), h⟩
      · exact key h
    · rcases List.mem_cons.mp h with h | h
      · exact ⟨0, (fun z => by cases z), h⟩
      · exact key h
    · rcases n with _ | n
      · exact key h
      · rcases List.mem_cons.mp h with h | h
        · exact ⟨0, (fun z => by cases z), h⟩
        · exact key h
theorem dsLR.has {E : dsE} {arr : Array Slot} {nL : Nat} {ls : List dsV} (h : dsLR E arr nL ls) : lv_has arr nL (dsEn E 0 ls) := by
  refine ⟨h.1, h.2.1, fun q hq => ?_⟩
  obtain ⟨k, h1, h2⟩ := dsEn_out E ls 0 q hq
  rw [h2]
  simp only [Nat.zero_add]
  exact h.2.2.1 k h1
theorem dsg_dsp (ls : List dsV) : ∀ (i j : Nat) (v : dsV), dsg (dsp ls i v) j = if j = i ∧ i < ls.length then v else dsg ls j := by
  induction ls with
  | nil => intro i j v; simp [dsp, dsg]
  | cons a r ih =>
    intro i j v
    cases i with
    | zero =>
      cases j with
      | zero => simp [dsp, dsg]
      | succ j => simp [dsp, dsg]
    | succ i =>
      cases j with
      | zero => simp [dsp, dsg]
      | succ j => simp [dsp, dsg, ih]
theorem dsp_len (ls : List dsV) : ∀ (i : Nat) (v : dsV), (dsp ls i v).length = ls.length := by
  induction ls with
  | nil => intro i v; rfl
  | cons a r ih =>
    intro i v
    cases i with
    | zero => rfl
    | succ i => simp [dsp, ih]
theorem dspc_g (ls : List dsV) (i j : Nat) : dsg (dspc ls i) j = dsg ls j ∨ dsg (dspc ls i) j = vX 0 := by
  cases i with
  | zero => exact Or.inl rfl
  | succ k =>
    simp only [dspc]
    split
    · rw [dsg_dsp]
      by_cases h : j = k ∧ k < ls.length
      · rw [if_pos h]; exact Or.inr rfl
      · rw [if_neg h]; exact Or.inl rfl
    · exact Or.inl rfl
/-- where a long stands ahead of the place, it is gone -/
theorem dspc_l (ls : List dsV) (i j : Nat) (h : j + 1 = i) (x : Int) : dsg (dspc ls i) j ≠ vJ x := by
  subst h
  simp only [dspc]
  split
  · rename_i y hy
    rw [dsg_dsp]
    by_cases h : j = j ∧ j < ls.length
    · rw [if_pos h]; intro q; cases q
    · rw [if_neg h]
      exfalso
      have : ls.length ≤ j := by omega
      have e : ∀ (l : List dsV) (j : Nat), l.length ≤ j → dsg l j = vX 0 := by
        intro l
        induction l with
        | nil => intro j _; rfl
        | cons a r ih =>
          intro j hj
          cases j with
          | zero => simp at hj
          | succ j => exact ih j (by simpa using hj)
      rw [e ls j this] at hy
      cases hy
  · rename_i hn
    intro q
    exact hn x q
theorem dsLR.st1 {E : dsE} {arr : Array Slot} {nL : Nat} {ls : List dsV} {i : Nat} {v : dsV} (hv : dsGv v) (hg : ∀ j, dsGv (dsg ls j))
    (h : lv_has arr nL ((i, dsVal E v) :: (dsEn E 0 ls).filter (fun q => !(q.1 == i) && !(q.1 + 1 == i && q.2.category == 2)))) : dsLR E arr nL (dsp1 ls i v) := by
  refine ⟨h.1, h.2.1, fun j hj => ?_, fun j => ?_⟩
  · unfold dsp1 at hj ⊢
    rw [dsg_dsp] at hj ⊢
    by_cases hc : j = i ∧ i < (dspc ls i).length
    · rw [if_pos hc]
      rw [hc.1]
      exact h.2.2 (i, dsVal E v) List.mem_cons_self
    · rw [if_neg hc] at hj ⊢
      rcases dspc_g ls i j with e | e
      · rw [e] at hj ⊢
        have hm := dsEn_in E ls 0 j hj
        rw [Nat.zero_add] at hm
        have hne : j ≠ i := by
          intro q
          have hlen : ¬ i < (dspc ls i).length := fun z => hc ⟨q, z⟩
          have e2 : ∀ (l : List dsV) (j : Nat), l.length ≤ j → dsg l j = vX 0 := by
            intro l
            induction l with
            | nil => intro j _; rfl
            | cons a r ih =>
              intro j hj
              cases j with
              | zero => simp at hj
              | succ j => exact ih j (by simpa using hj)
          rw [← e, e2 _ j (by omega)] at hj
          exact hj rfl
        refine h.2.2 (j, dsVal E (dsg ls j)) (List.mem_cons_of_mem _ (List.mem_filter.mpr ⟨hm, ?_⟩))
        simp only [Bool.and_eq_true, Bool.not_eq_true', beq_eq_false_iff_ne, ne_eq, Bool.and_eq_false_iff]
        refine ⟨hne, ?_⟩
        by_cases hji : j + 1 = i
        · right
          rw [dsCat]
          intro hc2
          have h9 := dspc_l ls i j hji
          rw [e] at h9
          rcases hd : dsg ls j with x | x | x | n
          · rw [hd] at hc2; cases hc2
          · exact h9 x hd
          · rw [hd] at hc2; cases hc2
          · rw [hd] at hc2; cases hc2
        · exact Or.inl hji
      · rw [e] at hj; exact absurd rfl hj
  · unfold dsp1
    rw [dsg_dsp]
    split
    · exact hv
    · rcases dspc_g ls i j with e | e
      · rw [e]; exact hg j
      · rw [e]; trivial
theorem dsLR.st2 {E : dsE} {arr : Array Slot} {nL : Nat} {ls : List dsV} {i : Nat} {v : dsV} (hv : dsGv v) (hg : ∀ j, dsGv (dsg ls j))
    (h : lv_has arr nL ((i, dsVal E v) :: (dsEn E 0 ls).filter (fun q => !(q.1 == i) && (!(q.1 == i + 1) && !(q.1 + 1 == i && q.2.category == 2))))) : dsLR E arr nL (dsp2 ls i v) := by
  have e2 : ∀ (l : List dsV) (j : Nat), l.length ≤ j → dsg l j = vX 0 := by
    intro l
    induction l with
    | nil => intro j _; rfl
    | cons a r ih =>
      intro j hj
      cases j with
      | zero => simp at hj
      | succ j => exact ih j (by simpa using hj)
  refine ⟨h.1, h.2.1, fun j hj => ?_, fun j => ?_⟩
  · unfold dsp2 at hj ⊢
    rw [dsg_dsp] at hj ⊢
    by_cases hd : j = i + 1 ∧ i + 1 < (dsp (dspc ls i) i v).length
    · rw [if_pos hd] at hj; exact absurd rfl hj
    · rw [if_neg hd] at hj ⊢
      rw [dsg_dsp] at hj ⊢
      by_cases hc : j = i ∧ i < (dspc ls i).length
      · rw [if_pos hc]
        rw [hc.1]
        exact h.2.2 (i, dsVal E v) List.mem_cons_self
      · rw [if_neg hc] at hj ⊢
        rcases dspc_g ls i j with e | e
        · have hj0 := hj
          rw [e] at hj ⊢
          have hm := dsEn_in E ls 0 j hj
          rw [Nat.zero_add] at hm
          have hne : j ≠ i := by
            intro q
            have hlen : ¬ i < (dspc ls i).length := fun z => hc ⟨q, z⟩
            rw [e2 _ j (by omega)] at hj0
            exact hj0 rfl
          have hne2 : j ≠ i + 1 := by
            intro q
            have hlen : ¬ i + 1 < (dsp (dspc ls i) i v).length := fun z => hd ⟨q, z⟩
            rw [dsp_len] at hlen
            rw [e2 _ j (by omega)] at hj0
            exact hj0 rfl
          refine h.2.2 (j, dsVal E (dsg ls j)) (List.mem_cons_of_mem _ (List.mem_filter.mpr ⟨hm, ?_⟩))
          simp only [Bool.and_eq_true, Bool.not_eq_true', beq_eq_false_iff_ne, ne_eq, Bool.and_eq_false_iff]
          refine ⟨hne, hne2, ?_⟩
          by_cases hji : j + 1 = i
          · right
            rw [dsCat]
            intro hc2
            have h9 := dspc_l ls i j hji
            rw [e] at h9
            rcases hd2 : dsg ls j with x | x | x | n
            · rw [hd2] at hc2; cases hc2
            · exact h9 x hd2
            · rw [hd2] at hc2; cases hc2
            · rw [hd2] at hc2; cases hc2
          · exact Or.inl hji
        · rw [e] at hj; exact absurd rfl hj
  · unfold dsp2
    rw [dsg_dsp]
    split
    · trivial
    · rw [dsg_dsp]
      split
      · exact hv
      · rcases dspc_g ls i j with e | e
        · rw [e]; exact hg j
        · rw [e]; trivial
