/-! the least predicate that is closed under steps: 'from here the method returns, with Q' -/
abbrev dsPT : Type := Nat → Nat → List dsV → List dsV → Nat × Nat → dsMem → dsQT → Prop
def dsCallOf (P : dsPT) : Nat → List dsV → dsMem → dsQT → Prop := fun t as M Q => P t 0 (dsIn t as) [] (0, 0) M Q
/-- what the cells always keep: numbers fit their rows -/
def dsGr (M : dsMem) : Prop := ∀ a i : Int, 0 ≤ i → i < M a (-2) → (M a (-1) = 100 → -2147483648 ≤ M a i ∧ M a i < 2147483648) ∧ (M a (-1) = 101 → -128 ≤ M a i ∧ M a i ≤ 127) ∧ (M a (-1) = 103 → -9223372036854775808 ≤ M a i ∧ M a i < 9223372036854775808)
def dsClo (P : dsPT) : Prop :=
  (∀ m pc ls st u M (Q Q' : dsQT), (∀ r M', Q r M' → Q' r M') → P m pc ls st u M Q → P m pc ls st u M Q') ∧
  (∀ m pc ls st u M (Q : dsQT) ins len, decode (dsCd m) pc = .ok (ins, len) → (dsTs ins = true ∨ len = dsLn ins) →
    dsI m pc ins ls st u M (dsCallOf P) (fun pc' ls' st' u' M' => P m pc' ls' st' u' M' Q) Q → P m pc ls st u M Q) ∧
  ∀ m pc ls st u M (Q : dsQT), (dsGr M → P m pc ls st u M Q) → P m pc ls st u M Q
def dsA (m pc : Nat) (ls st : List dsV) (u : Nat × Nat) (M : dsMem) (Q : dsQT) : Prop := ∀ P : dsPT, dsClo P → P m pc ls st u M Q
theorem dsTg_mono {pc : Nat} {off : Int} {K K' : Nat → Prop} (h : ∀ t, K t → K' t) (hh : dsTg pc off K) : dsTg pc off K' := by
  unfold dsTg at *
  split at hh
  · rw [if_pos ‹_›]; exact h _ hh
  · exact hh.elim
theorem dsPv_mono {t : FieldType} {v : dsV} {K K' : Int → Prop} (h : ∀ x, K x → K' x) (hh : dsPv t v K) : dsPv t v K' := by
  unfold dsPv at *
  split at hh <;> first | exact hh.elim | (split at hh <;> first | exact hh.elim | exact h _ hh | exact ⟨hh.1, h _ hh.2⟩)
theorem dsCa_mono {m pc : Nat} {ls rest : List dsV} {u : Nat × Nat} {M : dsMem} {call call' : Nat → List dsV → dsMem → dsQT → Prop} {K K' : dsKT1} {t : Nat} {as : List dsV}
    (hc : ∀ t as M (Q Q' : dsQT), (∀ r M', Q r M' → Q' r M') → call t as M Q → call' t as M Q') (hk : ∀ a b c d e, K a b c d e → K' a b c d e) (hh : dsCa m pc ls rest u M call K t as) : dsCa m pc ls rest u M call' K' t as := by
  unfold dsCa at *
  split at hh
  · rw [if_pos ‹_›]; exact ⟨hh.1, hc _ _ _ _ _ (fun r M' h => hk _ _ _ _ _ h) hh.2⟩
  · exact hh.elim
set_option maxHeartbeats 4000000 in
theorem dsI_mono {m pc : Nat} {ins : Instr} {ls st : List dsV} {u : Nat × Nat} {M : dsMem} {call call' : Nat → List dsV → dsMem → dsQT → Prop} {K K' : dsKT1} {Q Q' : dsQT}
    (hc : ∀ t as M (Q Q' : dsQT), (∀ r M', Q r M' → Q' r M') → call t as M Q → call' t as M Q') (hk : ∀ a b c d e, K a b c d e → K' a b c d e) (hq : ∀ r M', Q r M' → Q' r M') (hh : dsI m pc ins ls st u M call K Q) : dsI m pc ins ls st u M call' K' Q' := by
  have ht : ∀ (off : Int) (r : List dsV), dsTg pc off (fun t => K t ls r u M) → dsTg pc off (fun t => K' t ls r u M) := fun off r h => dsTg_mono (fun _ h => hk _ _ _ _ _ h) h
  cases ins with
  | goto off => exact ht _ _ hh
  | tableswitch d lo hi offs =>
    simp only [dsI] at hh ⊢
    split at hh
    · refine ⟨fun h => ht _ _ (hh.1 h), fun h => ?_⟩
      have h2 := hh.2 h
      split at h2
      · exact ht _ _ h2
      · exact h2.elim
    · exact hh.elim
  | ifCond c off =>
    simp only [dsI] at hh ⊢
    split at hh
    · exact dsTg_mono (fun t h => ⟨fun q => hk _ _ _ _ _ (h.1 q), fun q => hk _ _ _ _ _ (h.2 q)⟩) hh
    · exact hh.elim
  | if_icmp c off =>
    simp only [dsI] at hh ⊢
    split at hh
    · exact dsTg_mono (fun t h => ⟨fun q => hk _ _ _ _ _ (h.1 q), fun q => hk _ _ _ _ _ (h.2 q)⟩) hh
    · exact hh.elim
  | ifnull off =>
    simp only [dsI] at hh ⊢
    split at hh
    · exact ⟨fun h => ht _ _ (hh.1 h), fun h => hk _ _ _ _ _ (hh.2 h)⟩
    · exact hh.elim
  | ifnonnull off =>
    simp only [dsI] at hh ⊢
    split at hh
    · exact ⟨fun h => ht _ _ (hh.1 h), fun h => hk _ _ _ _ _ (hh.2 h)⟩
    · exact hh.elim
  | putfield i =>
    simp only [dsI] at hh ⊢
    split at hh
    · split at hh
      · split at hh
        · rw [if_pos ‹_›]; exact ⟨hh.1, dsPv_mono (fun _ h => hk _ _ _ _ _ h) hh.2⟩
        · exact hh.elim
      · exact hh.elim
    · exact hh.elim
  | newarray t =>
    simp only [dsI] at hh ⊢
    split at hh
    · split at hh
      · exact hh.elim
      · rw [if_neg ‹_›]; exact ⟨hh.1, hk _ _ _ _ _ hh.2⟩
    · exact hh.elim
  | anewarray i =>
    simp only [dsI] at hh ⊢
    split at hh
    · split at hh
      · split at hh
        · rw [if_pos ‹_›]; exact ⟨hh.1, hk _ _ _ _ _ hh.2⟩
        · rw [if_neg ‹_›]
          split at hh
          · rw [if_pos ‹_›]; exact ⟨hh.1, hk _ _ _ _ _ hh.2⟩
          · exact hh.elim
      · exact hh.elim
    · exact hh.elim
  | ldc i =>
    simp only [dsI] at hh ⊢
    split at hh
    · exact hk _ _ _ _ _ hh
    · split at hh
      · exact hk _ _ _ _ _ hh
      · exact hh.elim
  | invokevirtual i =>
    simp only [dsI] at hh ⊢
    split at hh
    · split at hh
      · exact ⟨hh.1, dsCa_mono hc hk hh.2⟩
      · exact hh.elim
    · split at hh
      · split at hh
        · rw [if_pos ‹_›]; exact ⟨hh.1, hk _ _ _ _ _ hh.2⟩
        · exact hh.elim
      · exact hh.elim
    · split at hh
      · split at hh
        · rw [if_pos ‹_›]; exact ⟨hh.1, hk _ _ _ _ _ hh.2⟩
        · exact hh.elim
      · exact hh.elim
    · exact hh.elim
  | invokestatic i =>
    simp only [dsI] at hh ⊢
    split at hh
    · split at hh
      · exact dsCa_mono hc hk hh
      · exact hh.elim
    · split at hh
      · exact dsCa_mono hc hk hh
      · exact hh.elim
    · split at hh
      · split at hh
        · rw [if_pos ‹_›]; exact hk _ _ _ _ _ hh
        · exact hh.elim
      · exact hh.elim
    · split at hh
      · split at hh
        · rw [if_pos ‹_›]; exact hk _ _ _ _ _ hh
        · exact hh.elim
      · exact hh.elim
    · split at hh
      · split at hh
        · rw [if_pos ‹_›]; exact hk _ _ _ _ _ hh
        · exact hh.elim
      · exact hh.elim
    · split at hh
      · split at hh
        · rw [if_pos ‹_›]; exact ⟨hh.1, hk _ _ _ _ _ hh.2⟩
        · exact hh.elim
      · exact hh.elim
    · exact hh.elim
  | invokespecial i =>
    simp only [dsI] at hh ⊢
    split at hh
    · split at hh
      · exact ⟨hh.1, dsCa_mono hc hk hh.2⟩
      · exact hh.elim
    · split at hh
      · exact ⟨hh.1, dsCa_mono hc hk hh.2⟩
      · exact hh.elim
    · split at hh
      · split at hh
        · rw [if_pos ‹_›]; exact ⟨hh.1, hk _ _ _ _ _ hh.2⟩
        · exact hh.elim
      · exact hh.elim
    · exact hh.elim
  | _ =>
    (simp only [dsI] at hh ⊢) <;> first | exact hh.elim | exact hk _ _ _ _ _ hh | (split at hh <;> first | exact hh.elim | exact hk _ _ _ _ _ hh | (rw [if_pos ‹_›]; exact hk _ _ _ _ _ hh) | exact hq _ _ hh | exact ⟨hh.1, hk _ _ _ _ _ hh.2⟩ | (split at hh <;> first | exact hh.elim | exact hq _ _ hh | exact ⟨hh.1, hq _ _ hh.2⟩ | exact ⟨hh.1, hk _ _ _ _ _ hh.2⟩ | (rw [if_pos ‹_›]; exact hk _ _ _ _ _ hh)))
theorem dsA_mono {m pc : Nat} {ls st : List dsV} {u : Nat × Nat} {M : dsMem} {Q Q' : dsQT} (hq : ∀ r M', Q r M' → Q' r M') (h : dsA m pc ls st u M Q) : dsA m pc ls st u M Q' :=
  fun P hP => hP.1 _ _ _ _ _ _ _ _ hq (h P hP)
theorem dsA_clo : dsClo dsA := by
  refine ⟨fun m pc ls st u M Q Q' hq h => dsA_mono hq h, fun m pc ls st u M Q ins len hd hl h P hP => ?_, fun m pc ls st u M Q h P hP => hP.2.2 _ _ _ _ _ _ _ (fun g => h g P hP)⟩
  exact hP.2.1 _ _ _ _ _ _ _ _ _ hd hl (dsI_mono (fun t as M Q Q' hq h => hP.1 _ _ _ _ _ _ _ _ hq (h P hP)) (fun a b c d e h => h P hP) (fun _ _ h => h) h)
/-- one step -/
theorem dsA_st {m pc : Nat} {ins : Instr} {len : Nat} {ls st : List dsV} {u : Nat × Nat} {M : dsMem} {Q : dsQT} (hd : decode (dsCd m) pc = .ok (ins, len)) (hl : dsTs ins = true ∨ len = dsLn ins)
    (h : dsI m pc ins ls st u M (dsCallOf dsA) (fun pc' ls' st' u' M' => dsA m pc' ls' st' u' M' Q) Q) : dsA m pc ls st u M Q := dsA_clo.2.1 _ _ _ _ _ _ _ _ _ hd hl h
/-- what the cells keep may be used -/
theorem dsA_gr {m pc : Nat} {ls st : List dsV} {u : Nat × Nat} {M : dsMem} {Q : dsQT} (h : dsGr M → dsA m pc ls st u M Q) : dsA m pc ls st u M Q := dsA_clo.2.2 _ _ _ _ _ _ _ h
