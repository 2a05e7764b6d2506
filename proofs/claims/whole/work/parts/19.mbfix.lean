/-! machine B's least closed predicate -/
theorem bNn_mono {t : Nat} {a : Int} {K K' : Prop} (h : K → K') (hh : bNn t a K) : bNn t a K' := by
  unfold bNn at *
  split at hh
  · rw [if_pos ‹_›]; exact ⟨hh.1, h hh.2⟩
  · rw [if_neg ‹_›]; exact h hh
theorem bPv_mono {t : FieldType} {v : dsU} {K K' : Int → Prop} (h : ∀ x, K x → K' x) (hh : bPv t v K) : bPv t v K' := by
  unfold bPv at *
  split at hh <;> first | exact hh.elim | (split at hh <;> first | exact hh.elim | exact h _ hh | exact ⟨hh.1, h _ hh.2⟩)
theorem bMk_mono {t : FieldType} {x : Int} {K K' : dsU → Prop} (h : ∀ x, K x → K' x) (hh : bMk t x K) : bMk t x K' := by
  unfold bMk at *
  split at hh <;> first | exact hh.elim | exact h _ hh
theorem bCa_mono {m pc : Nat} {ls rest : List dsU} {M : dsMem} {call call' : Nat → List dsU → dsMem → bQT → Prop} {K K' : bKT} {t : Nat} {as : List dsU}
    (hc : ∀ t as M (Q Q' : bQT), (∀ r M', Q r M' → Q' r M') → call t as M Q → call' t as M Q') (hk : ∀ a b c e, K a b c e → K' a b c e) (hh : bCa m pc ls rest M call K t as) : bCa m pc ls rest M call' K' t as := by
  unfold bCa at *
  split at hh
  · rw [if_pos ‹_›]; exact hc _ _ _ _ _ (fun r M' h => hk _ _ _ _ h) hh
  · exact hh.elim
set_option maxHeartbeats 4000000 in
theorem bI_mono {m pc : Nat} {ins : Instr} {ls st : List dsU} {M : dsMem} {call call' : Nat → List dsU → dsMem → bQT → Prop} {K K' : bKT} {Q Q' : bQT}
    (hc : ∀ t as M (Q Q' : bQT), (∀ r M', Q r M' → Q' r M') → call t as M Q → call' t as M Q') (hk : ∀ a b c e, K a b c e → K' a b c e) (hq : ∀ r M', Q r M' → Q' r M') (hh : bI m pc ins ls st M call K Q) : bI m pc ins ls st M call' K' Q' := by
  have ht : ∀ (off : Int) (r : List dsU), dsTg pc off (fun t => K t ls r M) → dsTg pc off (fun t => K' t ls r M) := fun off r h => dsTg_mono (fun _ h => hk _ _ _ _ h) h
  cases ins with
  | goto off => exact ht _ _ hh
  | tableswitch d lo hi offs =>
    simp only [bI] at hh ⊢
    split at hh
    · refine ⟨fun h => ht _ _ (hh.1 h), fun h => ?_⟩
      have h2 := hh.2 h
      split at h2
      · exact ht _ _ h2
      · exact h2.elim
    · exact hh.elim
  | ifCond c off =>
    simp only [bI] at hh ⊢
    split at hh
    · exact dsTg_mono (fun t h => ⟨fun q => hk _ _ _ _ (h.1 q), fun q => hk _ _ _ _ (h.2 q)⟩) hh
    · exact hh.elim
  | if_icmp c off =>
    simp only [bI] at hh ⊢
    split at hh
    · exact dsTg_mono (fun t h => ⟨fun q => hk _ _ _ _ (h.1 q), fun q => hk _ _ _ _ (h.2 q)⟩) hh
    · exact hh.elim
  | ifnull off =>
    simp only [bI] at hh ⊢
    split at hh
    · exact dsTg_mono (fun t h => ⟨fun q => hk _ _ _ _ (h.1 q), fun q => hk _ _ _ _ (h.2 q)⟩) hh
    · exact hh.elim
  | ifnonnull off =>
    simp only [bI] at hh ⊢
    split at hh
    · exact dsTg_mono (fun t h => ⟨fun q => hk _ _ _ _ (h.1 q), fun q => hk _ _ _ _ (h.2 q)⟩) hh
    · exact hh.elim
  | getfield i =>
    simp only [bI] at hh ⊢
    split at hh
    · split at hh
      · split at hh
        · rw [if_pos ‹_›]
          refine bNn_mono (fun h => ?_) hh
          split at h
          · exact hk _ _ _ _ h
          · exact bMk_mono (fun _ h => hk _ _ _ _ h) h
        · exact hh.elim
      · exact hh.elim
    · exact hh.elim
  | putfield i =>
    simp only [bI] at hh ⊢
    split at hh
    · split at hh
      · split at hh
        · rw [if_pos ‹_›]; exact bNn_mono (bPv_mono (fun _ h => hk _ _ _ _ h)) hh
        · exact hh.elim
      · exact hh.elim
    · exact hh.elim
  | aaload =>
    simp only [bI] at hh ⊢
    split at hh
    · split at hh
      · rw [if_pos ‹_›]; exact ⟨hh.1, hk _ _ _ _ hh.2⟩
      · rw [if_neg ‹_›]
        split at hh
        · rw [if_pos ‹_›]; exact ⟨hh.1, hk _ _ _ _ hh.2⟩
        · exact hh.elim
    · exact hh.elim
  | bastore =>
    simp only [bI] at hh ⊢
    split at hh
    · split at hh
      · rw [if_pos ‹_›]; exact ⟨hh.1, hk _ _ _ _ hh.2⟩
      · rw [if_neg ‹_›]
        split at hh
        · rw [if_pos ‹_›]; exact ⟨hh.1, hk _ _ _ _ hh.2⟩
        · exact hh.elim
    · exact hh.elim
  | ldc i =>
    simp only [bI] at hh ⊢
    split at hh
    · exact hk _ _ _ _ hh
    · split at hh
      · exact hk _ _ _ _ hh
      · exact hh.elim
  | invokevirtual i =>
    simp only [bI] at hh ⊢
    split at hh
    · split at hh
      · split at hh
        · rw [if_pos ‹_›]; exact bNn_mono (bCa_mono hc hk) hh
        · exact hh.elim
      · exact hh.elim
    · split at hh
      · split at hh
        · rw [if_pos ‹_›]; exact ⟨hh.1, hk _ _ _ _ hh.2⟩
        · exact hh.elim
      · exact hh.elim
    · split at hh
      · split at hh
        · rw [if_pos ‹_›]; exact ⟨hh.1, hk _ _ _ _ hh.2⟩
        · exact hh.elim
      · exact hh.elim
    · exact hh.elim
  | invokestatic i =>
    simp only [bI] at hh ⊢
    split at hh
    · split at hh
      · exact bCa_mono hc hk hh
      · exact hh.elim
    · split at hh
      · exact bCa_mono hc hk hh
      · exact hh.elim
    · split at hh
      · split at hh
        · rw [if_pos ‹_›]; exact hk _ _ _ _ hh
        · exact hh.elim
      · exact hh.elim
    · split at hh
      · split at hh
        · rw [if_pos ‹_›]; exact hk _ _ _ _ hh
        · exact hh.elim
      · exact hh.elim
    · split at hh
      · split at hh
        · rw [if_pos ‹_›]; exact hk _ _ _ _ hh
        · exact hh.elim
      · exact hh.elim
    · split at hh
      · split at hh
        · rw [if_pos ‹_›]; exact ⟨hh.1, hk _ _ _ _ hh.2⟩
        · exact hh.elim
      · exact hh.elim
    · exact hh.elim
  | _ =>
    (simp only [bI] at hh ⊢) <;> first | exact hh.elim | exact hk _ _ _ _ hh | (split at hh <;> first | exact hh.elim | exact hk _ _ _ _ hh | (rw [if_pos ‹_›]; exact hk _ _ _ _ hh) | exact hq _ _ hh | exact ⟨hh.1, hk _ _ _ _ hh.2⟩ | (split at hh <;> first | exact hh.elim | exact hq _ _ hh | exact ⟨hh.1, hq _ _ hh.2⟩ | exact ⟨hh.1, hk _ _ _ _ hh.2⟩ | (rw [if_pos ‹_›]; exact ⟨hh.1, hk _ _ _ _ hh.2⟩) | (rw [if_pos ‹_›]; exact hk _ _ _ _ hh)))
theorem bB_mono {m pc : Nat} {ls st : List dsU} {M : dsMem} {Q Q' : bQT} (hq : ∀ r M', Q r M' → Q' r M') (h : bB m pc ls st M Q) : bB m pc ls st M Q' :=
  fun P hP => hP.1 _ _ _ _ _ _ _ hq (h P hP)
theorem bB_le {m pc : Nat} {ls st : List dsU} (ls' : List dsU) {M : dsMem} {Q : bQT} (hl : bLe ls' ls) (h : bB m pc ls' st M Q) : bB m pc ls st M Q :=
  fun P hP => hP.2.1 _ _ _ _ _ _ _ hl (h P hP)
theorem bB_step {m pc : Nat} {ls st : List dsU} {M : dsMem} {Q : bQT} {ins : Instr} {len : Nat} (hd : decode (dsCd m) pc = .ok (ins, len)) (hl : dsTs ins = true ∨ len = dsLn ins)
    (h : bI m pc ins ls st M (bCallOf bB) (fun pc' ls' st' M' => bB m pc' ls' st' M' Q) Q) : bB m pc ls st M Q := by
  intro P hP
  exact hP.2.2.1 _ _ _ _ _ _ _ _ hd hl (bI_mono (fun t as M Q Q' hq h => hP.1 _ _ _ _ _ _ _ hq (h P hP)) (fun a b c e h => h P hP) (fun _ _ h => h) h)
/-- the layout, and what the cells keep, may be used -/
theorem bB_gr {m pc : Nat} {ls st : List dsU} {M : dsMem} {Q : bQT} (h : ∀ G : Int → Nat, Lay G M → dsGr M → (∀ i, Vd G (bg ls i)) → bB m pc ls st M Q) : bB m pc ls st M Q :=
  fun P hP => hP.2.2.2 _ _ _ _ _ _ (fun G h1 h2 h3 => h G h1 h2 h3 P hP)
