/-! the other side's drinking -/
theorem ds_b01 (x : Int) : dsAnd x 1 = 0 ∨ dsAnd x 1 = 1 := by
  unfold dsAnd
  have h : ((Int32.ofInt x &&& Int32.ofInt 1).toBitVec).toNat = (Int32.ofInt x).toBitVec.toNat % 2 := by
    rw [Int32.toBitVec_and, BitVec.toNat_and]
    exact Nat.and_one_is_mod _
  rcases Nat.mod_two_eq_zero_or_one (Int32.ofInt x).toBitVec.toNat with e | e
  · left
    have : (Int32.ofInt x &&& Int32.ofInt 1) = 0 := Int32.toBitVec_inj.1 (BitVec.eq_of_toNat_eq (by rw [h, e]; rfl))
    rw [this]; rfl
  · right
    have : (Int32.ofInt x &&& Int32.ofInt 1) = 1 := Int32.toBitVec_inj.1 (BitVec.eq_of_toNat_eq (by rw [h, e]; rfl))
    rw [this]; rfl
theorem dsUpd_upd {α : Type} (f : Int → α) (i : Int) (v w : α) : dsUpd (dsUpd f i v) i w = dsUpd f i w := by
  funext j
  unfold dsUpd
  split <;> rfl
def RF (M : dsMem) (y : Int) (P : dsP) (S : dsS) : Prop :=
  (∀ s, 0 ≤ s → s < pN P → RC M s (sL S s)) ∧ (∀ w, 0 ≤ w → w < 3 → M 97 w = sK S w) ∧ M 84 33 = sU S ∧ M 101 y = dsw (sX S) ∧ M 100 y = dsw (sH S) ∧
  (∀ s, 0 ≤ s → s < pN P → (∀ k, 1 ≤ k → k ≤ 5 → M 99 (6 * s + k) = dsw (sB S s k)) ∧ M 98 s = dsw (sD S s)) ∧ M 84 34 = y
def RW (M : dsMem) (P : dsP) : Prop :=
  (M 85 4 = pN P ∧ M 85 3 = pW P ∧ M 85 0 = pY P ∧ M 84 17 = pL P) ∧
  (∀ s, 0 ≤ s → s < pN P → (if dsAnd (dsShr (M 84 21) s) 1 = 1 then 0 else M 91 s) = pRoom P s ∧ M 85 (15 + 3 * s + 1) = pWide P s ∧ M 85 (15 + 3 * s + 2) = pOn P s ∧ (¬ dsAnd (dsShr (M 84 20) s) 1 = 0 ↔ pAl P s = true) ∧ 0 ≤ M 91 s ∧ M 91 s ≤ 60) ∧
  (∀ w, 0 ≤ w → w < pW P → M 85 (9 + 2 * w + 1) = pGives P w ∧ M 92 w = pBears P w)
/-- what a year may change -/
def DR (y : Int) : Int → Int → Prop := fun a j => (93 ≤ a ∧ a ≤ 99) ∨ ((a = 100 ∨ a = 101) ∧ j = y) ∨ (a = 84 ∧ j = 33)
theorem RW_fr {M M' : dsMem} {y : Int} {P : dsP} (h : RW M P) (hf : Fr (DR y) M M') : RW M' P := by
  obtain ⟨⟨a1, a2, a3, a4⟩, b, c⟩ := h
  have e : ∀ a j, (84 ≤ a ∧ a ≤ 92 ∧ ¬ (a = 84 ∧ j = 33)) → M' a j = M a j := fun a j h => hf a j (by unfold DR; omega)
  refine ⟨⟨?_, ?_, ?_, ?_⟩, ?_, ?_⟩
  · rw [e _ _ (by omega)]; exact a1
  · rw [e _ _ (by omega)]; exact a2
  · rw [e _ _ (by omega)]; exact a3
  · rw [e _ _ (by omega)]; exact a4
  · intro s s0 s1
    rw [e 84 21 (by omega), e 91 _ (by omega), e 85 _ (by omega), e 85 _ (by omega), e 84 20 (by omega)]; exact b s s0 s1
  · intro w w0 w1
    rw [e 85 _ (by omega), e 92 _ (by omega)]; exact c w w0 w1
theorem loses_ct {M : dsMem} {y n : Int} {P : dsP} {S : dsS} (hy : 0 ≤ y ∧ y < 12) (h : RF M y P S) :
    bCt 225 [uR 11 84, uI n] M (fun _ => []) (fun M' => RF M' y P (dsLose S n) ∧ Fr (fun a j => a = 101 ∧ j = y) M M') := by
  intro Q hQ
  obtain ⟨a, b, c, d, e, f, g⟩ := h
  refine r225_0 (k1 := ?_) (s1 := by rw [g]; exact hy)
  rw [g]
  refine hQ _ ⟨⟨?_, ?_, ?_, ?_, ?_, ?_, ?_⟩, Fr_set Fr_refl ⟨rfl, rfl⟩⟩
  · intro s s0 s1
    exact RC_ne (a s s0 s1) (fun a j q => ds_get_ne (by omega))
  · intro w w0 w1
    rw [ds_get_ne (by omega)]; exact b w w0 w1
  · rw [ds_get_ne (by omega)]; exact c
  · rw [ds_get_eq, d, dyw_add]; rfl
  · rw [ds_get_ne (by omega)]; exact e
  · intro s s0 s1
    refine ⟨?_, ?_⟩
    · intro k k0 k1
      rw [ds_get_ne (by omega)]; exact (f s s0 s1).1 k k0 k1
    · rw [ds_get_ne (by omega)]; exact (f s s0 s1).2
  · rw [ds_get_ne (by omega)]; exact g
/-- one stone changed -/
theorem RF_upd {M M' : dsMem} {y s : Int} {P : dsP} {S : dsS} {l' : dsL} {d' : Int} {b' : Int → Int} (hP : POK P) (h : RF M y P S) (hS : WS P S) (hs : 0 ≤ s ∧ s < pN P)
    (hf : Fr (fun a j => GD s 1 a j ∨ (a = 98 ∧ j = s)) M M') (hC : RC M' s l') (hB : ∀ k, 1 ≤ k → k ≤ 5 → M' 99 (6 * s + k) = dsw (b' k)) (hD : M' 98 s = dsw d') :
    RF M' y P (mS (dsUpd (sL S) s l') (sK S) (sU S) (sX S) (sH S) (dsUpd (sB S) s b') (sA S) (sF S) (dsUpd (sD S) s d')) := by
  obtain ⟨a, b, c, d, e, f, g⟩ := h
  have hN := hP.1
  refine ⟨?_, ?_, ?_, ?_, ?_, ?_, ?_⟩
  · intro t t0 t1
    show RC M' t (dsUpd (sL S) s l' t)
    by_cases ht : t = s
    · subst ht; rw [dsUpd_eq]; exact hC
    · rw [dsUpd_ne ht]
      refine RC_fr (a t t0 t1) (WS_len hP hS t0 t1) (fun a j q => hf a j ?_)
      unfold GC at q; unfold GD GC; omega
  · intro w w0 w1
    rw [hf _ _ (by unfold GD GC; omega)]; exact b w w0 w1
  · rw [hf _ _ (by unfold GD GC; omega)]; exact c
  · rw [hf _ _ (by unfold GD GC; omega)]; exact d
  · rw [hf _ _ (by unfold GD GC; omega)]; exact e
  · intro t t0 t1
    show (∀ k, 1 ≤ k → k ≤ 5 → M' 99 (6 * t + k) = dsw (dsUpd (sB S) s b' t k)) ∧ M' 98 t = dsw (dsUpd (sD S) s d' t)
    by_cases ht : t = s
    · subst ht; rw [dsUpd_eq, dsUpd_eq]; exact ⟨hB, hD⟩
    · rw [dsUpd_ne ht, dsUpd_ne ht]
      refine ⟨?_, ?_⟩
      · intro k k0 k1
        rw [hf _ _ (by unfold GD GC; omega)]; exact (f t t0 t1).1 k k0 k1
      · rw [hf _ _ (by unfold GD GC; omega)]; exact (f t t0 t1).2
  · rw [hf _ _ (by unfold GD GC; omega)]; exact g
/-- what is put on a stone that has room -/
theorem puts_ct {M : dsMem} {y s k n : Int} {P : dsP} {S : dsS} (hP : POK P) (h : RF M y P S) (hS : WS P S) (hs : 0 ≤ s ∧ s < pN P) (hn : 1 ≤ n) (hb : dySum (sL S s) + n ≤ 60) :
    bCt 222 [uR 11 84, uI s, uI n, uI k, uX 0, uX 0] M (fun _ => []) (fun M' => RF M' y P (mS (dsUpd (sL S) s (dyLay (sL S s) k n)) (sK S) (sU S) (sX S) (sH S) (sB S) (sA S) (sF S) (dsUpd (sD S) s (sD S s + n))) ∧ Fr (DR y) M M') := by
  intro Q hQ
  have hN := hP.1
  refine putOn_ct (by omega) (h.1 s hs.1 hs.2) (hS s hs.1 hs.2).1 hn hb Q (fun M1 r1 => hQ M1 ⟨?_, ?_⟩)
  · have e := RF_upd (l' := dyLay (sL S s) k n) (d' := sD S s + n) (b' := sB S s) hP h hS hs (Fr_mono ?_ r1.2.2) r1.1 ?_ ?_
    · rw [dsUpd_self] at e; exact e
    · intro a j q; unfold GC at q; unfold GD GC; omega
    · intro k k0 k1
      rw [r1.2.2 _ _ (by unfold GC; omega)]; exact (h.2.2.2.2.2.1 s hs.1 hs.2).1 k k0 k1
    · rw [r1.2.1, (h.2.2.2.2.2.1 s hs.1 hs.2).2, dyw_add]
  · refine Fr_mono ?_ r1.2.2
    intro a j q; unfold GC at q; unfold DR; omega
/-- what is let out of a stone, unheard -/
theorem lets_ct {M : dsMem} {y s n : Int} {P : dsP} {S : dsS} (hP : POK P) (h : RF M y P S) (hS : WS P S) (hs : 0 ≤ s ∧ s < pN P) (hn : 0 ≤ n) :
    bCt 223 [uR 11 84, uI s, uI n, uI 0, uX 0, uX 0, uX 0, uX 0, uX 0] M (fun _ => [uI (dyAm (sL S s) n)]) (fun M' => RF M' y P (mS (dsUpd (sL S) s (dyDr (sL S s) n)) (sK S) (sU S) (sX S) (sH S) (sB S) (sA S) (sF S) (sD S)) ∧ Fr (DR y) M M') := by
  intro Q hQ
  have hN := hP.1
  have hw := hS s hs.1 hs.2
  have hst := hP.2.1 s hs.1 hs.2
  refine letOut_ct (by omega) (Or.inl rfl) (h.1 s hs.1 hs.2) hw.1 (by omega) hn (fun k k0 k1 => ?_) Q (fun M1 r1 => hQ M1 ⟨?_, ?_⟩)
  · rw [(h.2.2.2.2.2.1 s hs.1 hs.2).1 k k0 k1]; exact dsw_dsw _
  · have e := RF_upd (l' := dyDr (sL S s) n) (d' := sD S s) (b' := sB S s) hP h hS hs (Fr_mono ?_ r1.2.2) r1.1 ?_ ?_
    · rw [dsUpd_self, dsUpd_self] at e; exact e
    · intro a j q; unfold GD GC at q; unfold GD GC; omega
    · intro k k0 k1
      rw [r1.2.2 _ _ (by unfold GD GC; omega)]; exact (h.2.2.2.2.2.1 s hs.1 hs.2).1 k k0 k1
    · rw [r1.2.2 _ _ (by unfold GD GC; omega)]; exact (h.2.2.2.2.2.1 s hs.1 hs.2).2
  · refine Fr_mono ?_ r1.2.2
    intro a j q; unfold GD GC at q; unfold DR; omega
theorem DR_l {M M' : dsMem} {y : Int} (h : Fr (fun a j => a = 101 ∧ j = y) M M') : Fr (DR y) M M' := by
  refine Fr_mono ?_ h
  intro a j q; unfold DR; omega
theorem press_ct {M : dsMem} {y s k n : Int} {P : dsP} {S : dsS} (hP : POK P) (hy : 0 ≤ y ∧ y < 12) (hW : RW M P) (h : RF M y P S) (hS : WS P S) (hs : 0 ≤ s ∧ s < pN P) (hk : 1 ≤ k ∧ k ≤ 5) (hn : 1 ≤ n ∧ n ≤ 80) (hl : pL P = 3) (hb : ¬ dsAnd (dsShr (M 84 21) s) 1 = 1) :
    bCt 226 [uR 11 84, uI s, uI n, uI k, uX 0] M (fun _ => []) (fun M' => RF M' y P (dsLose (dsPour P S s k n).1 (dsPour P S s k n).2) ∧ Fr (DR y) M M') := by
  intro Q hQ
  have hN := hP.1
  have hw := hS s hs.1 hs.2
  have hst := hP.2.1 s hs.1 hs.2
  have hnn := dySum_nn hw.1
  have er := (hW.2.1 s hs.1 hs.2).1
  rw [if_neg hb] at er
  have eg : (if M 91 s < n then M 91 s else n) = dsGoes P (sL S s) s n := by
    rw [er]; unfold dsGoes dsMost; rw [if_pos hl]; (repeat' split) <;> omega
  have hg : 0 ≤ dsGoes P (sL S s) s n ∧ dsGoes P (sL S s) s n ≤ pRoom P s ∧ dsGoes P (sL S s) s n ≤ n := by
    unfold dsGoes dsMost; rw [if_pos hl]; (repeat' split) <;> omega
  -- after what is lost at once
  have c1 := loses_ct (n := n - dsGoes P (sL S s) s n) hy h
  have e96 : ∀ M1, (RF M1 y P (dsLose S (n - dsGoes P (sL S s) s n)) ∧ Fr (fun a j => a = 101 ∧ j = y) M M1) → (if 0 < M1 96 s + dsGoes P (sL S s) s n - M1 91 s then M1 96 s + dsGoes P (sL S s) s n - M1 91 s else 0) = (if 0 < dsOver P (sL S s) s n then dsOver P (sL S s) s n else 0) := by
    intro M1 r1
    rw [(r1.1.1 s hs.1 hs.2).2.1, r1.2 91 s (by omega), er]; rfl
  have hS1 : WS P (dsLose S (n - dsGoes P (sL S s) s n)) := hS
  have ov : dsOver P (sL S s) s n ≤ dySum (sL S s) := by unfold dsOver; omega
  have edr : dyDr (sL S s) (if 0 < dsOver P (sL S s) s n then dsOver P (sL S s) s n else 0) = dyDr (sL S s) (dsOver P (sL S s) s n) := by
    split
    · rfl
    · rw [dyDr_0 (by omega), dyDr_0 (by omega)]
  have eam : dyAm (sL S s) (if 0 < dsOver P (sL S s) s n then dsOver P (sL S s) s n else 0) = (if 0 < dsOver P (sL S s) s n then dsOver P (sL S s) s n else 0) := by
    unfold dyAm; (repeat' split) <;> omega
  have c2 : ∀ M1, (RF M1 y P (dsLose S (n - dsGoes P (sL S s) s n)) ∧ Fr (fun a j => a = 101 ∧ j = y) M M1) → bCt 223 [uR 11 84, uI s, uI (if 0 < dsOver P (sL S s) s n then dsOver P (sL S s) s n else 0), uI 0, uX 0, uX 0, uX 0, uX 0, uX 0] M1 (fun _ => [uI (if 0 < dsOver P (sL S s) s n then dsOver P (sL S s) s n else 0)])
      (fun M' => RF M' y P (mS (dsUpd (sL S) s (dyDr (sL S s) (dsOver P (sL S s) s n))) (sK S) (sU S) (sX S + (n - dsGoes P (sL S s) s n)) (sH S) (sB S) (sA S) (sF S) (sD S)) ∧ Fr (DR y) M1 M') := by
    intro M1 r1
    have c := lets_ct (n := if 0 < dsOver P (sL S s) s n then dsOver P (sL S s) s n else 0) hP r1.1 hS1 hs (by split <;> omega)
    have e1 : dyAm (sL (dsLose S (n - dsGoes P (sL S s) s n)) s) (if 0 < dsOver P (sL S s) s n then dsOver P (sL S s) s n else 0) = (if 0 < dsOver P (sL S s) s n then dsOver P (sL S s) s n else 0) := eam
    have e2 : dyDr (sL (dsLose S (n - dsGoes P (sL S s) s n)) s) (if 0 < dsOver P (sL S s) s n then dsOver P (sL S s) s n else 0) = dyDr (sL S s) (dsOver P (sL S s) s n) := edr
    rw [e1, e2] at c
    exact c
  have fin : ∀ M1, (RF M1 y P (dsLose S (n - dsGoes P (sL S s) s n)) ∧ Fr (fun a j => a = 101 ∧ j = y) M M1) → ∀ M2, (RF M2 y P (mS (dsUpd (sL S) s (dyDr (sL S s) (dsOver P (sL S s) s n))) (sK S) (sU S) (sX S + (n - dsGoes P (sL S s) s n)) (sH S) (sB S) (sA S) (sF S) (sD S)) ∧ Fr (DR y) M1 M2) →
      ∀ M3, (RF M3 y P (dsLose (mS (dsUpd (sL S) s (dyDr (sL S s) (dsOver P (sL S s) s n))) (sK S) (sU S) (sX S + (n - dsGoes P (sL S s) s n)) (sH S) (sB S) (sA S) (sF S) (sD S)) (if 0 < dsOver P (sL S s) s n then dsOver P (sL S s) s n else 0)) ∧ Fr (fun a j => a = 101 ∧ j = y) M2 M3) →
      bCt 222 [uR 11 84, uI s, uI (dsGoes P (sL S s) s n), uI k, uX 0, uX 0] M3 (fun _ => []) (fun M' => RF M' y P (dsLose (dsPour P S s k n).1 (dsPour P S s k n).2) ∧ Fr (DR y) M M') := by
    intro M1 r1 M2 r2 M3 r3
    have f3 : Fr (DR y) M M3 := Fr_trans (DR_l r1.2) (Fr_trans r2.2 (DR_l r3.2))
    by_cases hg0 : dsGoes P (sL S s) s n ≤ 0
    · have hz : dsGoes P (sL S s) s n = 0 := by omega
      have ep : dsPour P S s k n = (S, n) := by unfold dsPour; rw [if_pos hg0]
      have ho : dsOver P (sL S s) s n ≤ 0 := by unfold dsOver; omega
      rw [hz, ep]
      refine putOn_0 ⟨?_, f3⟩
      have r := r3.1
      rw [dyDr_0 ho, dsUpd_self, hz, if_neg (by omega)] at r
      have e : dsLose (mS (sL S) (sK S) (sU S) (sX S + (n - 0)) (sH S) (sB S) (sA S) (sF S) (sD S)) 0 = dsLose S n := by
        show mS _ _ _ (sX S + (n - 0) + 0) _ _ _ _ _ = mS _ _ _ (sX S + n) _ _ _ _ _
        rw [show sX S + (n - 0) + 0 = sX S + n by omega]
      rw [e] at r; exact r
    · have ep : dsPour P S s k n = (dsPourS P S s k n, n - dsGoes P (sL S s) s n) := by unfold dsPour; rw [if_neg hg0]
      rw [ep]
      have hS3 : WS P (dsLose (mS (dsUpd (sL S) s (dyDr (sL S s) (dsOver P (sL S s) s n))) (sK S) (sU S) (sX S + (n - dsGoes P (sL S s) s n)) (sH S) (sB S) (sA S) (sF S) (sD S)) (if 0 < dsOver P (sL S s) s n then dsOver P (sL S s) s n else 0)) := by
        intro t t0 t1
        show dyWl (dsUpd (sL S) s _ t) ∧ dySum (dsUpd (sL S) s _ t) ≤ _
        by_cases ht : t = s
        · subst ht; rw [dsUpd_eq, dyDr_sum hw.1]
          have := dyAm_nn (n := dsOver P (sL S t) t n) hw.1
          exact ⟨dyDr_wl hw.1, by omega⟩
        · rw [dsUpd_ne ht]; exact hS t t0 t1
      have el : sL (dsLose (mS (dsUpd (sL S) s (dyDr (sL S s) (dsOver P (sL S s) s n))) (sK S) (sU S) (sX S + (n - dsGoes P (sL S s) s n)) (sH S) (sB S) (sA S) (sF S) (sD S)) (if 0 < dsOver P (sL S s) s n then dsOver P (sL S s) s n else 0)) s = dyDr (sL S s) (dsOver P (sL S s) s n) := by
        show dsUpd (sL S) s _ s = _
        rw [dsUpd_eq]
      have hsum : dySum (dyDr (sL S s) (dsOver P (sL S s) s n)) + dsGoes P (sL S s) s n ≤ 60 := by
        rw [dyDr_sum hw.1]
        unfold dyAm dsOver
        (repeat' split) <;> omega
      have c := puts_ct (k := k) (n := dsGoes P (sL S s) s n) hP r3.1 hS3 hs (by omega) (by rw [el]; exact hsum)
      intro Q' hQ'
      refine c Q' (fun M4 r4 => hQ' M4 ⟨?_, Fr_trans f3 r4.2⟩)
      have r := r4.1
      rw [el] at r
      have eT : mS (dsUpd (dsUpd (sL S) s (dyDr (sL S s) (dsOver P (sL S s) s n))) s (dyLay (dyDr (sL S s) (dsOver P (sL S s) s n)) k (dsGoes P (sL S s) s n))) (sK S) (sU S) (sX S + (n - dsGoes P (sL S s) s n) + (if 0 < dsOver P (sL S s) s n then dsOver P (sL S s) s n else 0)) (sH S) (sB S) (sA S) (sF S) (dsUpd (sD S) s (sD S s + dsGoes P (sL S s) s n)) = dsLose (dsPourS P S s k n) (n - dsGoes P (sL S s) s n) := by
        rw [dsUpd_upd]
        show mS _ _ _ _ _ _ _ _ _ = mS _ _ _ (sX S + (if 0 < dsOver P (sL S s) s n then dsOver P (sL S s) s n else 0) + (n - dsGoes P (sL S s) s n)) _ _ _ _ _
        rw [show sX S + (n - dsGoes P (sL S s) s n) + (if 0 < dsOver P (sL S s) s n then dsOver P (sL S s) s n else 0) = sX S + (if 0 < dsOver P (sL S s) s n then dsOver P (sL S s) s n else 0) + (n - dsGoes P (sL S s) s n) by omega]
        rfl
      rw [← eT]
      exact r
  rw [← eg] at c1
  refine r226_0 (s1 := by omega) (hA1 := c1) (hA2 := fun M1 r1 => ?_) (R2 := fun M1 M' => RF M' y P (mS (dsUpd (sL S) s (dyDr (sL S s) (dsOver P (sL S s) s n))) (sK S) (sU S) (sX S + (n - dsGoes P (sL S s) s n)) (sH S) (sB S) (sA S) (sF S) (sD S)) ∧ Fr (DR y) M1 M') (g2 := fun _ _ => (if 0 < dsOver P (sL S s) s n then dsOver P (sL S s) s n else 0))
    (hA3 := fun M1 r1 M2 r2 => loses_ct hy r2.1) (hA4 := fun M1 r1 M2 r2 M3 r3 => ?_) (R4 := fun _ _ _ M' => RF M' y P (dsLose (dsPour P S s k n).1 (dsPour P S s k n).2) ∧ Fr (DR y) M M') (k1 := fun M1 r1 M2 r2 M3 r3 M4 r4 => hQ M4 r4) (s2 := by rw [eg]; omega) (s3 := fun M1 r1 => ?_)
  · rw [eg] at r1
    rw [eg, (r1.1.1 s hs.1 hs.2).2.1, r1.2 91 s (by omega), er]
    show -2147483648 ≤ dySum (sL S s) + dsGoes P (sL S s) s n - pRoom P s ∧ dySum (sL S s) + dsGoes P (sL S s) s n - pRoom P s < 2147483648
    omega
  · rw [eg] at r1
    rw [eg, e96 M1 r1]
    exact c2 M1 r1
  · rw [eg] at r1 ⊢
    exact fin M1 r1 M2 r2 M3 r3
