/-! the other side's year: rains, taps, walls -/
theorem dsIter_split {α : Type} {f : Int → α → α} {m n : Int} (hmn : m ≤ n) : ∀ i, i ≤ m → ∀ a, dsIter f i n a = dsIter f m n (dsIter f i m a) := by
  refine ds_ind m ?_ ?_
  · intro i h h1 a
    rw [show i = m by omega, dsIter_end (i := m) (n := m) (by omega)]
  · intro i h ih h1 a
    rw [dsIter_step (show i < n by omega), dsIter_step h]
    exact ih (by omega) _
theorem dsIter_sh {α : Type} {f g : Int → α → α} {c n : Int} (h : ∀ i a, 0 ≤ i → i < n → f (c + i) a = g i a) : ∀ i, 0 ≤ i → ∀ a, dsIter f (c + i) (c + n) a = dsIter g i n a := by
  refine ds_ind n ?_ ?_
  · intro i hi i0 a
    rw [dsIter_end hi, dsIter_end (by omega)]
  · intro i hi ih i0 a
    rw [dsIter_step (show c + i < c + n by omega), dsIter_step hi, h i a i0 hi, show c + i + 1 = c + (i + 1) by omega]
    exact ih (by omega) _
/-- a loop from another number on -/
theorem b_itF {m pc : Nat} {Q : bQT} (i0 n : Int) (ls : Int → List dsU) (f : Int → dsS → dsS) (C : dsMem → dsS → Prop) (S0 : dsS)
    (hs : ∀ i M S, i0 ≤ i → i < n → C M S → (∀ M', C M' (f i S) → bB m pc (ls (i + 1)) [] M' Q) → bB m pc (ls i) [] M Q)
    (he : ∀ i M, i0 ≤ i → ¬ i < n → C M (dsIter f i0 n S0) → bB m pc (ls i) [] M Q) (M0 : dsMem) (h : C M0 S0) : bB m pc (ls i0) [] M0 Q := by
  refine b_forM n ls (fun i M => i0 ≤ i ∧ ∃ S, C M S ∧ dsIter f i n S = dsIter f i0 n S0) ?_ ?_ i0 M0 ⟨by omega, S0, h, rfl⟩
  · rintro i M ⟨h0, S, hC, e⟩ hi ih
    exact hs i M S h0 hi hC (fun M' hC' => ih M' ⟨by omega, f i S, hC', by rw [← dsIter_step hi]; exact e⟩)
  · rintro i M ⟨h0, S, hC, e⟩ hi
    rw [dsIter_end hi] at e
    subst e
    exact he i M h0 hi hC
def REv (M : dsMem) (P : dsP) : Prop :=
  (0 ≤ M 85 5 ∧ M 85 5 ≤ 8 ∧ 0 ≤ M 85 6 ∧ M 85 6 ≤ 6 ∧ 0 ≤ M 85 7 ∧ M 85 7 ≤ 30) ∧ pRn P = M 85 5 + M 85 7 ∧ pTn P = M 85 6 + M 85 7 ∧
  (∀ y i, 0 ≤ i → i < M 85 5 → pRf P y i = if dsBit (M 84 18) i ∧ M 85 (33 + 3 * i + 2) = y then some (M 85 (33 + 3 * i + 1), M 85 (33 + 3 * i)) else none) ∧
  (∀ y i, 0 ≤ i → i < M 85 7 → pRf P y (M 85 5 + i) = if M 85 (75 + i) < 10000000 ∧ M 85 (75 + i) % 1000 = y then some (M 85 (75 + i) / 1000 % 100, M 85 (75 + i) / 100000) else none) ∧
  (∀ y i, 0 ≤ i → i < M 85 6 → pTf P y i = if dsBit (M 84 19) i ∧ M 85 (57 + 3 * i + 2) = y then some (M 85 (57 + 3 * i), M 85 (57 + 3 * i + 1)) else none) ∧
  (∀ y i, 0 ≤ i → i < M 85 7 → pTf P y (M 85 6 + i) = if 10000000 ≤ M 85 (75 + i) ∧ (M 85 (75 + i) - 10000000) % 1000 = y then some ((M 85 (75 + i) - 10000000) / 1000 % 100, (M 85 (75 + i) - 10000000) / 100000) else none) ∧
  (∀ i, 0 ≤ i → i < M 85 7 → 0 ≤ M 85 (75 + i) ∧ M 85 (75 + i) < 100000000) ∧
  (∀ y s, 0 ≤ y → 0 ≤ s → s < pN P → (pSv P y s = true ↔ y = M 84 23 ∧ dsBit (M 84 22) s))
theorem REv_fr {M M' : dsMem} {P : dsP} (h : REv M P) (e85 : ∀ j, M' 85 j = M 85 j) (e84 : ∀ j, 17 ≤ j → j ≤ 23 → M' 84 j = M 84 j) : REv M' P := by
  unfold REv at h ⊢
  simp only [e85, e84 18 (by omega) (by omega), e84 19 (by omega) (by omega), e84 22 (by omega) (by omega), e84 23 (by omega) (by omega)]
  exact h
def DR2 (y : Int) : Int → Int → Prop := fun a j => DR y a j ∨ (a = 84 ∧ j = 34)
def RS (M0 : dsMem) (y : Int) (P : dsP) (b : Int) (M : dsMem) (S : dsS) : Prop := RF M y P S ∧ WS P S ∧ KB S b ∧ RW M P ∧ REv M P ∧ Fr (DR2 y) M0 M
theorem RS_mk {M0 M M' : dsMem} {y b b' : Int} {P : dsP} {S S' : dsS} (h : RS M0 y P b M S) (h1 : RF M' y P S') (h2 : WS P S') (h3 : KB S' b') (h4 : Fr (DR y) M M') : RS M0 y P b' M' S' :=
  ⟨h1, h2, h3, RW_fr h.2.2.2.1 h4, REv_fr h.2.2.2.2.1 (fun j => h4 _ _ (by unfold DR; omega)) (fun j _ _ => h4 _ _ (by unfold DR; omega)), Fr_trans h.2.2.2.2.2 (Fr_mono (fun a j q => Or.inl q) h4)⟩
theorem rrain_ct {M0 M : dsMem} {y b k n : Int} {P : dsP} {S : dsS} (hP : POK P) (hy : 0 ≤ y ∧ y < 12) (hk : 1 ≤ k ∧ k ≤ 5) (hn : 1 ≤ n ∧ n ≤ 20) (h : RS M0 y P b M S) :
    bCt 228 [uR 11 84, uI n, uI k, uX 0] M (fun _ => []) (fun M' => RS M0 y P b M' (dsRain P k n S)) := by
  intro Q hQ
  have hN := hP.1
  refine r228_0 ?_
  refine b_itS (pN P) (fun s => [uR 11 84, uI n, uI k, uI s]) (fun s S => dsDrink P S s k (n * pWide P s)) (RS M0 y P b) S ?_ ?_ M h
  · intro s M1 S1 s0 s1 hc ih
    have ew := hc.2.2.2.1.2.1 s s0 s1
    have e4 := hc.2.2.2.1.1.1
    have hst := hP.2.1 s s0 s1
    have hnw := wide_le hn ⟨hst.2.2.1, hst.2.2.2.1⟩
    have hi := drink_inv (S := S1) (n := n * pWide P s) hP hk s0 hnw.1 hc.2.1
    refine r228_2 (R1 := fun M' => RF M' y P (dsDrink P S1 s k (n * pWide P s)) ∧ Fr (DR y) M1 M') (k1 := fun q1 => by omega) (hA1 := fun q1 => ?_) (k2 := fun q1 M2 r2 => ih M2 (RS_mk hc r2.1 hi.1 ?_ r2.2))
    · rw [ew.2.1, dsw_id (by omega) (by omega)]
      exact rdrink_ct hP hy hk ⟨s0, s1⟩ hnw hc.2.2.2.1 hc.1 hc.2.1
    · intro w w0 w1
      rw [hi.2.1]; exact hc.2.2.1 w w0 w1
  · intro s M1 s0 s1 hc
    have e4 := hc.2.2.2.1.1.1
    exact r228_2 (k1 := fun q1 => hQ M1 hc) (hA1 := fun q1 => by omega) (k2 := fun q1 => by omega) (R1 := fun _ => True)
theorem rtap_ct {M0 M : dsMem} {y b s n : Int} {P : dsP} {S : dsS} (hP : POK P) (hy : 0 ≤ y ∧ y < 12) (hs : 0 ≤ s ∧ s < pN P) (hn : 1 ≤ n ∧ n ≤ 60) (h : RS M0 y P b M S) :
    bCt 229 [uR 11 84, uI s, uI n] M (fun _ => []) (fun M' => RS M0 y P b M' (dsTap s n S)) := by
  intro Q hQ
  have hN := hP.1
  have hw := h.2.1 s hs.1 hs.2
  have hst := hP.2.1 s hs.1 hs.2
  have ey := h.1.2.2.2.2.2.2
  have hB := h.1.2.2.2.2.2.1
  refine r229_0 (s1 := by rw [ey]; exact hy) (hA1 := letOut_ct (by omega) (Or.inr rfl) (h.1.1 s hs.1 hs.2) hw.1 (by omega) (by omega) (fun k k0 k1 => by rw [(hB s hs.1 hs.2).1 k k0 k1]; exact dsw_dsw _)) (k1 := fun M1 r1 => ?_)
  rw [ey]
  have hf := r1.2.2
  have hu := RF_upd (l' := dyDr (sL S s) n) (d' := sD S s) (b' := fun k => sB S s k + dyDrs (sL S s) n k) hP h.1 h.2.1 hs (Fr_mono (fun a j q => Or.inl q) hf) r1.1 ?_ ?_
  · rw [dsUpd_self (sD S)] at hu
    obtain ⟨ua, ub, uc, ud, ue, uf, ug⟩ := hu
    refine hQ _ (RS_mk h ⟨?_, ?_, ?_, ?_, ?_, ?_, ?_⟩ ?_ h.2.2.1 ?_)
    · intro t t0 t1
      exact RC_ne (ua t t0 t1) (fun a j q => ds_get_ne (by omega))
    · intro w w0 w1
      rw [ds_get_ne (by omega)]; exact ub w w0 w1
    · rw [ds_get_ne (by omega)]; exact uc
    · rw [ds_get_ne (by omega)]; exact ud
    · rw [ds_get_eq, h.1.2.2.2.2.1, dyw_add]; rfl
    · intro t t0 t1
      rw [ds_get_ne (by omega)]
      refine ⟨fun k k0 k1 => ?_, (uf t t0 t1).2⟩
      rw [ds_get_ne (by omega)]; exact (uf t t0 t1).1 k k0 k1
    · rw [ds_get_ne (by omega)]; exact ug
    · intro t t0 t1
      show dyWl (dsUpd (sL S) s _ t) ∧ dySum (dsUpd (sL S) s _ t) ≤ _
      by_cases ht : t = s
      · subst ht; rw [dsUpd_eq, dyDr_sum hw.1]
        have := dyAm_nn (n := n) hw.1
        exact ⟨dyDr_wl hw.1, by omega⟩
      · rw [dsUpd_ne ht]; exact h.2.1 t t0 t1
    · refine Fr_set (Fr_mono ?_ hf) ?_
      · intro a j q; unfold GD GC at q; unfold DR; omega
      · unfold DR; omega
  · intro k k0 k1
    rw [r1.2.1 k k0 k1, if_neg (by omega), (hB s hs.1 hs.2).1 k k0 k1, dyw_add]
  · rw [hf _ _ (by unfold GD GC; omega)]; exact (hB s hs.1 hs.2).2
theorem rload_eq {M : dsMem} {y w : Int} {P : dsP} {S : dsS} (hP : POK P) (h : RF M y P S) (hS : WS P S) (hW : RW M P) : v230 M w = dsLoad P S w ∧ 0 ≤ dsLoad P S w ∧ dsLoad P S w ≤ 360 := by
  have hb := load_bd (w := w) hP hS 0 (by omega) hP.1.1 0 (by omega) (by omega)
  refine ⟨?_, hb.1, hb.2.1⟩
  unfold v230 dsLoad
  rw [← hb.2.2, hW.1.1]
  have key : ∀ i, 0 ≤ i → ∀ a, dsw a = a → dsIter (fun (i230_1 : Int) (a230_1 : Int) => (if (M 85 ((15 + (3 * i230_1)) + 2)) = w then (dsw ((a230_1 + (M 96 i230_1)))) else (dsw ((a230_1 + 0))))) i (pN P) a = dsIter (fun s a => if pOn P s = w then dsw (a + dySum (sL S s)) else a) i (pN P) a := by
    refine ds_ind (pN P) ?_ ?_
    · intro i hi i0 a ha; rw [dsIter_end hi, dsIter_end hi]
    · intro i hi ih i0 a ha
      rw [dsIter_step hi, dsIter_step hi, (hW.2.1 i i0 hi).2.2.1, (h.1 i i0 hi).2.1, Int.add_zero, ha]
      refine ih (by omega) _ ?_
      split
      · exact dsw_dsw _
      · exact ha
  exact key 0 (by omega) 0 rfl
theorem remp_ct {M : dsMem} {y s : Int} {P : dsP} {S : dsS} (hP : POK P) (h : RF M y P S) (hS : WS P S) (hs : 0 ≤ s ∧ s < pN P) :
    bCt 223 [uR 11 84, uI s, uI (M 96 s), uI 0, uX 0, uX 0, uX 0, uX 0, uX 0] M (fun _ => [uI (dySum (sL S s))]) (fun M' => RF M' y P (dsEmpty S s 0) ∧ Fr (DR y) M M') := by
  have hw := hS s hs.1 hs.2
  have hnn := dySum_nn hw.1
  have c := lets_ct (n := dySum (sL S s)) hP h hS hs hnn
  have e1 : dyAm (sL S s) (dySum (sL S s)) = dySum (sL S s) := by unfold dyAm; (repeat' split) <;> omega
  rw [e1, dyDr_all hw.1 (Int.le_refl _)] at c
  rw [(h.1 s hs.1 hs.2).2.1]
  unfold dsEmpty
  rw [Int.add_zero]
  exact c
theorem lose_emp (S : dsS) (s n : Int) : dsLose (dsEmpty S s 0) n = dsEmpty S s n := by
  show mS _ _ _ (sX S + 0 + n) _ _ _ _ _ = mS _ _ _ (sX S + n) _ _ _ _ _
  rw [Int.add_zero]; rfl
theorem rfell_ct {M0 M : dsMem} {y b w : Int} {P : dsP} {S : dsS} {Q : bQT} (hP : POK P) (hy : 0 ≤ y ∧ y < 12) (h : RS M0 y P b M (dsDown S w)) (K : ∀ M', RS M0 y P b M' (dsFell P w S) → Q [] M') :
    bB 231 82 [uR 11 84, uI w, uX 0, uI 0] [] M Q := by
  have hN := hP.1
  refine b_itS (pN P) (fun s => [uR 11 84, uI w, uX 0, uI s]) (fun s S => if pOn P s = w then dsEmpty S s (dySum (sL S s)) else S) (RS M0 y P b) (dsDown S w) ?_ ?_ M h
  · intro s M1 S1 s0 s1 hc ih
    have ew := hc.2.2.2.1.2.1 s s0 s1
    have e4 := hc.2.2.2.1.1.1
    refine r231_82 (k1 := fun q1 => by omega) (k2 := fun q1 q2 => ih M1 ?_) (hA1 := fun q1 q2 => remp_ct hP hc.1 hc.2.1 ⟨s0, s1⟩) (hA2 := fun q1 q2 M2 r2 => loses_ct hy r2.1) (k3 := fun q1 q2 M2 r2 M3 r3 => ih M3 ?_)
    · rw [ew.2.2.1] at q2
      rw [if_neg q2]; exact hc
    · rw [ew.2.2.1] at q2
      rw [if_pos q2]
      have r := r3.1
      rw [lose_emp] at r
      exact RS_mk hc r (WS_emp hP hc.2.1) hc.2.2.1 (Fr_trans r2.2 (DR_l r3.2))
  · intro s M1 s0 s1 hc
    have e4 := hc.2.2.2.1.1.1
    exact r231_82 (k1 := fun q1 => K M1 hc) (k2 := fun q1 => by omega) (hA1 := fun q1 => by omega) (hA2 := fun q1 => by omega) (k3 := fun q1 => by omega) (R1 := fun _ => True) (R2 := fun _ _ => True) (g1 := fun _ => 0)
theorem RF_sunk {M : dsMem} {y w n v : Int} {P : dsP} {S : dsS} (hw : 0 ≤ w ∧ w < 3) (h : RF M y P S) (hv : v = sK S w + n) : RF (dsSet M 97 w v) y P (dsSunk S w n) := by
  obtain ⟨a, b, c, d, e, f, g⟩ := h
  refine ⟨?_, ?_, ?_, ?_, ?_, ?_, ?_⟩
  · intro t t0 t1
    exact RC_ne (a t t0 t1) (fun a j q => ds_get_ne (by omega))
  · intro t t0 t1
    show dsSet M 97 w v 97 t = dsUpd (sK S) w (sK S w + n) t
    by_cases ht : t = w
    · subst ht; rw [dsUpd_eq, ds_get_eq]; exact hv
    · rw [dsUpd_ne ht, ds_get_ni ht]; exact b t t0 t1
  · rw [ds_get_ne (by omega)]; exact c
  · rw [ds_get_ne (by omega)]; exact d
  · rw [ds_get_ne (by omega)]; exact e
  · intro t t0 t1
    rw [ds_get_ne (by omega)]
    refine ⟨fun k k0 k1 => ?_, (f t t0 t1).2⟩
    rw [ds_get_ne (by omega)]; exact (f t t0 t1).1 k k0 k1
  · rw [ds_get_ne (by omega)]; exact g
theorem RF_down {M : dsMem} {y w : Int} {P : dsP} {S : dsS} (h : RF M y P S) (v : Int) (hv : v = dsAnd (sU S) (dsXor (dsShl 1 w) (-1))) : RF (dsSet M 84 33 v) y P (dsDown S w) := by
  obtain ⟨a, b, c, d, e, f, g⟩ := h
  refine ⟨?_, ?_, ?_, ?_, ?_, ?_, ?_⟩
  · intro t t0 t1
    exact RC_ne (a t t0 t1) (fun a j q => ds_get_ne (by omega))
  · intro t t0 t1
    rw [ds_get_ne (by omega)]; exact b t t0 t1
  · rw [ds_get_eq]; exact hv
  · rw [ds_get_ne (by omega)]; exact d
  · rw [ds_get_ne (by omega)]; exact e
  · intro t t0 t1
    rw [ds_get_ne (by omega)]
    refine ⟨fun k k0 k1 => ?_, (f t t0 t1).2⟩
    rw [ds_get_ne (by omega)]; exact (f t t0 t1).1 k k0 k1
  · rw [ds_gn (by omega)]; exact g
theorem rsink_ct {M0 M : dsMem} {y b w : Int} {P : dsP} {S : dsS} (hP : POK P) (hy : 0 ≤ y ∧ y < 12) (hw : 0 ≤ w ∧ w < pW P) (hb : 0 ≤ b ∧ b ≤ 1000000) (hkw : KW S b w) (h : RS M0 y P (b + 73) M S) :
    bCt 231 [uR 11 84, uI w, uX 0, uX 0] M (fun _ => []) (fun M' => RS M0 y P (b + 73) M' (dsSink P w S) ∧ KW (dsSink P w S) b (w + 1)) := by
  intro Q hQ
  have hN := hP.1
  have hl := rload_eq (w := w) hP h.1 h.2.1 h.2.2.2.1
  have hww := h.2.2.2.1.2.2 w hw.1 hw.2
  have hg := hP.2.2.1 w hw.1 hw.2
  have e4 := h.2.2.2.1.1.1
  have eu := h.1.2.2.1
  have ek := h.1.2.1 w hw.1 (by omega)
  have hkk := hkw w hw.1 (by omega)
  have hsi := sink_inv hP hw h.2.1
  have hkn : KW (dsSink P w S) b (w + 1) := by
    intro t t0 t1
    have := hkw t t0 t1
    by_cases ht : t = w
    · subst ht; omega
    · have := hsi.2.1 t ht
      omega
  have hkb : KB (dsSink P w S) (b + 73) := fun t t0 t1 => by have := hkn t t0 t1; omega
  have ed : dsw (v230 M w - M 92 w) = dsLoad P S w - pBears P w := by rw [hl.1, hww.2, dsw_id (by omega) (by omega)]
  have hb1 := ds_b01 (dsShr (sU S) w)
  have bit : ¬ dsAnd (dsShr (M 84 33) w) 1 = 0 → dsBit (sU S) w := by
    intro q; rw [eu] at q; unfold dsBit; omega
  have nv : dsBit (sU S) w → 0 < dsLoad P S w - pBears P w → dsw (M 97 w + (dsw (v230 M w - M 92 w) / 5 + 1)) = sK S w + ((dsLoad P S w - pBears P w) / 5 + 1) := by
    intro q1 q2
    rw [ed, ek, dsw_id (by omega) (by omega)]
  have f97 : ∀ v, Fr (DR y) M (dsSet M 97 w v) := fun v => Fr_set Fr_refl (by unfold DR; omega)
  refine r231_0 (k1 := fun q1 => hQ M ⟨?_, hkn⟩) (k2 := fun q1 q2 q3 => ?_) (k3 := fun q1 q2 q3 => hQ _ ⟨?_, hkn⟩) (k4 := fun q1 q2 => hQ M ⟨?_, hkn⟩) (s5 := fun q1 q2 => by rw [ed] at q2 ⊢; omega)
  · have es : dsSink P w S = S := by
      unfold dsSink
      rw [if_neg (fun q => by have q0 := q.1; unfold dsBit at q0; rw [eu] at q1; omega)]
    rw [es]; exact h
  · have hbt := bit q1
    rw [ed] at q2
    rw [nv hbt q2, hww.1] at q3
    rw [nv hbt q2]
    have es : dsSink P w S = dsFell P w (dsSunk S w ((dsLoad P S w - pBears P w) / 5 + 1)) := by
      unfold dsSink
      rw [if_pos ⟨hbt, q2⟩, if_neg (by omega)]
    have hR : RF (dsSet M 97 w (sK S w + ((dsLoad P S w - pBears P w) / 5 + 1))) y P (dsSunk S w ((dsLoad P S w - pBears P w) / 5 + 1)) := RF_sunk (by omega) h.1 rfl
    refine rfell_ct (S := dsSunk S w ((dsLoad P S w - pBears P w) / 5 + 1)) hP hy (RS_mk h (RF_down hR _ (by rw [eu]; rfl)) h.2.1 ?_ (Fr_set (f97 _) (by unfold DR; omega))) (fun M' r => hQ M' ⟨by rw [es]; exact r, hkn⟩)
    intro t t0 t1
    have e9 : sK (dsSunk S w ((dsLoad P S w - pBears P w) / 5 + 1)) t = sK (dsSink P w S) t := by rw [es, fell_K]
    show 0 ≤ sK (dsSunk S w ((dsLoad P S w - pBears P w) / 5 + 1)) t ∧ sK (dsSunk S w ((dsLoad P S w - pBears P w) / 5 + 1)) t ≤ b + 73
    rw [e9]
    exact hkb t t0 t1
  · have hbt := bit q1
    rw [ed] at q2
    rw [nv hbt q2, hww.1] at q3
    rw [nv hbt q2]
    have es : dsSink P w S = dsSunk S w ((dsLoad P S w - pBears P w) / 5 + 1) := by
      unfold dsSink
      rw [if_pos ⟨hbt, q2⟩, if_pos (by omega)]
    refine RS_mk h ?_ hsi.1 hkb (f97 _)
    rw [es]
    exact RF_sunk (by omega) h.1 rfl
  · rw [ed] at q2
    have es : dsSink P w S = S := by
      unfold dsSink
      rw [if_neg (fun q => q2 q.2)]
    rw [es]; exact h
theorem RS_85 {M0 M M' : dsMem} {y b b' : Int} {P : dsP} {S S' : dsS} (h : RS M0 y P b M S) (h' : RS M0 y P b' M' S') (j : Int) : M' 85 j = M 85 j :=
  (h'.2.2.2.2.2 85 j (by unfold DR2 DR; omega)).trans (h.2.2.2.2.2 85 j (by unfold DR2 DR; omega)).symm
theorem RS_84 {M0 M M' : dsMem} {y b b' : Int} {P : dsP} {S S' : dsS} (h : RS M0 y P b M S) (h' : RS M0 y P b' M' S') (j : Int) (hj : j ≤ 23) : M' 84 j = M 84 j :=
  (h'.2.2.2.2.2 84 j (by unfold DR2 DR; omega)).trans (h.2.2.2.2.2 84 j (by unfold DR2 DR; omega)).symm
theorem ry_rains {M0 M : dsMem} {y b : Int} {P : dsP} {S : dsS} {Q : bQT} (hP : POK P) (hy : 0 ≤ y ∧ y < 12) (h : RS M0 y P b M S) (K : ∀ M', RS M0 y P b M' (dsRains P y S) → bB 232 193 [uR 11 84, uI y, uI 0, uX 0] [] M' Q) :
    bB 232 56 [uR 11 84, uI y, uI 0, uX 0] [] M Q := by
  have hE := h.2.2.2.2.1
  refine b_itF 0 (M 85 5) (fun i => [uR 11 84, uI y, uI i, uX 0]) (fun i S => match pRf P y i with | some q => dsRain P q.1 q.2 S | none => S) (RS M0 y P b) S ?_ ?_ M h
  · intro i M1 S1 i0 i1 hc ih
    have e85 := RS_85 h hc
    have e84 := RS_84 h hc 18 (by omega)
    have ef := hE.2.2.2.1 y i i0 i1
    have e5 := e85 5
    have hq := hE.1
    by_cases hcm : dsBit (M 84 18) i ∧ M 85 (33 + 3 * i + 2) = y
    · rw [if_pos hcm] at ef
      have hr := hP.2.2.2.1 y i _ ef
      refine r232_56 (R1 := fun M' => RS M0 y P b M' (dsRain P (M 85 (33 + 3 * i + 1)) (M 85 (33 + 3 * i)) S1)) (k1 := fun q1 => by omega) (k2 := fun q1 q2 => by rw [e85] at q2; exact absurd hcm.2 q2) (k3 := fun q1 q2 q3 => by rw [e84] at q3; exact absurd hcm.1 q3) (hA1 := fun q1 q2 q3 => ?_) (k4 := fun q1 q2 q3 M2 r2 => ih M2 ?_)
      · rw [e85, e85]; exact rrain_ct hP hy ⟨hr.1, hr.2.1⟩ hr.2.2 hc
      · rw [ef]; exact r2
    · rw [if_neg hcm] at ef
      have idle : bB 232 56 [uR 11 84, uI y, uI (i + 1), uX 0] [] M1 Q := by
        refine ih M1 ?_
        rw [ef]; exact hc
      exact r232_56 (k1 := fun q1 => by omega) (k2 := fun q1 q2 => idle) (k3 := fun q1 q2 q3 => idle) (hA1 := fun q1 q2 q3 => by rw [e85] at q2; rw [e84] at q3; exact absurd ⟨q3, q2⟩ hcm) (k4 := fun q1 q2 q3 => by rw [e85] at q2; rw [e84] at q3; exact absurd ⟨q3, q2⟩ hcm) (R1 := fun _ => True)
  · intro i M1 i0 i1 hc1
    have e5 := RS_85 h hc1 5
    refine r232_56 (k1 := fun q1 => ?_) (k2 := fun q1 => by omega) (k3 := fun q1 => by omega) (hA1 := fun q1 => by omega) (k4 := fun q1 => by omega) (R1 := fun _ => True)
    refine b_itF 0 (M 85 7) (fun i => [uR 11 84, uI y, uI i, uX 0]) (fun i S => match pRf P y (M 85 5 + i) with | some q => dsRain P q.1 q.2 S | none => S) (RS M0 y P b) _ ?_ ?_ M1 hc1
    · intro i M1 S1 i0 i1 hc ih
      have e85 := RS_85 h hc
      have ef := hE.2.2.2.2.1 y i i0 i1
      have hr := hE.2.2.2.2.2.2.2.1 i i0 i1
      have e7 := e85 7
      have hq := hE.1
      have ea := e85 (75 + i)
      by_cases hcm : M 85 (75 + i) < 10000000 ∧ M 85 (75 + i) % 1000 = y
      · rw [if_pos hcm] at ef
        have hr2 := hP.2.2.2.1 y _ _ ef
        refine r232_131 (R1 := fun M' => RS M0 y P b M' (dsRain P (M 85 (75 + i) / 1000 % 100) (M 85 (75 + i) / 100000) S1)) (k1 := fun q1 => by omega) (k2 := fun q1 q2 => by omega) (k3 := fun q1 q2 q3 => by rw [ea] at q3; exact absurd hcm.2 q3) (hA1 := fun q1 q2 q3 => ?_) (k4 := fun q1 q2 q3 M2 r2 => ih M2 ?_)
        · rw [ea]; exact rrain_ct hP hy ⟨hr2.1, hr2.2.1⟩ hr2.2.2 hc
        · rw [ef]; exact r2
      · rw [if_neg hcm] at ef
        have idle : bB 232 131 [uR 11 84, uI y, uI (i + 1), uX 0] [] M1 Q := by
          refine ih M1 ?_
          rw [ef]; exact hc
        exact r232_131 (k1 := fun q1 => by omega) (k2 := fun q1 q2 => idle) (k3 := fun q1 q2 q3 => idle) (hA1 := fun q1 q2 q3 => by rw [ea] at q2 q3; exact absurd ⟨by omega, q3⟩ hcm) (k4 := fun q1 q2 q3 => by rw [ea] at q2 q3; exact absurd ⟨by omega, q3⟩ hcm) (R1 := fun _ => True)
    · intro i M2 i0 i1 hc
      have e7 := RS_85 h hc 7
      refine r232_131 (k1 := fun q1 => K M2 ?_) (k2 := fun q1 => by omega) (k3 := fun q1 => by omega) (hA1 := fun q1 => by omega) (k4 := fun q1 => by omega) (R1 := fun _ => True)
      have hq := hE.1
      unfold dsRains
      rw [hE.2.1, dsIter_split (m := M 85 5) (by omega) 0 (by omega)]
      have e := dsIter_sh (f := fun i S => match pRf P y i with | some q => dsRain P q.1 q.2 S | none => S) (g := fun i S => match pRf P y (M 85 5 + i) with | some q => dsRain P q.1 q.2 S | none => S) (c := M 85 5) (n := M 85 7) (fun i a _ _ => rfl) 0 (by omega) (dsIter (fun i S => match pRf P y i with | some q => dsRain P q.1 q.2 S | none => S) 0 (M 85 5) S)
      rw [Int.add_zero] at e
      exact Eq.mpr (congrArg (RS M0 y P b M2) e) hc
theorem ry_taps {M0 M : dsMem} {y b : Int} {P : dsP} {S : dsS} {Q : bQT} (hP : POK P) (hy : 0 ≤ y ∧ y < 12) (h : RS M0 y P b M S) (K : ∀ M', RS M0 y P b M' (dsTaps P y S) → bB 232 332 [uR 11 84, uX 0, uI 0, uX 0] [] M' Q) :
    bB 232 193 [uR 11 84, uI y, uI 0, uX 0] [] M Q := by
  have hE := h.2.2.2.2.1
  refine b_itF 0 (M 85 6) (fun i => [uR 11 84, uI y, uI i, uX 0]) (fun i S => match pTf P y i with | some q => dsTap q.1 q.2 S | none => S) (RS M0 y P b) S ?_ ?_ M h
  · intro i M1 S1 i0 i1 hc ih
    have e85 := RS_85 h hc
    have e84 := RS_84 h hc 19 (by omega)
    have ef := hE.2.2.2.2.2.1 y i i0 i1
    have e5 := e85 6
    have hq := hE.1
    by_cases hcm : dsBit (M 84 19) i ∧ M 85 (57 + 3 * i + 2) = y
    · rw [if_pos hcm] at ef
      have hr := hP.2.2.2.2 y i _ ef
      refine r232_193 (R1 := fun M' => RS M0 y P b M' (dsTap (M 85 (57 + 3 * i)) (M 85 (57 + 3 * i + 1)) S1)) (k1 := fun q1 => by omega) (k2 := fun q1 q2 => by rw [e85] at q2; exact absurd hcm.2 q2) (k3 := fun q1 q2 q3 => by rw [e84] at q3; exact absurd hcm.1 q3) (hA1 := fun q1 q2 q3 => ?_) (k4 := fun q1 q2 q3 M2 r2 => ih M2 ?_)
      · rw [e85, e85]; exact rtap_ct hP hy ⟨hr.1, hr.2.1⟩ hr.2.2 hc
      · rw [ef]; exact r2
    · rw [if_neg hcm] at ef
      have idle : bB 232 193 [uR 11 84, uI y, uI (i + 1), uX 0] [] M1 Q := by
        refine ih M1 ?_
        rw [ef]; exact hc
      exact r232_193 (k1 := fun q1 => by omega) (k2 := fun q1 q2 => idle) (k3 := fun q1 q2 q3 => idle) (hA1 := fun q1 q2 q3 => by rw [e85] at q2; rw [e84] at q3; exact absurd ⟨q3, q2⟩ hcm) (k4 := fun q1 q2 q3 => by rw [e85] at q2; rw [e84] at q3; exact absurd ⟨q3, q2⟩ hcm) (R1 := fun _ => True)
  · intro i M1 i0 i1 hc1
    have e5 := RS_85 h hc1 6
    refine r232_193 (k1 := fun q1 => ?_) (k2 := fun q1 => by omega) (k3 := fun q1 => by omega) (hA1 := fun q1 => by omega) (k4 := fun q1 => by omega) (R1 := fun _ => True)
    refine b_itF 0 (M 85 7) (fun i => [uR 11 84, uI y, uI i, uX 0]) (fun i S => match pTf P y (M 85 6 + i) with | some q => dsTap q.1 q.2 S | none => S) (RS M0 y P b) _ ?_ ?_ M1 hc1
    · intro i M1 S1 i0 i1 hc ih
      have e85 := RS_85 h hc
      have ef := hE.2.2.2.2.2.2.1 y i i0 i1
      have hr := hE.2.2.2.2.2.2.2.1 i i0 i1
      have e7 := e85 7
      have hq := hE.1
      have ea := e85 (75 + i)
      by_cases hcm : 10000000 ≤ M 85 (75 + i) ∧ (M 85 (75 + i) - 10000000) % 1000 = y
      · rw [if_pos hcm] at ef
        have hr2 := hP.2.2.2.2 y _ _ ef
        refine r232_269 (R1 := fun M' => RS M0 y P b M' (dsTap ((M 85 (75 + i) - 10000000) / 1000 % 100) ((M 85 (75 + i) - 10000000) / 100000) S1)) (k1 := fun q1 => by omega) (k2 := fun q1 q2 => by omega) (k3 := fun q1 q2 q3 => by rw [ea] at q3; exact absurd hcm.2 q3) (hA1 := fun q1 q2 q3 => ?_) (k4 := fun q1 q2 q3 M2 r2 => ih M2 ?_)
        · rw [ea]; exact rtap_ct hP hy ⟨hr2.1, hr2.2.1⟩ hr2.2.2 hc
        · rw [ef]; exact r2
      · rw [if_neg hcm] at ef
        have idle : bB 232 269 [uR 11 84, uI y, uI (i + 1), uX 0] [] M1 Q := by
          refine ih M1 ?_
          rw [ef]; exact hc
        exact r232_269 (k1 := fun q1 => by omega) (k2 := fun q1 q2 => idle) (k3 := fun q1 q2 q3 => idle) (hA1 := fun q1 q2 q3 => by rw [ea] at q2 q3; exact absurd ⟨by omega, q3⟩ hcm) (k4 := fun q1 q2 q3 => by rw [ea] at q2 q3; exact absurd ⟨by omega, q3⟩ hcm) (R1 := fun _ => True)
    · intro i M2 i0 i1 hc
      have e7 := RS_85 h hc 7
      refine r232_269 (k1 := fun q1 => K M2 ?_) (k2 := fun q1 => by omega) (k3 := fun q1 => by omega) (hA1 := fun q1 => by omega) (k4 := fun q1 => by omega) (R1 := fun _ => True)
      have hq := hE.1
      unfold dsTaps
      rw [hE.2.2.1, dsIter_split (m := M 85 6) (by omega) 0 (by omega)]
      have e := dsIter_sh (f := fun i S => match pTf P y i with | some q => dsTap q.1 q.2 S | none => S) (g := fun i S => match pTf P y (M 85 6 + i) with | some q => dsTap q.1 q.2 S | none => S) (c := M 85 6) (n := M 85 7) (fun i a _ _ => rfl) 0 (by omega) (dsIter (fun i S => match pTf P y i with | some q => dsTap q.1 q.2 S | none => S) 0 (M 85 6) S)
      rw [Int.add_zero] at e
      exact Eq.mpr (congrArg (RS M0 y P b M2) e) hc
theorem ry_sinks {M0 M : dsMem} {y b : Int} {P : dsP} {S : dsS} {Q : bQT} (hP : POK P) (hy : 0 ≤ y ∧ y < 12) (hb : 0 ≤ b ∧ b ≤ 1000000) (h : RS M0 y P b M S) (K : ∀ M', RS M0 y P (b + 73) M' (dsSinks P S) → Q [] M') :
    bB 232 332 [uR 11 84, uX 0, uI 0, uX 0] [] M Q := by
  have hN := hP.1
  have h0 : RS M0 y P (b + 73) M S := ⟨h.1, h.2.1, fun w w0 w1 => by have := h.2.2.1 w w0 w1; omega, h.2.2.2⟩
  refine b_forM (pW P) (fun w => [uR 11 84, uX 0, uI w, uX 0]) (fun w M' => 0 ≤ w ∧ ∃ S', RS M0 y P (b + 73) M' S' ∧ KW S' b w ∧ dsIter (fun w S => dsSink P w S) w (pW P) S' = dsSinks P S) ?_ ?_ 0 M ⟨by omega, S, h0, fun t t0 t1 => by have := h.2.2.1 t t0 t1; omega, rfl⟩
  · rintro w M1 ⟨w0, S1, hc, hk, e⟩ w1 ih
    rw [dsIter_step w1] at e
    have e3 := hc.2.2.2.1.1.2.1
    exact r232_332 (k1 := fun q1 => by omega) (hA1 := fun q1 => rsink_ct hP hy ⟨w0, w1⟩ hb hk hc) (k2 := fun q1 M2 r2 => ih M2 ⟨by omega, _, r2.1, r2.2, e⟩)
  · rintro w M1 ⟨w0, S1, hc, hk, e⟩ w1
    rw [dsIter_end w1] at e
    subst e
    have e3 := hc.2.2.2.1.1.2.1
    exact r232_332 (k1 := fun q1 => K M1 hc) (hA1 := fun q1 => by omega) (k2 := fun q1 => by omega) (R1 := fun _ => True)
