/-! the flow's year: its state, what one stone drinks -/
theorem dyw_add (a b : Int) : dsw (dsw a + b) = dsw (a + b) := by
  have h : Int32.ofInt (dsw a + b) = Int32.ofInt (a + b) := by
    rw [Int32.ofInt_add, Int32.ofInt_add, dsw_o]
  unfold dsw at h ⊢
  rw [h]
def CF (M : dsMem) (x0 y : Int) (P : dsP) (S : dsS) : Prop :=
  (∀ s, 0 ≤ s → s < pN P → dyCell M x0 ((y + 1) * 6 + s) (sL S s)) ∧
  (∀ w, 0 ≤ w → w < 3 → M (x0 + 6) ((y + 1) * 3 + w) = sK S w) ∧
  M (x0 + 7) (y + 1) = sU S ∧ M (x0 + 8) y = dsw (sX S) ∧ M (x0 + 9) y = dsw (sH S) ∧
  (∀ k, 1 ≤ k → k ≤ 5 → M (x0 + 10) k = dsw (sA S k)) ∧
  (∀ s, 0 ≤ s → s < pN P → M (x0 + 11) s = sF S s ∧ M (x0 + 12) s = dsw (sD S s))
def DY (x0 y : Int) : Int → Int → Prop := fun a j => ((a = x0 + 2 ∨ a = x0 + 3) ∧ (y + 1) * 360 ≤ j) ∨ ((a = x0 + 4 ∨ a = x0 + 5) ∧ (y + 1) * 6 ≤ j) ∨ (a = x0 + 6 ∧ (y + 1) * 3 ≤ j) ∨ (a = x0 + 7 ∧ y + 1 ≤ j) ∨ ((a = x0 + 8 ∨ a = x0 + 9) ∧ y ≤ j) ∨ (x0 + 10 ≤ a ∧ a ≤ x0 + 13)
def CW (M : dsMem) (x0 : Int) (P : dsP) : Prop :=
  (M 24 5 = pN P ∧ M 24 4 = pW P ∧ M 24 1 = pY P ∧ M x0 14 = pL P) ∧
  (∀ s, 0 ≤ s → s < pN P → M (x0 + 14) s = pRoom P s ∧ M 28 s = pWide P s ∧ M 29 s = pOn P s ∧ (dsBit (M (x0 + 1) 4) s ↔ pAl P s = true)) ∧
  (∀ w, 0 ≤ w → w < pW P → M 26 w = pGives P w ∧ (if w = M (x0 + 1) 7 then M (x0 + 1) 8 else M 25 w) = pBears P w)
def POK (P : dsP) : Prop :=
  (0 ≤ pN P ∧ pN P ≤ 6 ∧ 0 ≤ pW P ∧ pW P ≤ 3 ∧ 0 ≤ pY P ∧ pY P ≤ 12) ∧
  (∀ s, 0 ≤ s → s < pN P → 0 ≤ pRoom P s ∧ pRoom P s ≤ 60 ∧ 1 ≤ pWide P s ∧ pWide P s ≤ 4 ∧ 0 ≤ pOn P s ∧ pOn P s < pW P) ∧
  (∀ w, 0 ≤ w → w < pW P → 0 ≤ pGives P w ∧ 0 ≤ pBears P w ∧ pBears P w ≤ 300) ∧
  (∀ y i q, pRf P y i = some q → 1 ≤ q.1 ∧ q.1 ≤ 5 ∧ 1 ≤ q.2 ∧ q.2 ≤ 20) ∧
  (∀ y i q, pTf P y i = some q → 0 ≤ q.1 ∧ q.1 < pN P ∧ 1 ≤ q.2 ∧ q.2 ≤ 60)
def WS (P : dsP) (S : dsS) : Prop := ∀ s, 0 ≤ s → s < pN P → dyWl (sL S s) ∧ dySum (sL S s) ≤ pRoom P s
theorem CW_fr {M M' : dsMem} {x0 y : Int} {P : dsP} (hx : x0 = 47 ∨ x0 = 62) (h : CW M x0 P) (hf : Fr (DY x0 y) M M') : CW M' x0 P := by
  obtain ⟨⟨a1, a2, a3, a4⟩, b, c⟩ := h
  have e : ∀ a j, (a < x0 + 2 ∨ x0 + 13 < a) → M' a j = M a j := fun a j h => hf a j (by unfold DY; omega)
  refine ⟨⟨?_, ?_, ?_, ?_⟩, ?_, ?_⟩
  · rw [e _ _ (by omega)]; exact a1
  · rw [e _ _ (by omega)]; exact a2
  · rw [e _ _ (by omega)]; exact a3
  · rw [e _ _ (by omega)]; exact a4
  · intro s s0 s1
    rw [e (x0 + 14) _ (by omega), e 28 _ (by omega), e 29 _ (by omega), e (x0 + 1) _ (by omega)]; exact b s s0 s1
  · intro w w0 w1
    rw [e 26 _ (by omega), e (x0 + 1) _ (by omega), e (x0 + 1) _ (by omega), e 25 _ (by omega)]; exact c w w0 w1
theorem cell_fr {M M' : dsMem} {x0 c : Int} {l : dsL} (h : dyCell M x0 c l) (hl : (l.length : Int) ≤ 60)
    (hf : ∀ a j, ((a = x0 + 4 ∨ a = x0 + 5) ∧ j = c) ∨ ((a = x0 + 2 ∨ a = x0 + 3) ∧ c * 60 ≤ j ∧ j < c * 60 + 60) → M' a j = M a j) : dyCell M' x0 c l := by
  obtain ⟨h1, h2, h3⟩ := h
  refine ⟨?_, ?_, dyRp_congr ?_ h3⟩
  · rw [hf _ _ (by omega)]; exact h1
  · rw [hf _ _ (by omega)]; exact h2
  · intro j j1 j2
    exact ⟨hf _ _ (by omega), hf _ _ (by omega)⟩
theorem cell_ne {M M' : dsMem} {x0 c : Int} {l : dsL} (h : dyCell M x0 c l) (hf : ∀ a j, a = x0 + 2 ∨ a = x0 + 3 ∨ a = x0 + 4 ∨ a = x0 + 5 → M' a j = M a j) : dyCell M' x0 c l := by
  obtain ⟨h1, h2, h3⟩ := h
  refine ⟨?_, ?_, dyRp_congr ?_ h3⟩
  · rw [hf _ _ (by omega)]; exact h1
  · rw [hf _ _ (by omega)]; exact h2
  · intro j j1 j2
    exact ⟨hf _ _ (by omega), hf _ _ (by omega)⟩
theorem WS_len {P : dsP} {S : dsS} (hP : POK P) (hS : WS P S) {s : Int} (h0 : 0 ≤ s) (h1 : s < pN P) : ((sL S s).length : Int) ≤ 60 := by
  have h := hS s h0 h1
  have := dySum_len h.1
  have := (hP.2.1 s h0 h1).2.1
  omega
theorem CF_upd {M M' : dsMem} {x0 y s : Int} {P : dsP} {S : dsS} {l' : dsL} {X' d' : Int} (hP : POK P) (h : CF M x0 y P S) (hS : WS P S) (hy : 0 ≤ y) (hs : 0 ≤ s ∧ s < pN P)
    (hf : Fr (fun a j => FD x0 ((y + 1) * 6 + s) a j ∨ (a = x0 + 8 ∧ j = y) ∨ (a = x0 + 12 ∧ j = s)) M M') (hC : dyCell M' x0 ((y + 1) * 6 + s) l') (hX : M' (x0 + 8) y = dsw X') (hD : M' (x0 + 12) s = dsw d') :
    CF M' x0 y P (mS (dsUpd (sL S) s l') (sK S) (sU S) X' (sH S) (sB S) (sA S) (sF S) (dsUpd (sD S) s d')) := by
  obtain ⟨a, b, c, d, e, f, g⟩ := h
  have hN := hP.1
  refine ⟨?_, ?_, ?_, hX, ?_, ?_, ?_⟩
  · intro t t0 t1
    by_cases ht : t = s
    · subst ht; simp only [sL, mS, dsUpd_eq]; exact hC
    · simp only [sL, mS, dsUpd_ne ht]
      refine cell_fr (a t t0 t1) (WS_len hP hS t0 t1) (fun a j hh => hf a j ?_)
      unfold FD FC; omega
  · intro w w0 w1
    rw [hf _ _ (by unfold FD FC; omega)]; exact b w w0 w1
  · rw [hf _ _ (by unfold FD FC; omega)]; exact c
  · rw [hf _ _ (by unfold FD FC; omega)]; exact e
  · intro k k0 k1
    rw [hf _ _ (by unfold FD FC; omega)]; exact f k k0 k1
  · intro t t0 t1
    refine ⟨?_, ?_⟩
    · rw [hf _ _ (by unfold FD FC; omega)]; exact (g t t0 t1).1
    · by_cases ht : t = s
      · subst ht; simp only [sD, mS, dsUpd_eq]; exact hD
      · simp only [sD, mS, dsUpd_ne ht]
        rw [hf _ _ (by unfold FD FC; omega)]; exact (g t t0 t1).2
section
variable {M M1 M2 M3 : dsMem} {x0 y s k n : Int} {P : dsP} {S : dsS}
theorem pour_a (hP : POK P) (h : CF M x0 y P S) (hS : WS P S) (hy : 0 ≤ y) (hs : 0 ≤ s ∧ s < pN P) {G : Int} (eG : dsGoes P (sL S s) s n = G) (ho : dySum (sL S s) + G - pRoom P s ≤ 0)
    (r : dyCell M1 x0 ((y + 1) * 6 + s) (dyLay (sL S s) k G) ∧ Fr (FC x0 ((y + 1) * 6 + s)) M M1) :
    CF (dsSet M1 (x0 + 12) s (dsw (M1 (x0 + 12) s + G))) x0 y P (dsPourS P S s k n) ∧ Fr (DY x0 y) M (dsSet M1 (x0 + 12) s (dsw (M1 (x0 + 12) s + G))) := by
  have hN := hP.1
  have hr := r.2
  refine ⟨?_, ?_⟩
  · unfold dsPourS dsOver
    rw [eG, dyDr_0 ho, if_neg (by omega)]
    refine CF_upd hP h hS hy hs ?_ ?_ ?_ ?_
    · refine Fr_set (Fr_mono ?_ hr) (Or.inr (Or.inr ⟨rfl, rfl⟩))
      intro a j hh; exact Or.inl (Or.inl hh)
    · exact cell_ne r.1 (fun a j hh => ds_get_ne (by omega))
    · rw [ds_get_ne (by omega), hr _ _ (by unfold FC; omega), h.2.2.2.1, Int.add_zero]
    · rw [ds_get_eq, hr _ _ (by unfold FC; omega), (h.2.2.2.2.2.2 s hs.1 hs.2).2, dyw_add]
  · refine Fr_set (Fr_mono ?_ hr) ?_
    · intro a j hh; unfold FC at hh; unfold DY; omega
    · unfold DY; omega
theorem pour_b (hP : POK P) (h : CF M x0 y P S) (hS : WS P S) (hy : 0 ≤ y) (hs : 0 ≤ s ∧ s < pN P) {G : Int} (eG : dsGoes P (sL S s) s n = G) (ho : ¬ dySum (sL S s) + G - pRoom P s ≤ 0) (hg : G ≤ pRoom P s)
    (r2 : dyCell M2 x0 ((y + 1) * 6 + s) (dyDr (sL S s) (dySum (sL S s) + G - pRoom P s)) ∧ (∀ k, 0 ≤ k → k < 6 → M2 (x0 + 13) k = dyDrs (sL S s) (dySum (sL S s) + G - pRoom P s) k) ∧ Fr (FD x0 ((y + 1) * 6 + s)) M M2)
    (r : dyCell M3 x0 ((y + 1) * 6 + s) (dyLay (dyDr (sL S s) (dySum (sL S s) + G - pRoom P s)) k G) ∧ Fr (FC x0 ((y + 1) * 6 + s)) (dsSet M2 (x0 + 8) y (dsw (M (x0 + 8) y + dyAm (sL S s) (dySum (sL S s) + G - pRoom P s)))) M3) :
    CF (dsSet M3 (x0 + 12) s (dsw (M3 (x0 + 12) s + G))) x0 y P (dsPourS P S s k n) ∧ Fr (DY x0 y) M (dsSet M3 (x0 + 12) s (dsw (M3 (x0 + 12) s + G))) := by
  have hN := hP.1
  have hf2 := r2.2.2
  have hr := r.2
  have e8 : M3 (x0 + 8) y = dsw (M (x0 + 8) y + dyAm (sL S s) (dySum (sL S s) + G - pRoom P s)) := by
    rw [hr _ _ (by unfold FC; omega), ds_get_eq]
  have ea : dyAm (sL S s) (dySum (sL S s) + G - pRoom P s) = dySum (sL S s) + G - pRoom P s := by
    unfold dyAm; (repeat' split) <;> omega
  refine ⟨?_, ?_⟩
  · unfold dsPourS dsOver
    rw [eG, if_pos (by omega)]
    refine CF_upd hP h hS hy hs ?_ ?_ ?_ ?_
    · refine Fr_set (Fr_trans (Fr_set (Fr_mono ?_ hf2) (Or.inr (Or.inl ⟨rfl, rfl⟩))) (Fr_mono ?_ hr)) (Or.inr (Or.inr ⟨rfl, rfl⟩))
      · intro a j hh; exact Or.inl hh
      · intro a j hh; exact Or.inl (Or.inl hh)
    · exact cell_ne r.1 (fun a j hh => ds_get_ne (by omega))
    · rw [ds_get_ne (by omega), e8, h.2.2.2.1, ea, dyw_add]
    · rw [ds_get_eq, hr _ _ (by unfold FC; omega), ds_get_ne (by omega), hf2 _ _ (by unfold FD FC; omega), (h.2.2.2.2.2.2 s hs.1 hs.2).2, dyw_add]
  · refine Fr_set (Fr_trans (Fr_set (Fr_mono ?_ hf2) ?_) (Fr_mono ?_ hr)) ?_
    · intro a j hh; unfold FD FC at hh; unfold DY; omega
    · unfold DY; omega
    · intro a j hh; unfold FC at hh; unfold DY; omega
    · unfold DY; omega
theorem pour_ct (hP : POK P) (hx : x0 = 47 ∨ x0 = 62) (hW : CW M x0 P) (h : CF M x0 y P S) (hS : WS P S) (hy : 0 ≤ y ∧ y < 12) (hs : 0 ≤ s ∧ s < pN P) (hk : 1 ≤ k ∧ k ≤ 5) (hn : 0 ≤ n ∧ n ≤ 80) :
    bCt 16 [uR 5 x0, uI y, uI s, uI k, uI n, uX 0, uX 0, uX 0, uX 0] M (fun _ => [uI (dsPour P S s k n).2]) (fun M' => CF M' x0 y P (dsPour P S s k n).1 ∧ Fr (DY x0 y) M M') := by
  intro Q hQ
  have hN := hP.1
  have hst := hP.2.1 s hs.1 hs.2
  have hC := h.1 s hs.1 hs.2
  have hw := (hS s hs.1 hs.2).1
  have hle := (hS s hs.1 hs.2).2
  have hnn := dySum_nn hw
  have e0 := hW.1.2.2.2
  have e14 := (hW.2.1 s hs.1 hs.2).1
  have e5 := hC.2.1
  have hc : 0 ≤ (y + 1) * 6 + s ∧ (y + 1) * 6 + s < 78 := by omega
  refine r16_0
    (hA1 := fun q1 q2 q3 q4 => by
      simp only [e0, e5, e14] at q1 q2 q3 q4 ⊢
      exact lay_ct hc hC hw (by omega) (by omega))
    (k1 := fun q1 q2 q3 q4 M1 r1 => by
      simp only [e0, e5, e14] at q1 q2 q3 q4 ⊢
      have eG := (show dsGoes P (sL S s) s n = (pRoom P s - dySum (sL S s)) from by unfold dsGoes dsMost; (repeat' split) <;> omega)
      have eP : dsPour P S s k n = (dsPourS P S s k n, n - (pRoom P s - dySum (sL S s))) := by unfold dsPour; rw [eG, if_neg (by omega)]
      rw [eP] at hQ
      exact hQ _ (pour_a hP h hS hy.1 hs eG (by omega) r1))
    (hA2 := fun q1 q2 q3 q4 => by
      simp only [e0, e5, e14] at q1 q2 q3 q4 ⊢
      exact drain_ct hc hC hw (by omega) (by omega))
    (hA3 := fun q1 q2 q3 q4 M2 r2 => by
      simp only [e0, e5, e14] at q1 q2 q3 q4 ⊢
      exact lay_ct hc (cell_ne r2.1 (fun a j hh => ds_get_ne (by omega))) (dyDr_wl hw) (by omega) (by rw [dyDr_sum hw]; unfold dyAm; (repeat' split) <;> omega))
    (k2 := fun q1 q2 q3 q4 M2 r2 M3 r3 => by
      simp only [e0, e5, e14] at q1 q2 q3 q4 ⊢
      have eG := (show dsGoes P (sL S s) s n = (pRoom P s - dySum (sL S s)) from by unfold dsGoes dsMost; (repeat' split) <;> omega)
      have eP : dsPour P S s k n = (dsPourS P S s k n, n - (pRoom P s - dySum (sL S s))) := by unfold dsPour; rw [eG, if_neg (by omega)]
      rw [eP] at hQ
      exact hQ _ (pour_b hP h hS hy.1 hs eG (by omega) (by omega) r2 r3))
    (k3 := fun q1 q2 q3 => by
      simp only [e0, e5, e14] at q1 q2 q3
      have eG := (show dsGoes P (sL S s) s n = (pRoom P s - dySum (sL S s)) from by unfold dsGoes dsMost; (repeat' split) <;> omega)
      have eP : dsPour P S s k n = (S, n) := by unfold dsPour; rw [eG, if_pos (by omega)]
      rw [eP] at hQ
      exact hQ _ ⟨h, Fr_refl⟩)
    (hA4 := fun q1 q2 q3 q4 => by
      simp only [e0, e5, e14] at q1 q2 q3 q4 ⊢
      exact lay_ct hc hC hw (by omega) (by omega))
    (k4 := fun q1 q2 q3 q4 M1 r1 => by
      simp only [e0, e5, e14] at q1 q2 q3 q4 ⊢
      have eG := (show dsGoes P (sL S s) s n = n from by unfold dsGoes dsMost; (repeat' split) <;> omega)
      have eP : dsPour P S s k n = (dsPourS P S s k n, n - n) := by unfold dsPour; rw [eG, if_neg (by omega)]
      rw [eP] at hQ
      exact hQ _ (pour_a hP h hS hy.1 hs eG (by omega) r1))
    (hA5 := fun q1 q2 q3 q4 => by
      simp only [e0, e5, e14] at q1 q2 q3 q4 ⊢
      exact drain_ct hc hC hw (by omega) (by omega))
    (hA6 := fun q1 q2 q3 q4 M2 r2 => by
      simp only [e0, e5, e14] at q1 q2 q3 q4 ⊢
      exact lay_ct hc (cell_ne r2.1 (fun a j hh => ds_get_ne (by omega))) (dyDr_wl hw) (by omega) (by rw [dyDr_sum hw]; unfold dyAm; (repeat' split) <;> omega))
    (k5 := fun q1 q2 q3 q4 M2 r2 M3 r3 => by
      simp only [e0, e5, e14] at q1 q2 q3 q4 ⊢
      have eG := (show dsGoes P (sL S s) s n = n from by unfold dsGoes dsMost; (repeat' split) <;> omega)
      have eP : dsPour P S s k n = (dsPourS P S s k n, n - n) := by unfold dsPour; rw [eG, if_neg (by omega)]
      rw [eP] at hQ
      exact hQ _ (pour_b hP h hS hy.1 hs eG (by omega) (by omega) r2 r3))
    (k6 := fun q1 q2 q3 => by
      simp only [e0, e5, e14] at q1 q2 q3
      have eG := (show dsGoes P (sL S s) s n = n from by unfold dsGoes dsMost; (repeat' split) <;> omega)
      have eP : dsPour P S s k n = (S, n) := by unfold dsPour; rw [eG, if_pos (by omega)]
      rw [eP] at hQ
      exact hQ _ ⟨h, Fr_refl⟩)
    (hA7 := fun q1 q2 q3 q4 => by
      simp only [e0, e5, e14] at q1 q2 q3 q4 ⊢
      exact lay_ct hc hC hw (by omega) (by omega))
    (k7 := fun q1 q2 q3 q4 M1 r1 => by
      simp only [e0, e5, e14] at q1 q2 q3 q4 ⊢
      have eG := (show dsGoes P (sL S s) s n = (pRoom P s) from by unfold dsGoes dsMost; (repeat' split) <;> omega)
      have eP : dsPour P S s k n = (dsPourS P S s k n, n - (pRoom P s)) := by unfold dsPour; rw [eG, if_neg (by omega)]
      rw [eP] at hQ
      exact hQ _ (pour_a hP h hS hy.1 hs eG (by omega) r1))
    (hA8 := fun q1 q2 q3 q4 => by
      simp only [e0, e5, e14] at q1 q2 q3 q4 ⊢
      exact drain_ct hc hC hw (by omega) (by omega))
    (hA9 := fun q1 q2 q3 q4 M2 r2 => by
      simp only [e0, e5, e14] at q1 q2 q3 q4 ⊢
      exact lay_ct hc (cell_ne r2.1 (fun a j hh => ds_get_ne (by omega))) (dyDr_wl hw) (by omega) (by rw [dyDr_sum hw]; unfold dyAm; (repeat' split) <;> omega))
    (k8 := fun q1 q2 q3 q4 M2 r2 M3 r3 => by
      simp only [e0, e5, e14] at q1 q2 q3 q4 ⊢
      have eG := (show dsGoes P (sL S s) s n = (pRoom P s) from by unfold dsGoes dsMost; (repeat' split) <;> omega)
      have eP : dsPour P S s k n = (dsPourS P S s k n, n - (pRoom P s)) := by unfold dsPour; rw [eG, if_neg (by omega)]
      rw [eP] at hQ
      exact hQ _ (pour_b hP h hS hy.1 hs eG (by omega) (by omega) r2 r3))
    (k9 := fun q1 q2 q3 => by
      simp only [e0, e5, e14] at q1 q2 q3
      have eG := (show dsGoes P (sL S s) s n = (pRoom P s) from by unfold dsGoes dsMost; (repeat' split) <;> omega)
      have eP : dsPour P S s k n = (S, n) := by unfold dsPour; rw [eG, if_pos (by omega)]
      rw [eP] at hQ
      exact hQ _ ⟨h, Fr_refl⟩)
    (hA10 := fun q1 q2 q3 q4 => by
      simp only [e0, e5, e14] at q1 q2 q3 q4 ⊢
      exact lay_ct hc hC hw (by omega) (by omega))
    (k10 := fun q1 q2 q3 q4 M1 r1 => by
      simp only [e0, e5, e14] at q1 q2 q3 q4 ⊢
      have eG := (show dsGoes P (sL S s) s n = n from by unfold dsGoes dsMost; (repeat' split) <;> omega)
      have eP : dsPour P S s k n = (dsPourS P S s k n, n - n) := by unfold dsPour; rw [eG, if_neg (by omega)]
      rw [eP] at hQ
      exact hQ _ (pour_a hP h hS hy.1 hs eG (by omega) r1))
    (hA11 := fun q1 q2 q3 q4 => by
      simp only [e0, e5, e14] at q1 q2 q3 q4 ⊢
      exact drain_ct hc hC hw (by omega) (by omega))
    (hA12 := fun q1 q2 q3 q4 M2 r2 => by
      simp only [e0, e5, e14] at q1 q2 q3 q4 ⊢
      exact lay_ct hc (cell_ne r2.1 (fun a j hh => ds_get_ne (by omega))) (dyDr_wl hw) (by omega) (by rw [dyDr_sum hw]; unfold dyAm; (repeat' split) <;> omega))
    (k11 := fun q1 q2 q3 q4 M2 r2 M3 r3 => by
      simp only [e0, e5, e14] at q1 q2 q3 q4 ⊢
      have eG := (show dsGoes P (sL S s) s n = n from by unfold dsGoes dsMost; (repeat' split) <;> omega)
      have eP : dsPour P S s k n = (dsPourS P S s k n, n - n) := by unfold dsPour; rw [eG, if_neg (by omega)]
      rw [eP] at hQ
      exact hQ _ (pour_b hP h hS hy.1 hs eG (by omega) (by omega) r2 r3))
    (k12 := fun q1 q2 q3 => by
      simp only [e0, e5, e14] at q1 q2 q3
      have eG := (show dsGoes P (sL S s) s n = n from by unfold dsGoes dsMost; (repeat' split) <;> omega)
      have eP : dsPour P S s k n = (S, n) := by unfold dsPour; rw [eG, if_pos (by omega)]
      rw [eP] at hQ
      exact hQ _ ⟨h, Fr_refl⟩)
end
theorem CF_lose {M : dsMem} {x0 y r : Int} {P : dsP} {S : dsS} (h : CF M x0 y P S) : CF (dsSet M (x0 + 8) y (dsw (M (x0 + 8) y + r))) x0 y P (dsLose S r) := by
  obtain ⟨a, b, c, d, e, f, g⟩ := h
  refine ⟨?_, ?_, ?_, ?_, ?_, ?_, ?_⟩
  · intro t t0 t1
    exact cell_ne (a t t0 t1) (fun a j hh => ds_get_ne (by omega))
  · intro w w0 w1
    rw [ds_get_ne (by omega)]; exact b w w0 w1
  · rw [ds_get_ne (by omega)]; exact c
  · rw [ds_get_eq, d, dyw_add]; rfl
  · rw [ds_get_ne (by omega)]; exact e
  · intro k k0 k1
    rw [ds_get_ne (by omega)]; exact f k k0 k1
  · intro t t0 t1
    rw [ds_get_ne (by omega), ds_get_ne (by omega)]; exact g t t0 t1
theorem WS_pour {P : dsP} {S : dsS} {s k n : Int} (hP : POK P) (hS : WS P S) (hs : 0 ≤ s ∧ s < pN P) (hk : 1 ≤ k ∧ k ≤ 5) (hn : 0 ≤ n) :
    WS P (dsPour P S s k n).1 ∧ 0 ≤ (dsPour P S s k n).2 ∧ (dsPour P S s k n).2 ≤ n ∧ sU (dsPour P S s k n).1 = sU S := by
  have hw := (hS s hs.1 hs.2).1
  have hle := (hS s hs.1 hs.2).2
  have hnn := dySum_nn hw
  have hst := hP.2.1 s hs.1 hs.2
  have hg : dsGoes P (sL S s) s n ≤ n ∧ dsGoes P (sL S s) s n ≤ pRoom P s := by
    unfold dsGoes dsMost; (repeat' split) <;> omega
  unfold dsPour
  split
  · exact ⟨hS, hn, by simp only; omega, rfl⟩
  · refine ⟨?_, by simp only; omega, by simp only; omega, rfl⟩
    intro t t0 t1
    unfold dsPourS
    by_cases ht : t = s
    · subst ht
      show dyWl (dsUpd (sL S) t _ t) ∧ dySum (dsUpd (sL S) t _ t) ≤ _
      rw [dsUpd_eq]
      refine ⟨dyLay_wl (dyDr_wl hw) hk (by omega), ?_⟩
      rw [dyLay_sum, dyDr_sum hw]
      unfold dsOver dyAm
      (repeat' split) <;> omega
    · show dyWl (dsUpd (sL S) s _ t) ∧ dySum (dsUpd (sL S) s _ t) ≤ _
      rw [dsUpd_ne ht]
      exact hS t t0 t1
theorem drink_1 {x0 y k first : Int} {P : dsP} {Q : bQT} (hP : POK P) (hx : x0 = 47 ∨ x0 = 62) (hy : 0 ≤ y ∧ y < 12) (hk : 1 ≤ k ∧ k ≤ 5) (hf0 : 0 ≤ first ∧ first < pN P) :
    ∀ (j : Nat) (s r : Int) (S : dsS) (M : dsMem), j = (pN P - s).toNat → first ≤ s → s ≤ pN P → 0 ≤ r → r ≤ 80 → CW M x0 P → CF M x0 y P S → WS P S →
    (∀ M', CF M' x0 y P (dsLose (dsDrkN P first k j s S r).1 (dsDrkN P first k j s S r).2) → Fr (DY x0 y) M M' → Q [] M') →
    bB 14 7 [uR 5 x0, uI y, uI first, uI k, uX 0, uI r, uI s] [] M Q
  | 0, s, r, S, M, hj, h1, h2, hr0, hr1, hW, hC, hS, K => by
    have hN := hP.1
    have e5 := hW.1.1
    have K' := K _ (CF_lose hC) (Fr_set Fr_refl (by unfold DY; omega))
    refine r14_7 (k1 := fun _ => K') (k2 := fun q1 => ?_) (k3 := fun q1 => ?_) (hA1 := fun q1 => ?_) (k4 := fun q1 => ?_) (k5 := fun q1 => ?_) (k6 := fun q1 => ?_) (k7 := fun q1 => ?_) (hA2 := fun q1 => ?_) (k8 := fun q1 => ?_) (k9 := fun q1 => ?_) (R1 := fun _ => True) (R2 := fun _ => True) (g1 := fun _ => 0) (g2 := fun _ => 0) <;> omega
  | j + 1, s, r, S, M, hj, h1, h2, hr0, hr1, hW, hC, hS, K => by
    have hN := hP.1
    have e5 := hW.1.1
    have hs : 0 ≤ s ∧ s < pN P := by omega
    have es := hW.2.1 s hs.1 hs.2
    have ef := hW.2.1 first hf0.1 hf0.2
    have eu := hC.2.2.1
    have el := hW.1.2.2.2
    have fl : Fr (DY x0 y) M (dsSet M (x0 + 8) y (dsw (M (x0 + 8) y + r))) := Fr_set Fr_refl (by unfold DY; omega)
    rw [dsDrkN] at K
    by_cases hr : r ≤ 0
    · rw [if_pos hr] at K
      have K' := K _ (CF_lose hC) fl
      refine r14_7 (k1 := fun q1 => ?_) (k2 := fun _ _ => K') (k3 := fun q1 q2 => ?_) (hA1 := fun q1 q2 => ?_) (k4 := fun q1 q2 => ?_) (k5 := fun q1 q2 => ?_) (k6 := fun q1 q2 => ?_) (k7 := fun q1 q2 => ?_) (hA2 := fun q1 q2 => ?_) (k8 := fun q1 q2 => ?_) (k9 := fun q1 q2 => ?_) (R1 := fun _ => True) (R2 := fun _ => True) (g1 := fun _ => 0) (g2 := fun _ => 0) <;> omega
    · rw [if_neg hr] at K
      by_cases hcm : s = first ∨ dsComes P first s
      · rw [if_pos hcm] at K
        by_cases hb : dsBit (sU S) (pOn P s) ∧ pAl P s = true
        · rw [if_pos hb] at K
          have hw := WS_pour hP hS hs hk hr0
          have go : ∀ M', CF M' x0 y P (dsPour P S s k r).1 ∧ Fr (DY x0 y) M M' → bB 14 7 [uR 5 x0, uI y, uI first, uI k, uX 0, uI (dsPour P S s k r).2, uI (s + 1)] [] M' Q := by
            intro M' hM
            exact drink_1 hP hx hy hk hf0 j (s + 1) _ _ M' (by omega) (by omega) (by omega) hw.2.1 (by omega) (CW_fr hx hW hM.2) hM.1 hw.1 (fun M2 c2 f2 => K M2 c2 (Fr_trans hM.2 f2))
          have hb1 : dsAnd (dsShr (M (x0 + 7) (y + 1)) (M 29 s)) 1 = 1 := by rw [eu, es.2.2.1]; exact hb.1
          have hb2 : dsAnd (dsShr (M (x0 + 1) 4) s) 1 = 1 := es.2.2.2.2 hb.2
          refine r14_7 (k1 := fun q1 => ?_) (k2 := fun q1 q2 => ?_) (k3 := fun q1 q2 q3 q4 => absurd hb1 q4) (hA1 := fun q1 q2 q3 q4 q5 => pour_ct hP hx hW hC hS hy hs hk ⟨hr0, hr1⟩) (k4 := fun q1 q2 q3 q4 q5 M1 r1 => go M1 r1) (k5 := fun q1 q2 q3 q4 q5 => absurd hb2 q5) (k6 := fun q1 q2 q3 q4 => ?_) (k7 := fun q1 q2 q3 q4 q5 => absurd hb1 q5) (hA2 := fun q1 q2 q3 q4 q5 q6 => pour_ct hP hx hW hC hS hy hs hk ⟨hr0, hr1⟩) (k8 := fun q1 q2 q3 q4 q5 q6 M1 r1 => go M1 r1) (k9 := fun q1 q2 q3 q4 q5 q6 => absurd hb2 q6)
          · omega
          · omega
          · rw [el, ef.2.2.1, es.2.2.1] at q4
            rcases hcm with e | e
            · omega
            · exact absurd e q4
        · rw [if_neg hb] at K
          have K' := K _ (CF_lose hC) fl
          have hb3 : dsAnd (dsShr (M (x0 + 7) (y + 1)) (M 29 s)) 1 = 1 → dsAnd (dsShr (M (x0 + 1) 4) s) 1 = 1 → False := by
            intro g1 g2
            rw [eu, es.2.2.1] at g1
            exact hb ⟨g1, es.2.2.2.1 g2⟩
          refine r14_7 (k1 := fun q1 => ?_) (k2 := fun q1 q2 => ?_) (k3 := fun q1 q2 q3 q4 => K') (hA1 := fun q1 q2 q3 q4 q5 => (hb3 q4 q5).elim) (k4 := fun q1 q2 q3 q4 q5 => (hb3 q4 q5).elim) (k5 := fun q1 q2 q3 q4 q5 => K') (k6 := fun q1 q2 q3 q4 => ?_) (k7 := fun q1 q2 q3 q4 q5 => K') (hA2 := fun q1 q2 q3 q4 q5 q6 => (hb3 q5 q6).elim) (k8 := fun q1 q2 q3 q4 q5 q6 => (hb3 q5 q6).elim) (k9 := fun q1 q2 q3 q4 q5 q6 => K') (R1 := fun _ => True) (R2 := fun _ => True) (g1 := fun _ => 0) (g2 := fun _ => 0)
          · omega
          · omega
          · rw [el, ef.2.2.1, es.2.2.1] at q4
            rcases hcm with e | e
            · omega
            · exact absurd e q4
      · rw [if_neg hcm] at K
        have hcm2 : ¬ (M x0 14 = 2 ∨ (M x0 14 = 1 ∧ M 29 first = M 29 s)) := by
          rw [el, ef.2.2.1, es.2.2.1]; exact fun e => hcm (Or.inr e)
        have hne : ¬ s = first := fun e => hcm (Or.inl e)
        refine r14_7 (k1 := fun q1 => ?_) (k2 := fun q1 q2 => ?_) (k3 := fun q1 q2 q3 => absurd q3 hne) (hA1 := fun q1 q2 q3 => absurd q3 hne) (k4 := fun q1 q2 q3 => absurd q3 hne) (k5 := fun q1 q2 q3 => absurd q3 hne) (k6 := fun q1 q2 q3 q4 => ?_) (k7 := fun q1 q2 q3 q4 => absurd q4 hcm2) (hA2 := fun q1 q2 q3 q4 => absurd q4 hcm2) (k8 := fun q1 q2 q3 q4 => absurd q4 hcm2) (k9 := fun q1 q2 q3 q4 => absurd q4 hcm2) (R1 := fun _ => True) (R2 := fun _ => True) (g1 := fun _ => 0) (g2 := fun _ => 0)
        · omega
        · omega
        · exact drink_1 hP hx hy hk hf0 j (s + 1) r S M (by omega) (by omega) (by omega) hr0 hr1 hW hC hS K
theorem drink_ct {M : dsMem} {x0 y k n first : Int} {P : dsP} {S : dsS} (hP : POK P) (hx : x0 = 47 ∨ x0 = 62) (hy : 0 ≤ y ∧ y < 12) (hk : 1 ≤ k ∧ k ≤ 5) (hf0 : 0 ≤ first ∧ first < pN P) (hn : 0 ≤ n ∧ n ≤ 80) (hW : CW M x0 P) (hC : CF M x0 y P S) (hS : WS P S) :
    bCt 14 [uR 5 x0, uI y, uI first, uI k, uI n, uX 0, uX 0] M (fun _ => []) (fun M' => CF M' x0 y P (dsDrink P S first k n) ∧ Fr (DY x0 y) M M') := by
  intro Q hQ
  refine r14_0 ?_
  exact drink_1 hP hx hy hk hf0 _ first n S M rfl (by omega) (by omega) hn.1 hn.2 hW hC hS (fun M' c f => hQ M' ⟨c, f⟩)
