/-! questions: one stone in one year -/
theorem q_pos {c : Prop} [Decidable c] {Q : bQT} {a b v : Int} {M : dsMem} (hc : c) (e : v = a) (h : Q [uI (if c then a else b)] M) : Q [uI v] M := by
  rw [if_pos hc] at h; rw [e]; exact h
theorem q_neg {c : Prop} [Decidable c] {Q : bQT} {a b : Int} {M : dsMem} (hc : ¬ c) (h : Q [uI (if c then a else b)] M) : Q [uI b] M := by
  rw [if_neg hc] at h; exact h
theorem q_eq {Q : bQT} {a v : Int} {M : dsMem} (e : v = a) (h : Q [uI a] M) : Q [uI v] M := e ▸ h
theorem q_eqJ {Q : bQT} {a v : Int} {M : dsMem} (e : v = a) (h : Q [uJ a] M) : Q [uJ v] M := e ▸ h
theorem if01_0 {c : Prop} [Decidable c] (h : (if c then (1 : Int) else 0) = 0) : ¬ c := by
  intro q; rw [if_pos q] at h; omega
theorem if01_1 {c : Prop} [Decidable c] (h : ¬ (if c then (1 : Int) else 0) = 0) : c := by
  by_cases q : c
  · exact q
  · rw [if_neg q] at h; omega
theorem dsIter_congrI {α : Type} (I : Int → α → Prop) {f g : Int → α → α} {n : Int} (i : Int) (a : α) (h0 : I i a) (h : ∀ j b, i ≤ j → j < n → I j b → f j b = g j b ∧ I (j + 1) (g j b)) : dsIter f i n a = dsIter g i n a := by
  revert a h h0
  refine ds_ind (P := fun i => ∀ a, I i a → (∀ j b, i ≤ j → j < n → I j b → f j b = g j b ∧ I (j + 1) (g j b)) → dsIter f i n a = dsIter g i n a) n ?_ ?_ i
  · intro i h a _ _; rw [dsIter_end h, dsIter_end h]
  · intro i h ih a h0 hh
    have e := hh i a (by omega) h h0
    rw [dsIter_step h, dsIter_step h, e.1]
    exact ih _ e.2 (fun j b h1 h2 => hh j b (by omega) h2)
theorem dsOr_0 {a : Int} (h : dsw a = a) : dsOr a 0 = a := by
  have e : dsOr a 0 = dsw a := by
    unfold dsOr dsw
    rw [show Int32.ofInt 0 = 0 from rfl, Int32.or_zero]
  rw [e, h]
theorem dsOr_w (a b : Int) : dsw (dsOr a b) = dsOr a b := by
  unfold dsOr dsw
  rw [ds_o32]
theorem iter_or {c : Int → Prop} [DecidablePred c] {f : Int → Int} {n : Int} (i a : Int) (h : dsw a = a) : dsIter (fun s a => if c s then dsOr a (f s) else dsOr a 0) i n a = dsIter (fun s a => if c s then dsOr a (f s) else a) i n a := by
  refine dsIter_congrI (fun _ b => dsw b = b) i a h ?_
  intro j b j0 j1 hb
  by_cases hc : c j
  · rw [if_pos hc, if_pos hc]; exact ⟨rfl, dsOr_w _ _⟩
  · rw [if_neg hc, if_neg hc]; exact ⟨dsOr_0 hb, hb⟩
theorem iter_w0 {c : Int → Prop} [DecidablePred c] {f : Int → Int} {n : Int} (i a : Int) (h : dsw a = a) : dsIter (fun s a => if c s then dsw (a + f s) else dsw (a + 0)) i n a = dsIter (fun s a => if c s then dsw (a + f s) else a) i n a := by
  refine dsIter_congrI (fun _ b => dsw b = b) i a h ?_
  intro j b j0 j1 hb
  by_cases hc : c j
  · rw [if_pos hc, if_pos hc]; exact ⟨rfl, dsw_dsw _⟩
  · rw [if_neg hc, if_neg hc, Int.add_zero]; exact ⟨hb, hb⟩
section
variable {M : dsMem} {W : dsW} {y s w i k : Int}
theorem cfr (h : CN M W) : FR M 47 (P0 W) := by
  rcases h.1.2.2.2.1 with d | d
  · have := h.2; omega
  · exact d.2
theorem cN5 (h : CI M W) : M 24 5 = wN W := h.2.1.1.2.2.2.2.2
theorem cY1 (h : CI M W) : M 24 1 = wY W := h.2.1.1.2.1
theorem cW4 (h : CI M W) : M 24 4 = wW W := h.2.1.1.2.2.2.2.1
theorem cL0 (h : CI M W) : M 24 0 = wLn W := h.2.1.1.1
theorem rN4 (h : RI0 M W) : M 85 4 = wN W := h.2.1.2.2.2.2.1
theorem rY0 (h : RI0 M W) : M 85 0 = wY W := h.2.1.1
theorem rW3 (h : RI0 M W) : M 85 3 = wW W := h.2.1.2.2.2.1
theorem cH (h : CN M W) (hy : 0 ≤ y ∧ y ≤ wY W) (hs : 0 ≤ s ∧ s < wN W) : M 52 (y * 6 + s) = aH (P0 W) y s := FR_H (cfr h) hy hs
theorem cD (h : CN M W) (hy : 0 ≤ y ∧ y ≤ wY W) (hs : 0 ≤ s ∧ s < wN W) : M 51 (y * 6 + s) = ((aL (P0 W) y s).length : Int) := FR_D (cfr h) hy hs
theorem cLy (h : CN M W) (hy : 0 ≤ y ∧ y ≤ wY W) (hs : 0 ≤ s ∧ s < wN W) (h0 : 0 ≤ i) (h1 : i < ((aL (P0 W) y s).length : Int)) : M 49 ((y * 6 + s) * 60 + i) = (dyG (aL (P0 W) y s) i).1 ∧ M 50 ((y * 6 + s) * 60 + i) = (dyG (aL (P0 W) y s) i).2 := FR_L (cfr h) hy hs h0 h1
theorem cU (h : CN M W) (hy : 0 ≤ y ∧ y ≤ wY W) : M 54 y = sU (stP (P0 W) y) := FR_U (cfr h) hy
theorem cK (h : CN M W) (hy : 0 ≤ y ∧ y ≤ wY W) (hw : 0 ≤ w ∧ w < 3) : M 53 (y * 3 + w) = sK (stP (P0 W) y) w := FR_K (cfr h) hy hw
theorem cX (h : CN M W) (hy : 0 ≤ y ∧ y < wY W) : M 55 y = dsw (sX (stP (P0 W) (y + 1))) ∧ M 56 y = dsw (sH (stP (P0 W) (y + 1))) := FR_X (cfr h) hy
theorem rH (h : RN M W) (hy : 0 ≤ y ∧ y ≤ wY W) (hs : 0 ≤ s ∧ s < wN W) : M 102 (6 * y + s) = aH (P0 W) y s := RR_H h.2.2 hy hs
theorem rD (h : RN M W) (hy : 0 ≤ y ∧ y ≤ wY W) (hs : 0 ≤ s ∧ s < wN W) : M 103 (6 * y + s) = ((aL (P0 W) y s).length : Int) := RR_D h.2.2 hy hs
theorem rLy (h : RN M W) (hy : 0 ≤ y ∧ y ≤ wY W) (hs : 0 ≤ s ∧ s < wN W) (h0 : 0 ≤ i) (h1 : i < ((aL (P0 W) y s).length : Int)) : M 104 (60 * (6 * y + s) + i) = (dyG (aL (P0 W) y s) i).1 ∧ M 105 (60 * (6 * y + s) + i) = (dyG (aL (P0 W) y s) i).2 := RR_L h.2.2 hy hs h0 h1
theorem rU (h : RN M W) (hy : 0 ≤ y ∧ y ≤ wY W) : M 107 y = sU (stP (P0 W) y) := RR_U h.2.2 hy
theorem rK (h : RN M W) (hy : 0 ≤ y ∧ y ≤ wY W) (hw : 0 ≤ w ∧ w < wW W) : M 106 (3 * y + w) = sK (stP (P0 W) y) w := RR_K h.2.2 hy hw
theorem rX (h : RN M W) (hy : 0 ≤ y ∧ y < wY W) : M 101 y = dsw (sX (stP (P0 W) (y + 1))) ∧ M 100 y = dsw (sH (stP (P0 W) (y + 1))) := RR_X h.2.2 hy
/-- bounds of what a stone has -/
theorem aB (hW : WOK W) (hs0 : WS (P0 W) (stP (P0 W) y)) (hs : 0 ≤ s ∧ s < wN W) : 0 ≤ aH (P0 W) y s ∧ aH (P0 W) y s ≤ wRo W s ∧ aH (P0 W) y s ≤ 60 ∧ ((aL (P0 W) y s).length : Int) ≤ 60 ∧ 0 ≤ ((aL (P0 W) y s).length : Int) := by
  have h := hs0 s hs.1 hs.2
  have h1 := dySum_nn h.1
  have h2 := dySum_len h.1
  have h3 : dySum (sL (stP (P0 W) y) s) ≤ wRo W s := h.2
  have h4 := hW.2.2.1 s hs.1 hs.2
  exact ⟨h1, h3, Int.le_trans h3 (by omega), Int.le_trans h2 (Int.le_trans h3 (by omega)), by omega⟩
theorem cB (h : CN M W) (hy : 0 ≤ y ∧ y ≤ wY W) (hs : 0 ≤ s ∧ s < wN W) : 0 ≤ aH (P0 W) y s ∧ aH (P0 W) y s ≤ wRo W s ∧ aH (P0 W) y s ≤ 60 ∧ ((aL (P0 W) y s).length : Int) ≤ 60 ∧ 0 ≤ ((aL (P0 W) y s).length : Int) := aB h.1.1 (FR_y (cfr h) hy).2 hs
theorem rB (h : RN M W) (hy : 0 ≤ y ∧ y ≤ wY W) (hs : 0 ≤ s ∧ s < wN W) : 0 ≤ aH (P0 W) y s ∧ aH (P0 W) y s ≤ wRo W s ∧ aH (P0 W) y s ≤ 60 ∧ ((aL (P0 W) y s).length : Int) ≤ 60 ∧ 0 ≤ ((aL (P0 W) y s).length : Int) := aB h.1.1 (RR_y h.2.2 hy).2 hs
end
-- wall, stone, rain, stones
def aWall (W : dsW) (w x : Int) : Int := if (0 ≤ w ∧ w ≤ wW W - 1) ∧ 0 ≤ x ∧ x ≤ 1 then (if x = 0 then wBe W w else wGi W w) else -2
theorem cq73 {M : dsMem} {W : dsW} {w x : Int} (h : CI M W) : bCt 73 [uR 10 0, uI w, uI x] M (fun _ => [uI (aWall W w x)]) (fun M' => CI M' W ∧ Fr CQ M M') := by
  intro Q hQ
  have b := CI_b h
  have hn := asNow_ct h
  have hc := h.2.1.2.1 w
  refine r73_0 (k1 := fun q => q_neg (by omega) (hQ M ⟨h, Fr_refl⟩)) (k2 := fun q q2 q3 => q_pos (by omega) ?_ (hQ M ⟨h, Fr_refl⟩)) (k3 := fun q q2 q3 => q_pos (by omega) ?_ (hQ M ⟨h, Fr_refl⟩)) (k4 := fun q q2 => q_neg (by omega) (hQ M ⟨h, Fr_refl⟩))
  · rw [if_neg q3]; exact (hc q.1 (by omega)).2
  · rw [if_pos q3]; exact (hc q.1 (by omega)).1
theorem rq215 {M : dsMem} {W : dsW} {w x : Int} (h : RI0 M W) : bCt 215 [uR 11 84, uI w, uI x] M (fun _ => [uI (aWall W w x)]) (fun M' => RI0 M' W ∧ Fr RQ M M') := by
  intro Q hQ
  have b := RI_b h
  have hc := h.2.2.1 w
  refine r215_0 (k1 := fun q => q_neg (by omega) (hQ M ⟨h, Fr_refl⟩)) (k2 := fun q q2 => q_neg (by omega) (hQ M ⟨h, Fr_refl⟩)) (k3 := fun q q2 => q_pos (by omega) ?_ (hQ M ⟨h, Fr_refl⟩))
  by_cases q3 : x = 0
  · rw [if_pos q3, q3, Int.add_zero]; exact (hc q.1 (by omega)).1
  · rw [if_neg q3, show x = 1 by omega]; exact (hc q.1 (by omega)).2
def aStone (W : dsW) (s x : Int) : Int := if (0 ≤ s ∧ s ≤ wN W - 1) ∧ 0 ≤ x ∧ x ≤ 2 then (if x = 0 then wRo W s else if x = 1 then wWi W s else wOn W s) else -2
theorem cq74 {M : dsMem} {W : dsW} {s x : Int} (h : CI M W) : bCt 74 [uR 10 0, uI s, uI x] M (fun _ => [uI (aStone W s x)]) (fun M' => CI M' W ∧ Fr CQ M M') := by
  intro Q hQ
  have b := CI_b h
  have hn := asNow_ct h
  have hc := h.2.1.2.2.1 s
  refine r74_0 (k1 := fun q => q_neg (by omega) (hQ M ⟨h, Fr_refl⟩)) (k2 := fun q q2 q3 q4 => q_pos (by omega) ?_ (hQ M ⟨h, Fr_refl⟩)) (k3 := fun q q2 q3 q4 => q_pos (by omega) ?_ (hQ M ⟨h, Fr_refl⟩)) (k4 := fun q q2 q3 => q_pos (by omega) ?_ (hQ M ⟨h, Fr_refl⟩)) (k5 := fun q q2 => q_neg (by omega) (hQ M ⟨h, Fr_refl⟩))
  · rw [if_neg q3, if_neg q4]; exact (hc q.1 (by omega)).2.2
  · rw [if_neg q3, if_pos q4]; exact (hc q.1 (by omega)).2.1
  · rw [if_pos q3]; exact (hc q.1 (by omega)).1
theorem rq216 {M : dsMem} {W : dsW} {s x : Int} (h : RI0 M W) : bCt 216 [uR 11 84, uI s, uI x] M (fun _ => [uI (aStone W s x)]) (fun M' => RI0 M' W ∧ Fr RQ M M') := by
  intro Q hQ
  have b := RI_b h
  have hc := h.2.2.2.1 s
  refine r216_0 (k1 := fun q => q_neg (by omega) (hQ M ⟨h, Fr_refl⟩)) (k2 := fun q q2 => q_neg (by omega) (hQ M ⟨h, Fr_refl⟩)) (k3 := fun q q2 => q_pos (by omega) ?_ (hQ M ⟨h, Fr_refl⟩))
  by_cases q3 : x = 0
  · rw [if_pos q3, q3, Int.add_zero]; exact (hc q.1 (by omega)).1
  · rw [if_neg q3]
    by_cases q4 : x = 1
    · rw [if_pos q4, q4]; exact (hc q.1 (by omega)).2.1
    · rw [if_neg q4, show x = 2 by omega]; exact (hc q.1 (by omega)).2.2
def aRain (W : dsW) (s x : Int) : Int := if (0 ≤ s ∧ s ≤ evN (wR W) - 1) ∧ 0 ≤ x ∧ x ≤ 2 then (if x = 0 then evM (wR W) s else if x = 1 then evO (wR W) s else evY (wR W) s) else -2
theorem cq75 {M : dsMem} {W : dsW} {s x : Int} (h : CI M W) : bCt 75 [uR 10 0, uI s, uI x] M (fun _ => [uI (aRain W s x)]) (fun M' => CI M' W ∧ Fr CQ M M') := by
  intro Q hQ
  have b := CI_b h
  have hn := asNow_ct h
  have hc := h.2.1.2.2.2.1.2 s
  refine r75_0 (k1 := fun q => q_neg (by omega) (hQ M ⟨h, Fr_refl⟩)) (k2 := fun q q2 q3 q4 => q_pos (by omega) ?_ (hQ M ⟨h, Fr_refl⟩)) (k3 := fun q q2 q3 q4 => q_pos (by omega) ?_ (hQ M ⟨h, Fr_refl⟩)) (k4 := fun q q2 q3 => q_pos (by omega) ?_ (hQ M ⟨h, Fr_refl⟩)) (k5 := fun q q2 => q_neg (by omega) (hQ M ⟨h, Fr_refl⟩))
  · rw [if_neg q3, if_neg q4]; exact (hc q.1 (by omega)).2.2.2
  · rw [if_neg q3, if_pos q4]; exact (hc q.1 (by omega)).2.1
  · rw [if_pos q3]; exact (hc q.1 (by omega)).2.2.1
theorem rq217 {M : dsMem} {W : dsW} {s x : Int} (h : RI0 M W) : bCt 217 [uR 11 84, uI s, uI x] M (fun _ => [uI (aRain W s x)]) (fun M' => RI0 M' W ∧ Fr RQ M M') := by
  intro Q hQ
  have b := RI_b h
  have hc := h.2.2.2.2.1 s
  refine r217_0 (k1 := fun q => q_neg (by omega) (hQ M ⟨h, Fr_refl⟩)) (k2 := fun q q2 => q_neg (by omega) (hQ M ⟨h, Fr_refl⟩)) (k3 := fun q q2 => q_pos (by omega) ?_ (hQ M ⟨h, Fr_refl⟩))
  by_cases q3 : x = 0
  · rw [if_pos q3, q3, Int.add_zero]; exact (hc q.1 (by omega)).1
  · rw [if_neg q3]
    by_cases q4 : x = 1
    · rw [if_pos q4, q4]; exact (hc q.1 (by omega)).2.1
    · rw [if_neg q4, show x = 2 by omega]; exact (hc q.1 (by omega)).2.2
def aStones (W : dsW) (w : Int) : Int := if 0 ≤ w ∧ w ≤ wW W - 1 then dsIter (fun s a => if wOn W s = w then dsOr a (dsShl 1 s) else a) 0 (wN W) 0 else -2
theorem cq76 {M : dsMem} {W : dsW} {w : Int} (h : CI M W) : bCt 76 [uR 10 0, uI w, uX 0, uX 0] M (fun _ => [uI (aStones W w)]) (fun M' => CI M' W ∧ Fr CQ M M') := by
  intro Q hQ
  have b := CI_b h
  have hn := asNow_ct h
  refine r76_0 (k2 := fun q => q_neg (by omega) (hQ M ⟨h, Fr_refl⟩)) (k1 := fun q => q_pos (by omega) ?_ (hQ M ⟨h, Fr_refl⟩))
  rw [cN5 h]
  exact dsIter_congr _ _ (fun j c j0 j1 => by rw [(h.2.1.2.2.1 j j0 j1).2.2])
theorem rq219 {M : dsMem} {W : dsW} {w : Int} (h : RI0 M W) : bCt 219 [uR 11 84, uI w] M (fun _ => [uI (aStones W w)]) (fun M' => RI0 M' W ∧ Fr RQ M M') := by
  intro Q hQ
  have b := RI_b h
  refine r219_0 (k1 := fun q => q_neg (by omega) (hQ M ⟨h, Fr_refl⟩)) (k2 := fun q => q_pos (by omega) ?_ (hQ M ⟨h, Fr_refl⟩))
  unfold v218
  rw [rN4 h, iter_or _ _ rfl]
  exact dsIter_congr _ _ (fun j c j0 j1 => by rw [(h.2.2.2.1 j j0 j1).2.2])
-- values of layers
def lSo (l : dsL) (k : Int) : Int := dsIter (fun i a => if (dyG l i).1 = k then dsw (a + (dyG l i).2) else a) 0 (l.length : Int) 0
def lTh (l : dsL) : Int := dsIter (fun i a => if a < (dyG l i).2 then (dyG l i).2 else a) 0 (l.length : Int) 0
def lBi (l : dsL) : Int := dsIter (fun i a => dsOr a (dsShl 1 (dyG l i).1)) 0 (l.length : Int) 0
section
variable {M : dsMem} {W : dsW} {y s w i k : Int}
theorem c25 (h : CN M W) (hy : 0 ≤ y ∧ y ≤ wY W) (hs : 0 ≤ s ∧ s < wN W) : v25 M 47 (y * 6 + s) k = lSo (aL (P0 W) y s) k := by
  unfold v25 lSo
  show dsIter _ 0 (M 51 (y * 6 + s)) 0 = _
  rw [cD h hy hs]
  refine dsIter_congr _ _ (fun i a i0 i1 => ?_)
  have e := cLy h hy hs i0 i1
  show (if M 49 ((y * 6 + s) * 60 + i) = k then dsw (a + M 50 ((y * 6 + s) * 60 + i)) else a) = _
  rw [e.1, e.2]
theorem c26 (h : CN M W) (hy : 0 ≤ y ∧ y ≤ wY W) (hs : 0 ≤ s ∧ s < wN W) : v26 M 47 (y * 6 + s) = lTh (aL (P0 W) y s) := by
  unfold v26 lTh
  show dsIter _ 0 (M 51 (y * 6 + s)) 0 = _
  rw [cD h hy hs]
  refine dsIter_congr _ _ (fun i a i0 i1 => ?_)
  have e := cLy h hy hs i0 i1
  show (if a < M 50 ((y * 6 + s) * 60 + i) then M 50 ((y * 6 + s) * 60 + i) else a) = _
  rw [e.2]
theorem c27 (h : CN M W) (hy : 0 ≤ y ∧ y ≤ wY W) (hs : 0 ≤ s ∧ s < wN W) : v27 M 47 (y * 6 + s) = lBi (aL (P0 W) y s) := by
  unfold v27 lBi
  show dsIter _ 0 (M 51 (y * 6 + s)) 0 = _
  rw [cD h hy hs]
  refine dsIter_congr _ _ (fun i a i0 i1 => ?_)
  have e := cLy h hy hs i0 i1
  show dsOr a (dsShl 1 (M 49 ((y * 6 + s) * 60 + i))) = _
  rw [e.1]
theorem r248 (h : RN M W) (hy : 0 ≤ y ∧ y ≤ wY W) (hs : 0 ≤ s ∧ s < wN W) : v248 M s y k = lSo (aL (P0 W) y s) k := by
  unfold v248 lSo
  rw [iter_w0 _ _ rfl, rD h hy hs]
  refine dsIter_congr _ _ (fun i a i0 i1 => ?_)
  have e := rLy h hy hs i0 i1
  rw [e.1, e.2]
theorem c24 (h : CN M W) (hy : 0 ≤ y ∧ y ≤ wY W) : v24 M 47 y = wTot (P0 W) y := by
  unfold v24 wTot
  rw [cN5 h.1]
  refine dsIter_congr _ _ (fun i a i0 i1 => ?_)
  show dsw (a + M 52 (y * 6 + i)) = _
  rw [cH h hy ⟨i0, i1⟩]
theorem r242 (h : RN M W) (hy : 0 ≤ y ∧ y ≤ wY W) : v242 M y = wTot (P0 W) y := by
  unfold v242 wTot
  rw [rN4 h.1]
  refine dsIter_congr _ _ (fun i a i0 i1 => ?_)
  rw [rH h hy ⟨i0, i1⟩]
theorem cRo (h : CI M W) (hs : 0 ≤ s ∧ s < wN W) : M 27 s = wRo W s := (h.2.1.2.2.1 s hs.1 hs.2).1
theorem cOn (h : CI M W) (hs : 0 ≤ s ∧ s < wN W) : M 29 s = wOn W s := (h.2.1.2.2.1 s hs.1 hs.2).2.2
theorem rRo (h : RI0 M W) (hs : 0 ≤ s ∧ s < wN W) : M 85 (15 + 3 * s + 0) = wRo W s := by
  rw [Int.add_zero]; exact (h.2.2.2.1 s hs.1 hs.2).1
theorem rOn (h : RI0 M W) (hs : 0 ≤ s ∧ s < wN W) : M 85 (15 + 3 * s + 2) = wOn W s := (h.2.2.2.1 s hs.1 hs.2).2.2
end
-- has, layers, layer
def aHas (W : dsW) (s y : Int) : Int := if (0 ≤ s ∧ s ≤ wN W - 1) ∧ 0 < wLn W ∧ 0 ≤ y ∧ y ≤ wY W then aH (P0 W) y s else -2
theorem cq77 {M : dsMem} {W : dsW} {s y : Int} (h : CI M W) : bCt 77 [uR 10 0, uI s, uI y] M (fun _ => [uI (aHas W s y)]) (fun M' => CI M' W ∧ Fr CQ M M') := by
  intro Q hQ
  have b := CI_b h
  refine r77_0 (hA1 := fun _ => asNow_ct h) (k1 := fun q1 => ?k1) (s2 := fun q1 M1 rr1 => ?s2) (s3 := fun q1 M1 rr1 => ?s3) (k2 := fun q1 M1 rr1 => ?k2)
  case k1 =>
    refine q_eq ?_ (hQ M ⟨h, Fr_refl⟩)
    unfold aHas; rw [if_neg (by omega)]
  case s2 =>
    have b1 := CI_b rr1.1.1
    omega
  case s3 =>
    have b1 := CI_b rr1.1.1
    omega
  case k2 =>
    have b1 := CI_b rr1.1.1
    refine q_eq ?_ (hQ M1 ⟨rr1.1.1, rr1.2⟩)
    unfold aHas; rw [if_pos (by omega)]; exact cH rr1.1 (by omega) (by omega)
theorem rq245 {M : dsMem} {W : dsW} {s y : Int} (h : RI0 M W) : bCt 245 [uR 11 84, uI s, uI y] M (fun _ => [uI (aHas W s y)]) (fun M' => RI0 M' W ∧ Fr RQ M M') := by
  intro Q hQ
  have b := RI_b h
  refine r245_0 (hA1 :=  asksYear_ct h) (k1 := fun M1 rr1 q1 => ?k1) (s1 := fun M1 rr1 q1 => ?s1) (k2 := fun M1 rr1 q1 q2 => ?k2) (s2 := fun M1 rr1 q1 q2 => ?s2) (k3 := fun M1 rr1 q1 q2 => ?k3)
  case k1 =>
    have b1 := RI_b rr1.1.1
    have z1 := if01_0 q1
    refine q_eq ?_ (hQ M1 ⟨rr1.1.1, rr1.2⟩)
    unfold aHas; rw [if_neg (by omega)]
  case s1 =>
    have b1 := RI_b rr1.1.1
    have z1 := if01_1 q1
    omega
  case k2 =>
    have b1 := RI_b rr1.1.1
    have z1 := if01_1 q1
    refine q_eq ?_ (hQ M1 ⟨rr1.1.1, rr1.2⟩)
    unfold aHas; rw [if_neg (by omega)]
  case s2 =>
    have b1 := RI_b rr1.1.1
    have z1 := if01_1 q1
    omega
  case k3 =>
    have b1 := RI_b rr1.1.1
    have z1 := if01_1 q1
    refine q_eq ?_ (hQ M1 ⟨rr1.1.1, rr1.2⟩)
    unfold aHas; rw [if_pos (by omega)]; exact rH rr1.1 (by omega) (by omega)
def aLys (W : dsW) (s y : Int) : Int := if (0 ≤ s ∧ s ≤ wN W - 1) ∧ 0 < wLn W ∧ 0 ≤ y ∧ y ≤ wY W then ((aL (P0 W) y s).length : Int) else -2
theorem cq78 {M : dsMem} {W : dsW} {s y : Int} (h : CI M W) : bCt 78 [uR 10 0, uI s, uI y] M (fun _ => [uI (aLys W s y)]) (fun M' => CI M' W ∧ Fr CQ M M') := by
  intro Q hQ
  have b := CI_b h
  refine r78_0 (hA1 := fun _ => asNow_ct h) (k1 := fun q1 => ?k1) (s2 := fun q1 M1 rr1 => ?s2) (s3 := fun q1 M1 rr1 => ?s3) (k2 := fun q1 M1 rr1 => ?k2)
  case k1 =>
    refine q_eq ?_ (hQ M ⟨h, Fr_refl⟩)
    unfold aLys; rw [if_neg (by omega)]
  case s2 =>
    have b1 := CI_b rr1.1.1
    omega
  case s3 =>
    have b1 := CI_b rr1.1.1
    omega
  case k2 =>
    have b1 := CI_b rr1.1.1
    refine q_eq ?_ (hQ M1 ⟨rr1.1.1, rr1.2⟩)
    unfold aLys; rw [if_pos (by omega)]; exact cD rr1.1 (by omega) (by omega)
theorem rq246 {M : dsMem} {W : dsW} {s y : Int} (h : RI0 M W) : bCt 246 [uR 11 84, uI s, uI y] M (fun _ => [uI (aLys W s y)]) (fun M' => RI0 M' W ∧ Fr RQ M M') := by
  intro Q hQ
  have b := RI_b h
  refine r246_0 (hA1 :=  asksYear_ct h) (k1 := fun M1 rr1 q1 => ?k1) (s1 := fun M1 rr1 q1 => ?s1) (k2 := fun M1 rr1 q1 q2 => ?k2) (s2 := fun M1 rr1 q1 q2 => ?s2) (k3 := fun M1 rr1 q1 q2 => ?k3)
  case k1 =>
    have b1 := RI_b rr1.1.1
    have z1 := if01_0 q1
    refine q_eq ?_ (hQ M1 ⟨rr1.1.1, rr1.2⟩)
    unfold aLys; rw [if_neg (by omega)]
  case s1 =>
    have b1 := RI_b rr1.1.1
    have z1 := if01_1 q1
    omega
  case k2 =>
    have b1 := RI_b rr1.1.1
    have z1 := if01_1 q1
    refine q_eq ?_ (hQ M1 ⟨rr1.1.1, rr1.2⟩)
    unfold aLys; rw [if_neg (by omega)]
  case s2 =>
    have b1 := RI_b rr1.1.1
    have z1 := if01_1 q1
    omega
  case k3 =>
    have b1 := RI_b rr1.1.1
    have z1 := if01_1 q1
    refine q_eq ?_ (hQ M1 ⟨rr1.1.1, rr1.2⟩)
    unfold aLys; rw [if_pos (by omega)]; exact rD rr1.1 (by omega) (by omega)
def aLyr (W : dsW) (s y i x : Int) : Int := if ((0 ≤ s ∧ s ≤ wN W - 1) ∧ 0 < wLn W ∧ 0 ≤ y ∧ y ≤ wY W) ∧ 0 ≤ x ∧ x ≤ 1 then (if 0 ≤ i ∧ i ≤ ((aL (P0 W) y s).length : Int) - 1 then (if x = 0 then (dyG (aL (P0 W) y s) i).1 else (dyG (aL (P0 W) y s) i).2) else -1) else -2
theorem cq79 {M : dsMem} {W : dsW} {s y i x : Int} (h : CI M W) : bCt 79 [uR 10 0, uI s, uI y, uI i, uI x, uX 0, uX 0] M (fun _ => [uI (aLyr W s y i x)]) (fun M' => CI M' W ∧ Fr CQ M M') := by
  intro Q hQ
  have b := CI_b h
  refine r79_0 (hA1 := fun _ _ => asNow_ct h) (k1 := fun q1 => ?k1) (s2 := fun q1 q2 M1 rr1 => ?s2) (s3 := fun q1 q2 M1 rr1 => ?s3) (s4 := fun q1 q2 M1 rr1 => ?s4) (s5 := fun q1 q2 M1 rr1 q3 q4 => ?s5) (k2 := fun q1 q2 M1 rr1 q3 q4 => ?k2) (s6 := fun q1 q2 M1 rr1 q3 q4 => ?s6) (k3 := fun q1 q2 M1 rr1 q3 q4 => ?k3) (k4 := fun q1 q2 M1 rr1 q3 => ?k4) (k5 := fun q1 q2 => ?k5)
  case k1 =>
    refine q_eq ?_ (hQ M ⟨h, Fr_refl⟩)
    unfold aLyr; rw [if_neg (by omega)]
  case s2 =>
    have b1 := CI_b rr1.1.1
    have hd := cD rr1.1 (y := y) (s := s) (by omega) (by omega); have hb := cB rr1.1 (y := y) (s := s) (by omega) (by omega); omega
  case s3 =>
    have b1 := CI_b rr1.1.1
    have hd := cD rr1.1 (y := y) (s := s) (by omega) (by omega); have hb := cB rr1.1 (y := y) (s := s) (by omega) (by omega); omega
  case s4 =>
    have b1 := CI_b rr1.1.1
    have hd := cD rr1.1 (y := y) (s := s) (by omega) (by omega); have hb := cB rr1.1 (y := y) (s := s) (by omega) (by omega); omega
  case s5 =>
    have b1 := CI_b rr1.1.1
    have hd := cD rr1.1 (y := y) (s := s) (by omega) (by omega); have hb := cB rr1.1 (y := y) (s := s) (by omega) (by omega); omega
  case k2 =>
    have b1 := CI_b rr1.1.1
    refine q_eq ?_ (hQ M1 ⟨rr1.1.1, rr1.2⟩)
    have hd := cD rr1.1 (y := y) (s := s) (by omega) (by omega)
    unfold aLyr; rw [if_pos (by omega), if_pos (by omega), if_neg q4]; exact (cLy rr1.1 (by omega) (by omega) (by omega) (by omega)).2
  case s6 =>
    have b1 := CI_b rr1.1.1
    have hd := cD rr1.1 (y := y) (s := s) (by omega) (by omega); have hb := cB rr1.1 (y := y) (s := s) (by omega) (by omega); omega
  case k3 =>
    have b1 := CI_b rr1.1.1
    refine q_eq ?_ (hQ M1 ⟨rr1.1.1, rr1.2⟩)
    have hd := cD rr1.1 (y := y) (s := s) (by omega) (by omega)
    unfold aLyr; rw [if_pos (by omega), if_pos (by omega), if_pos q4]; exact (cLy rr1.1 (by omega) (by omega) (by omega) (by omega)).1
  case k4 =>
    have b1 := CI_b rr1.1.1
    refine q_eq ?_ (hQ M1 ⟨rr1.1.1, rr1.2⟩)
    have hd := cD rr1.1 (y := y) (s := s) (by omega) (by omega)
    unfold aLyr; rw [if_pos (by omega), if_neg (by omega)]
  case k5 =>
    refine q_eq ?_ (hQ M ⟨h, Fr_refl⟩)
    unfold aLyr; rw [if_neg (by omega)]
theorem rq247 {M : dsMem} {W : dsW} {s y i x : Int} (h : RI0 M W) : bCt 247 [uR 11 84, uI s, uI y, uI i, uI x, uX 0] M (fun _ => [uI (aLyr W s y i x)]) (fun M' => RI0 M' W ∧ Fr RQ M M') := by
  intro Q hQ
  have b := RI_b h
  refine r247_0 (hA1 :=  asksYear_ct h) (k1 := fun M1 rr1 q1 => ?k1) (s1 := fun M1 rr1 q1 => ?s1) (k2 := fun M1 rr1 q1 q2 => ?k2) (s2 := fun M1 rr1 q1 q2 q3 => ?s2) (s3 := fun M1 rr1 q1 q2 q3 => ?s3) (s4 := fun M1 rr1 q1 q2 q3 => ?s4) (s5 := fun M1 rr1 q1 q2 q3 q4 q5 => ?s5) (k3 := fun M1 rr1 q1 q2 q3 q4 q5 => ?k3) (s6 := fun M1 rr1 q1 q2 q3 q4 q5 => ?s6) (k4 := fun M1 rr1 q1 q2 q3 q4 q5 => ?k4) (k5 := fun M1 rr1 q1 q2 q3 q4 => ?k5) (k6 := fun M1 rr1 q1 q2 q3 => ?k6)
  case k1 =>
    have b1 := RI_b rr1.1.1
    have z1 := if01_0 q1
    refine q_eq ?_ (hQ M1 ⟨rr1.1.1, rr1.2⟩)
    unfold aLyr; rw [if_neg (by omega)]
  case s1 =>
    have b1 := RI_b rr1.1.1
    have z1 := if01_1 q1
    omega
  case k2 =>
    have b1 := RI_b rr1.1.1
    have z1 := if01_1 q1
    refine q_eq ?_ (hQ M1 ⟨rr1.1.1, rr1.2⟩)
    unfold aLyr; rw [if_neg (by omega)]
  case s2 =>
    have b1 := RI_b rr1.1.1
    have z1 := if01_1 q1
    have hd := rD rr1.1 (y := y) (s := s) (by omega) (by omega); have hb := rB rr1.1 (y := y) (s := s) (by omega) (by omega); omega
  case s3 =>
    have b1 := RI_b rr1.1.1
    have z1 := if01_1 q1
    have hd := rD rr1.1 (y := y) (s := s) (by omega) (by omega); have hb := rB rr1.1 (y := y) (s := s) (by omega) (by omega); omega
  case s4 =>
    have b1 := RI_b rr1.1.1
    have z1 := if01_1 q1
    have hd := rD rr1.1 (y := y) (s := s) (by omega) (by omega); have hb := rB rr1.1 (y := y) (s := s) (by omega) (by omega); omega
  case s5 =>
    have b1 := RI_b rr1.1.1
    have z1 := if01_1 q1
    have hd := rD rr1.1 (y := y) (s := s) (by omega) (by omega); have hb := rB rr1.1 (y := y) (s := s) (by omega) (by omega); omega
  case k3 =>
    have b1 := RI_b rr1.1.1
    have z1 := if01_1 q1
    refine q_eq ?_ (hQ M1 ⟨rr1.1.1, rr1.2⟩)
    have hd := rD rr1.1 (y := y) (s := s) (by omega) (by omega)
    unfold aLyr; rw [if_pos (by omega), if_pos (by omega), if_neg q5]; exact (rLy rr1.1 (by omega) (by omega) (by omega) (by omega)).2
  case s6 =>
    have b1 := RI_b rr1.1.1
    have z1 := if01_1 q1
    have hd := rD rr1.1 (y := y) (s := s) (by omega) (by omega); have hb := rB rr1.1 (y := y) (s := s) (by omega) (by omega); omega
  case k4 =>
    have b1 := RI_b rr1.1.1
    have z1 := if01_1 q1
    refine q_eq ?_ (hQ M1 ⟨rr1.1.1, rr1.2⟩)
    have hd := rD rr1.1 (y := y) (s := s) (by omega) (by omega)
    unfold aLyr; rw [if_pos (by omega), if_pos (by omega), if_pos q5]; exact (rLy rr1.1 (by omega) (by omega) (by omega) (by omega)).1
  case k5 =>
    have b1 := RI_b rr1.1.1
    have z1 := if01_1 q1
    refine q_eq ?_ (hQ M1 ⟨rr1.1.1, rr1.2⟩)
    have hd := rD rr1.1 (y := y) (s := s) (by omega) (by omega)
    unfold aLyr; rw [if_pos (by omega), if_neg (by omega)]
  case k6 =>
    have b1 := RI_b rr1.1.1
    have z1 := if01_1 q1
    refine q_eq ?_ (hQ M1 ⟨rr1.1.1, rr1.2⟩)
    unfold aLyr; rw [if_neg (by omega)]
def aSrt (W : dsW) (s y k : Int) : Int := if ((0 ≤ s ∧ s ≤ wN W - 1) ∧ 0 < wLn W ∧ 0 ≤ y ∧ y ≤ wY W) ∧ 1 ≤ k ∧ k ≤ 5 then lSo (aL (P0 W) y s) k else -2
theorem cq80 {M : dsMem} {W : dsW} {s y k : Int} (h : CI M W) : bCt 80 [uR 10 0, uI s, uI y, uI k] M (fun _ => [uI (aSrt W s y k)]) (fun M' => CI M' W ∧ Fr CQ M M') := by
  intro Q hQ
  have b := CI_b h
  refine r80_0 (hA1 := fun _ _ => asNow_ct h) (k1 := fun q1 => ?k1) (s2 := fun q1 q2 M1 rr1 => ?s2) (s3 := fun q1 q2 M1 rr1 i25_1 a25_1 q3 q4 => ?s3) (s4 := fun q1 q2 M1 rr1 i25_1 a25_1 q3 q4 => ?s4) (s5 := fun q1 q2 M1 rr1 i25_1 a25_1 q3 q4 => ?s5) (s6 := fun q1 q2 M1 rr1 => ?s6) (k2 := fun q1 q2 M1 rr1 => ?k2) (k3 := fun q1 q2 => ?k3)
  case k1 =>
    refine q_eq ?_ (hQ M ⟨h, Fr_refl⟩)
    unfold aSrt; rw [if_neg (by omega)]
  case s2 =>
    have b1 := CI_b rr1.1.1
    have hd := cD rr1.1 (y := y) (s := s) (by omega) (by omega); have hb := cB rr1.1 (y := y) (s := s) (by omega) (by omega); omega
  case s3 =>
    have b1 := CI_b rr1.1.1
    have hd := cD rr1.1 (y := y) (s := s) (by omega) (by omega); have hb := cB rr1.1 (y := y) (s := s) (by omega) (by omega); omega
  case s4 =>
    have b1 := CI_b rr1.1.1
    have hd := cD rr1.1 (y := y) (s := s) (by omega) (by omega); have hb := cB rr1.1 (y := y) (s := s) (by omega) (by omega); omega
  case s5 =>
    have b1 := CI_b rr1.1.1
    have hd := cD rr1.1 (y := y) (s := s) (by omega) (by omega); have hb := cB rr1.1 (y := y) (s := s) (by omega) (by omega); omega
  case s6 =>
    have b1 := CI_b rr1.1.1
    have hd := cD rr1.1 (y := y) (s := s) (by omega) (by omega); have hb := cB rr1.1 (y := y) (s := s) (by omega) (by omega); omega
  case k2 =>
    have b1 := CI_b rr1.1.1
    refine q_eq ?_ (hQ M1 ⟨rr1.1.1, rr1.2⟩)
    unfold aSrt; rw [if_pos (by omega)]; exact c25 rr1.1 (by omega) (by omega)
  case k3 =>
    refine q_eq ?_ (hQ M ⟨h, Fr_refl⟩)
    unfold aSrt; rw [if_neg (by omega)]
theorem rq249 {M : dsMem} {W : dsW} {s y k : Int} (h : RI0 M W) : bCt 249 [uR 11 84, uI s, uI y, uI k] M (fun _ => [uI (aSrt W s y k)]) (fun M' => RI0 M' W ∧ Fr RQ M M') := by
  intro Q hQ
  have b := RI_b h
  refine r249_0 (hA1 :=  asksYear_ct h) (k1 := fun M1 rr1 q1 => ?k1) (s1 := fun M1 rr1 q1 => ?s1) (k2 := fun M1 rr1 q1 q2 => ?k2) (k3 := fun M1 rr1 q1 q2 q3 => ?k3) (s2 := fun M1 rr1 q1 q2 q3 => ?s2) (s3 := fun M1 rr1 q1 q2 q3 i248_1 a248_1 q4 q5 => ?s3) (s4 := fun M1 rr1 q1 q2 q3 i248_1 a248_1 q4 q5 => ?s4) (s5 := fun M1 rr1 q1 q2 q3 i248_1 a248_1 q4 q5 => ?s5) (s6 := fun M1 rr1 q1 q2 q3 => ?s6) (k4 := fun M1 rr1 q1 q2 q3 => ?k4)
  case k1 =>
    have b1 := RI_b rr1.1.1
    have z1 := if01_0 q1
    refine q_eq ?_ (hQ M1 ⟨rr1.1.1, rr1.2⟩)
    unfold aSrt; rw [if_neg (by omega)]
  case s1 =>
    have b1 := RI_b rr1.1.1
    have z1 := if01_1 q1
    omega
  case k2 =>
    have b1 := RI_b rr1.1.1
    have z1 := if01_1 q1
    refine q_eq ?_ (hQ M1 ⟨rr1.1.1, rr1.2⟩)
    unfold aSrt; rw [if_neg (by omega)]
  case k3 =>
    have b1 := RI_b rr1.1.1
    have z1 := if01_1 q1
    refine q_eq ?_ (hQ M1 ⟨rr1.1.1, rr1.2⟩)
    unfold aSrt; rw [if_neg (by omega)]
  case s2 =>
    have b1 := RI_b rr1.1.1
    have z1 := if01_1 q1
    have hd := rD rr1.1 (y := y) (s := s) (by omega) (by omega); have hb := rB rr1.1 (y := y) (s := s) (by omega) (by omega); omega
  case s3 =>
    have b1 := RI_b rr1.1.1
    have z1 := if01_1 q1
    have hd := rD rr1.1 (y := y) (s := s) (by omega) (by omega); have hb := rB rr1.1 (y := y) (s := s) (by omega) (by omega); omega
  case s4 =>
    have b1 := RI_b rr1.1.1
    have z1 := if01_1 q1
    have hd := rD rr1.1 (y := y) (s := s) (by omega) (by omega); have hb := rB rr1.1 (y := y) (s := s) (by omega) (by omega); omega
  case s5 =>
    have b1 := RI_b rr1.1.1
    have z1 := if01_1 q1
    have hd := rD rr1.1 (y := y) (s := s) (by omega) (by omega); have hb := rB rr1.1 (y := y) (s := s) (by omega) (by omega); omega
  case s6 =>
    have b1 := RI_b rr1.1.1
    have z1 := if01_1 q1
    have hd := rD rr1.1 (y := y) (s := s) (by omega) (by omega); have hb := rB rr1.1 (y := y) (s := s) (by omega) (by omega); omega
  case k4 =>
    have b1 := RI_b rr1.1.1
    have z1 := if01_1 q1
    refine q_eq ?_ (hQ M1 ⟨rr1.1.1, rr1.2⟩)
    unfold aSrt; rw [if_pos (by omega)]; exact r248 rr1.1 (by omega) (by omega)
def aTop (W : dsW) (s y : Int) : Int := if (0 ≤ s ∧ s ≤ wN W - 1) ∧ 0 < wLn W ∧ 0 ≤ y ∧ y ≤ wY W then (if ((aL (P0 W) y s).length : Int) = 0 then 0 else (dyG (aL (P0 W) y s) (((aL (P0 W) y s).length : Int) - 1)).1) else -2
theorem cq81 {M : dsMem} {W : dsW} {s y : Int} (h : CI M W) : bCt 81 [uR 10 0, uI s, uI y, uX 0, uX 0, uX 0] M (fun _ => [uI (aTop W s y)]) (fun M' => CI M' W ∧ Fr CQ M M') := by
  intro Q hQ
  have b := CI_b h
  refine r81_0 (hA1 := fun _ => asNow_ct h) (s2 := fun q1 M1 rr1 => ?s2) (s3 := fun q1 M1 rr1 => ?s3) (s4 := fun q1 M1 rr1 q2 => ?s4) (k1 := fun q1 M1 rr1 q2 => ?k1) (k2 := fun q1 M1 rr1 q2 => ?k2) (k3 := fun q1 => ?k3)
  case s2 =>
    have b1 := CI_b rr1.1.1
    have hd := cD rr1.1 (y := y) (s := s) (by omega) (by omega); have hb := cB rr1.1 (y := y) (s := s) (by omega) (by omega); omega
  case s3 =>
    have b1 := CI_b rr1.1.1
    have hd := cD rr1.1 (y := y) (s := s) (by omega) (by omega); have hb := cB rr1.1 (y := y) (s := s) (by omega) (by omega); omega
  case s4 =>
    have b1 := CI_b rr1.1.1
    have hd := cD rr1.1 (y := y) (s := s) (by omega) (by omega); have hb := cB rr1.1 (y := y) (s := s) (by omega) (by omega); omega
  case k1 =>
    have b1 := CI_b rr1.1.1
    refine q_eq ?_ (hQ M1 ⟨rr1.1.1, rr1.2⟩)
    have hd := cD rr1.1 (y := y) (s := s) (by omega) (by omega)
    rw [hd] at q2
    unfold aTop; rw [if_pos (by omega), if_neg q2, hd, Int.add_sub_assoc]; exact (cLy rr1.1 (by omega) (by omega) (by omega) (by omega)).1
  case k2 =>
    have b1 := CI_b rr1.1.1
    refine q_eq ?_ (hQ M1 ⟨rr1.1.1, rr1.2⟩)
    have hd := cD rr1.1 (y := y) (s := s) (by omega) (by omega)
    rw [hd] at q2
    unfold aTop; rw [if_pos (by omega), if_pos q2]
  case k3 =>
    refine q_eq ?_ (hQ M ⟨h, Fr_refl⟩)
    unfold aTop; rw [if_neg (by omega)]
theorem rq250 {M : dsMem} {W : dsW} {s y : Int} (h : RI0 M W) : bCt 250 [uR 11 84, uI s, uI y, uX 0] M (fun _ => [uI (aTop W s y)]) (fun M' => RI0 M' W ∧ Fr RQ M M') := by
  intro Q hQ
  have b := RI_b h
  refine r250_0 (hA1 :=  asksYear_ct h) (k1 := fun M1 rr1 q1 => ?k1) (s1 := fun M1 rr1 q1 => ?s1) (s2 := fun M1 rr1 q1 q2 => ?s2) (s3 := fun M1 rr1 q1 q2 => ?s3) (s4 := fun M1 rr1 q1 q2 q3 => ?s4) (k2 := fun M1 rr1 q1 q2 q3 => ?k2) (k3 := fun M1 rr1 q1 q2 q3 => ?k3) (k4 := fun M1 rr1 q1 q2 => ?k4)
  case k1 =>
    have b1 := RI_b rr1.1.1
    have z1 := if01_0 q1
    refine q_eq ?_ (hQ M1 ⟨rr1.1.1, rr1.2⟩)
    unfold aTop; rw [if_neg (by omega)]
  case s1 =>
    have b1 := RI_b rr1.1.1
    have z1 := if01_1 q1
    omega
  case s2 =>
    have b1 := RI_b rr1.1.1
    have z1 := if01_1 q1
    have hd := rD rr1.1 (y := y) (s := s) (by omega) (by omega); have hb := rB rr1.1 (y := y) (s := s) (by omega) (by omega); omega
  case s3 =>
    have b1 := RI_b rr1.1.1
    have z1 := if01_1 q1
    have hd := rD rr1.1 (y := y) (s := s) (by omega) (by omega); have hb := rB rr1.1 (y := y) (s := s) (by omega) (by omega); omega
  case s4 =>
    have b1 := RI_b rr1.1.1
    have z1 := if01_1 q1
    have hd := rD rr1.1 (y := y) (s := s) (by omega) (by omega); have hb := rB rr1.1 (y := y) (s := s) (by omega) (by omega); omega
  case k2 =>
    have b1 := RI_b rr1.1.1
    have z1 := if01_1 q1
    refine q_eq ?_ (hQ M1 ⟨rr1.1.1, rr1.2⟩)
    have hd := rD rr1.1 (y := y) (s := s) (by omega) (by omega)
    rw [hd] at q3
    unfold aTop; rw [if_pos (by omega), if_neg q3, hd, Int.add_sub_assoc]; exact (rLy rr1.1 (by omega) (by omega) (by omega) (by omega)).1
  case k3 =>
    have b1 := RI_b rr1.1.1
    have z1 := if01_1 q1
    refine q_eq ?_ (hQ M1 ⟨rr1.1.1, rr1.2⟩)
    have hd := rD rr1.1 (y := y) (s := s) (by omega) (by omega)
    rw [hd] at q3
    unfold aTop; rw [if_pos (by omega), if_pos q3]
  case k4 =>
    have b1 := RI_b rr1.1.1
    have z1 := if01_1 q1
    refine q_eq ?_ (hQ M1 ⟨rr1.1.1, rr1.2⟩)
    unfold aTop; rw [if_neg (by omega)]
def aUnd (W : dsW) (s y : Int) : Int := if (0 ≤ s ∧ s ≤ wN W - 1) ∧ 0 < wLn W ∧ 0 ≤ y ∧ y ≤ wY W then (if ((aL (P0 W) y s).length : Int) = 0 then 0 else (dyG (aL (P0 W) y s) 0).1) else -2
theorem cq82 {M : dsMem} {W : dsW} {s y : Int} (h : CI M W) : bCt 82 [uR 10 0, uI s, uI y, uX 0, uX 0] M (fun _ => [uI (aUnd W s y)]) (fun M' => CI M' W ∧ Fr CQ M M') := by
  intro Q hQ
  have b := CI_b h
  refine r82_0 (hA1 := fun _ => asNow_ct h) (s2 := fun q1 M1 rr1 => ?s2) (s3 := fun q1 M1 rr1 => ?s3) (s4 := fun q1 M1 rr1 q2 => ?s4) (k1 := fun q1 M1 rr1 q2 => ?k1) (k2 := fun q1 M1 rr1 q2 => ?k2) (k3 := fun q1 => ?k3)
  case s2 =>
    have b1 := CI_b rr1.1.1
    omega
  case s3 =>
    have b1 := CI_b rr1.1.1
    omega
  case s4 =>
    have b1 := CI_b rr1.1.1
    omega
  case k1 =>
    have b1 := CI_b rr1.1.1
    refine q_eq ?_ (hQ M1 ⟨rr1.1.1, rr1.2⟩)
    have hd := cD rr1.1 (y := y) (s := s) (by omega) (by omega)
    rw [hd] at q2
    unfold aUnd; rw [if_pos (by omega), if_neg q2]
    have e := (cLy rr1.1 (y := y) (s := s) (i := 0) (by omega) (by omega) (by omega) (by omega)).1
    rw [Int.add_zero] at e; exact e
  case k2 =>
    have b1 := CI_b rr1.1.1
    refine q_eq ?_ (hQ M1 ⟨rr1.1.1, rr1.2⟩)
    have hd := cD rr1.1 (y := y) (s := s) (by omega) (by omega)
    rw [hd] at q2
    unfold aUnd; rw [if_pos (by omega), if_pos q2]
  case k3 =>
    refine q_eq ?_ (hQ M ⟨h, Fr_refl⟩)
    unfold aUnd; rw [if_neg (by omega)]
theorem rq251 {M : dsMem} {W : dsW} {s y : Int} (h : RI0 M W) : bCt 251 [uR 11 84, uI s, uI y, uX 0] M (fun _ => [uI (aUnd W s y)]) (fun M' => RI0 M' W ∧ Fr RQ M M') := by
  intro Q hQ
  have b := RI_b h
  refine r251_0 (hA1 :=  asksYear_ct h) (k1 := fun M1 rr1 q1 => ?k1) (s1 := fun M1 rr1 q1 => ?s1) (s2 := fun M1 rr1 q1 q2 => ?s2) (s3 := fun M1 rr1 q1 q2 => ?s3) (s4 := fun M1 rr1 q1 q2 q3 => ?s4) (k2 := fun M1 rr1 q1 q2 q3 => ?k2) (k3 := fun M1 rr1 q1 q2 q3 => ?k3) (k4 := fun M1 rr1 q1 q2 => ?k4)
  case k1 =>
    have b1 := RI_b rr1.1.1
    have z1 := if01_0 q1
    refine q_eq ?_ (hQ M1 ⟨rr1.1.1, rr1.2⟩)
    unfold aUnd; rw [if_neg (by omega)]
  case s1 =>
    have b1 := RI_b rr1.1.1
    have z1 := if01_1 q1
    omega
  case s2 =>
    have b1 := RI_b rr1.1.1
    have z1 := if01_1 q1
    omega
  case s3 =>
    have b1 := RI_b rr1.1.1
    have z1 := if01_1 q1
    omega
  case s4 =>
    have b1 := RI_b rr1.1.1
    have z1 := if01_1 q1
    omega
  case k2 =>
    have b1 := RI_b rr1.1.1
    have z1 := if01_1 q1
    refine q_eq ?_ (hQ M1 ⟨rr1.1.1, rr1.2⟩)
    have hd := rD rr1.1 (y := y) (s := s) (by omega) (by omega)
    rw [hd] at q3
    unfold aUnd; rw [if_pos (by omega), if_neg q3]
    have e := (rLy rr1.1 (y := y) (s := s) (i := 0) (by omega) (by omega) (by omega) (by omega)).1
    rw [Int.add_zero] at e; exact e
  case k3 =>
    have b1 := RI_b rr1.1.1
    have z1 := if01_1 q1
    refine q_eq ?_ (hQ M1 ⟨rr1.1.1, rr1.2⟩)
    have hd := rD rr1.1 (y := y) (s := s) (by omega) (by omega)
    rw [hd] at q3
    unfold aUnd; rw [if_pos (by omega), if_pos q3]
  case k4 =>
    have b1 := RI_b rr1.1.1
    have z1 := if01_1 q1
    refine q_eq ?_ (hQ M1 ⟨rr1.1.1, rr1.2⟩)
    unfold aUnd; rw [if_neg (by omega)]
def aLft (W : dsW) (s y : Int) : Int := if (0 ≤ s ∧ s ≤ wN W - 1) ∧ 0 < wLn W ∧ 0 ≤ y ∧ y ≤ wY W then wRo W s - aH (P0 W) y s else -2
theorem cq83 {M : dsMem} {W : dsW} {s y : Int} (h : CI M W) : bCt 83 [uR 10 0, uI s, uI y] M (fun _ => [uI (aLft W s y)]) (fun M' => CI M' W ∧ Fr CQ M M') := by
  intro Q hQ
  have b := CI_b h
  refine r83_0 (hA1 := fun _ => asNow_ct h) (s3 := fun q1 M1 rr1 => ?s3) (s4 := fun q1 M1 rr1 => ?s4) (s5 := fun q1 M1 rr1 => ?s5) (k1 := fun q1 M1 rr1 => ?k1) (k2 := fun q1 => ?k2)
  case s3 =>
    have b1 := CI_b rr1.1.1
    have hr := cRo h (s := s) (by omega); have hd := cH rr1.1 (y := y) (s := s) (by omega) (by omega); have hb := cB rr1.1 (y := y) (s := s) (by omega) (by omega); have hw := h.1.2.2.1 s (by omega) (by omega); omega
  case s4 =>
    have b1 := CI_b rr1.1.1
    have hr := cRo h (s := s) (by omega); have hd := cH rr1.1 (y := y) (s := s) (by omega) (by omega); have hb := cB rr1.1 (y := y) (s := s) (by omega) (by omega); have hw := h.1.2.2.1 s (by omega) (by omega); omega
  case s5 =>
    have b1 := CI_b rr1.1.1
    have hr := cRo h (s := s) (by omega); have hd := cH rr1.1 (y := y) (s := s) (by omega) (by omega); have hb := cB rr1.1 (y := y) (s := s) (by omega) (by omega); have hw := h.1.2.2.1 s (by omega) (by omega); omega
  case k1 =>
    have b1 := CI_b rr1.1.1
    refine q_eq ?_ (hQ M1 ⟨rr1.1.1, rr1.2⟩)
    unfold aLft; rw [if_pos (by omega), cRo h (by omega), cH rr1.1 (by omega) (by omega)]
  case k2 =>
    refine q_eq ?_ (hQ M ⟨h, Fr_refl⟩)
    unfold aLft; rw [if_neg (by omega)]
theorem rq252 {M : dsMem} {W : dsW} {s y : Int} (h : RI0 M W) : bCt 252 [uR 11 84, uI s, uI y] M (fun _ => [uI (aLft W s y)]) (fun M' => RI0 M' W ∧ Fr RQ M M') := by
  intro Q hQ
  have b := RI_b h
  refine r252_0 (hA1 :=  asksYear_ct h) (k1 := fun M1 rr1 q1 => ?k1) (s1 := fun M1 rr1 q1 => ?s1) (k2 := fun M1 rr1 q1 q2 => ?k2) (s2 := fun M1 rr1 q1 q2 => ?s2) (s3 := fun M1 rr1 q1 q2 => ?s3) (s4 := fun M1 rr1 q1 q2 => ?s4) (k3 := fun M1 rr1 q1 q2 => ?k3)
  case k1 =>
    have b1 := RI_b rr1.1.1
    have z1 := if01_0 q1
    refine q_eq ?_ (hQ M1 ⟨rr1.1.1, rr1.2⟩)
    unfold aLft; rw [if_neg (by omega)]
  case s1 =>
    have b1 := RI_b rr1.1.1
    have z1 := if01_1 q1
    omega
  case k2 =>
    have b1 := RI_b rr1.1.1
    have z1 := if01_1 q1
    refine q_eq ?_ (hQ M1 ⟨rr1.1.1, rr1.2⟩)
    unfold aLft; rw [if_neg (by omega)]
  case s2 =>
    have b1 := RI_b rr1.1.1
    have z1 := if01_1 q1
    have hr := rRo rr1.1.1 (s := s) (by omega); have hd := rH rr1.1 (y := y) (s := s) (by omega) (by omega); have hb := rB rr1.1 (y := y) (s := s) (by omega) (by omega); have hw := h.1.2.2.1 s (by omega) (by omega); omega
  case s3 =>
    have b1 := RI_b rr1.1.1
    have z1 := if01_1 q1
    have hr := rRo rr1.1.1 (s := s) (by omega); have hd := rH rr1.1 (y := y) (s := s) (by omega) (by omega); have hb := rB rr1.1 (y := y) (s := s) (by omega) (by omega); have hw := h.1.2.2.1 s (by omega) (by omega); omega
  case s4 =>
    have b1 := RI_b rr1.1.1
    have z1 := if01_1 q1
    have hr := rRo rr1.1.1 (s := s) (by omega); have hd := rH rr1.1 (y := y) (s := s) (by omega) (by omega); have hb := rB rr1.1 (y := y) (s := s) (by omega) (by omega); have hw := h.1.2.2.1 s (by omega) (by omega); omega
  case k3 =>
    have b1 := RI_b rr1.1.1
    have z1 := if01_1 q1
    refine q_eq ?_ (hQ M1 ⟨rr1.1.1, rr1.2⟩)
    unfold aLft; rw [if_pos (by omega), rRo rr1.1.1 (by omega), rH rr1.1 (by omega) (by omega)]
def aThk (W : dsW) (s y : Int) : Int := if (0 ≤ s ∧ s ≤ wN W - 1) ∧ 0 < wLn W ∧ 0 ≤ y ∧ y ≤ wY W then lTh (aL (P0 W) y s) else -2
theorem cq84 {M : dsMem} {W : dsW} {s y : Int} (h : CI M W) : bCt 84 [uR 10 0, uI s, uI y] M (fun _ => [uI (aThk W s y)]) (fun M' => CI M' W ∧ Fr CQ M M') := by
  intro Q hQ
  have b := CI_b h
  refine r84_0 (hA1 := fun _ => asNow_ct h) (k1 := fun q1 => ?k1) (s2 := fun q1 M1 rr1 => ?s2) (s3 := fun q1 M1 rr1 i26_1 a26_1 q2 q3 => ?s3) (s4 := fun q1 M1 rr1 i26_1 a26_1 q2 q3 => ?s4) (s5 := fun q1 M1 rr1 i26_1 a26_1 q2 q3 => ?s5) (s6 := fun q1 M1 rr1 => ?s6) (k2 := fun q1 M1 rr1 => ?k2)
  case k1 =>
    refine q_eq ?_ (hQ M ⟨h, Fr_refl⟩)
    unfold aThk; rw [if_neg (by omega)]
  case s2 =>
    have b1 := CI_b rr1.1.1
    have hd := cD rr1.1 (y := y) (s := s) (by omega) (by omega); have hb := cB rr1.1 (y := y) (s := s) (by omega) (by omega); omega
  case s3 =>
    have b1 := CI_b rr1.1.1
    have hd := cD rr1.1 (y := y) (s := s) (by omega) (by omega); have hb := cB rr1.1 (y := y) (s := s) (by omega) (by omega); omega
  case s4 =>
    have b1 := CI_b rr1.1.1
    have hd := cD rr1.1 (y := y) (s := s) (by omega) (by omega); have hb := cB rr1.1 (y := y) (s := s) (by omega) (by omega); omega
  case s5 =>
    have b1 := CI_b rr1.1.1
    have hd := cD rr1.1 (y := y) (s := s) (by omega) (by omega); have hb := cB rr1.1 (y := y) (s := s) (by omega) (by omega); omega
  case s6 =>
    have b1 := CI_b rr1.1.1
    have hd := cD rr1.1 (y := y) (s := s) (by omega) (by omega); have hb := cB rr1.1 (y := y) (s := s) (by omega) (by omega); omega
  case k2 =>
    have b1 := CI_b rr1.1.1
    refine q_eq ?_ (hQ M1 ⟨rr1.1.1, rr1.2⟩)
    unfold aThk; rw [if_pos (by omega)]; exact c26 rr1.1 (by omega) (by omega)
theorem rq253 {M : dsMem} {W : dsW} {s y : Int} (h : RI0 M W) : bCt 253 [uR 11 84, uI s, uI y, uX 0, uX 0, uX 0] M (fun _ => [uI (aThk W s y)]) (fun M' => RI0 M' W ∧ Fr RQ M M') := by
  intro Q hQ
  have b := RI_b h
  refine r253_0 (hA1 :=  asksYear_ct h) (k1 := fun M1 rr1 q1 => ?k1) (s1 := fun M1 rr1 q1 => ?s1) (s2 := fun M1 rr1 q1 q2 => ?s2) (s3 := fun M1 rr1 q1 q2 i253_1 a253_1 q3 q4 => ?s3) (s4 := fun M1 rr1 q1 q2 i253_1 a253_1 q3 q4 => ?s4) (s5 := fun M1 rr1 q1 q2 i253_1 a253_1 q3 q4 => ?s5) (s6 := fun M1 rr1 q1 q2 => ?s6) (k2 := fun M1 rr1 q1 q2 => ?k2) (k3 := fun M1 rr1 q1 q2 => ?k3)
  case k1 =>
    have b1 := RI_b rr1.1.1
    have z1 := if01_0 q1
    refine q_eq ?_ (hQ M1 ⟨rr1.1.1, rr1.2⟩)
    unfold aThk; rw [if_neg (by omega)]
  case s1 =>
    have b1 := RI_b rr1.1.1
    have z1 := if01_1 q1
    omega
  case s2 =>
    have b1 := RI_b rr1.1.1
    have z1 := if01_1 q1
    have hd := rD rr1.1 (y := y) (s := s) (by omega) (by omega); have hb := rB rr1.1 (y := y) (s := s) (by omega) (by omega); omega
  case s3 =>
    have b1 := RI_b rr1.1.1
    have z1 := if01_1 q1
    have hd := rD rr1.1 (y := y) (s := s) (by omega) (by omega); have hb := rB rr1.1 (y := y) (s := s) (by omega) (by omega); omega
  case s4 =>
    have b1 := RI_b rr1.1.1
    have z1 := if01_1 q1
    have hd := rD rr1.1 (y := y) (s := s) (by omega) (by omega); have hb := rB rr1.1 (y := y) (s := s) (by omega) (by omega); omega
  case s5 =>
    have b1 := RI_b rr1.1.1
    have z1 := if01_1 q1
    have hd := rD rr1.1 (y := y) (s := s) (by omega) (by omega); have hb := rB rr1.1 (y := y) (s := s) (by omega) (by omega); omega
  case s6 =>
    have b1 := RI_b rr1.1.1
    have z1 := if01_1 q1
    have hd := rD rr1.1 (y := y) (s := s) (by omega) (by omega); have hb := rB rr1.1 (y := y) (s := s) (by omega) (by omega); omega
  case k2 =>
    have b1 := RI_b rr1.1.1
    have z1 := if01_1 q1
    refine q_eq ?_ (hQ M1 ⟨rr1.1.1, rr1.2⟩)
    unfold aThk lTh; rw [if_pos (by omega), rD rr1.1 (by omega) (by omega)]
    exact dsIter_congr _ _ (fun j c j0 j1 => by rw [(rLy rr1.1 (by omega) (by omega) j0 j1).2])
  case k3 =>
    have b1 := RI_b rr1.1.1
    have z1 := if01_1 q1
    refine q_eq ?_ (hQ M1 ⟨rr1.1.1, rr1.2⟩)
    unfold aThk; rw [if_neg (by omega)]
