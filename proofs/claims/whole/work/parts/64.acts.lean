/-! what changes the world: rains, taps, undo, anew, rate -/
def CQ4 : Int → Int → Prop := fun a j => CQ a j ∨ (24 ≤ a ∧ a ≤ 44)
def RQ4 : Int → Int → Prop := fun a j => RQ a j ∨ a = 85
theorem CQ_4 {M M' : dsMem} (h : Fr CQ M M') : Fr CQ4 M M' := Fr_mono (fun _ _ q => Or.inl q) h
theorem RQ_4 {M M' : dsMem} (h : Fr RQ M M') : Fr RQ4 M M' := Fr_mono (fun _ _ q => Or.inl q) h
def withA (W : dsW) (A : wEv) : dsW := (W.1, W.2.1, W.2.2.1, W.2.2.2.1, W.2.2.2.2.1, A)
def addA (W : dsW) (k o m y : Int) : dsW := withA W (evN (wA W) + 1, dsUpd (evK (wA W)) (evN (wA W)) k, dsUpd (evO (wA W)) (evN (wA W)) o, dsUpd (evM (wA W)) (evN (wA W)) m, dsUpd (evY (wA W)) (evN (wA W)) y)
def cutA (W : dsW) (n : Int) : dsW := withA W (n, evK (wA W), evO (wA W), evM (wA W), evY (wA W))
def wSetBe (W : dsW) (w v : Int) : dsW := (W.1, (dsUpd (wBe W) w v, wGi W), W.2.2)
theorem upd_e {α : Type} (f : Int → α) (i : Int) (v : α) : dsUpd f i v i = v := if_pos rfl
theorem upd_n {α : Type} (f : Int → α) {i j : Int} (v : α) (h : j ≠ i) : dsUpd f i v j = f j := if_neg h
theorem WOK_cut {W : dsW} {n : Int} (h : WOK W) (h0 : 0 ≤ n) (h1 : n ≤ evN (wA W)) : WOK (cutA W n) := by
  obtain ⟨a, b, c, d, e, f⟩ := h
  refine ⟨?_, b, c, d, e, fun i i0 i1 => f i i0 (by have : i < n := i1; omega)⟩
  show 0 ≤ wLn W ∧ wLn W ≤ 1000 ∧ 0 ≤ wY W ∧ wY W ≤ 12 ∧ 0 ≤ wLw W ∧ wLw W ≤ 3 ∧ 0 ≤ wOd W ∧ wOd W ≤ 10 ∧ 0 ≤ wW W ∧ wW W ≤ 3 ∧ 0 ≤ wN W ∧ wN W ≤ 6 ∧
    0 ≤ evN (wR W) ∧ evN (wR W) ≤ 8 ∧ 0 ≤ evN (wT W) ∧ evN (wT W) ≤ 6 ∧ 0 ≤ n ∧ n ≤ 30 ∧
    (wLn W = 0 → wY W = 0 ∧ wW W = 0 ∧ wN W = 0 ∧ evN (wR W) = 0 ∧ evN (wT W) = 0 ∧ n = 0) ∧ (0 < wLn W → 1 ≤ wY W)
  omega
theorem WOK_add {W : dsW} {k o m y : Int} (h : WOK W) (hl : 0 < wLn W) (hn : evN (wA W) < 30) (hy : 0 ≤ y ∧ y < 12) (hk : (k = 0 ∧ 1 ≤ o ∧ o ≤ 5 ∧ 1 ≤ m ∧ m ≤ 20) ∨ (k = 1 ∧ 0 ≤ o ∧ o < wN W ∧ 1 ≤ m ∧ m ≤ 60)) : WOK (addA W k o m y) := by
  obtain ⟨a, b, c, d, e, f⟩ := h
  refine ⟨?_, b, c, d, e, fun i i0 i1 => ?_⟩
  · show 0 ≤ wLn W ∧ wLn W ≤ 1000 ∧ 0 ≤ wY W ∧ wY W ≤ 12 ∧ 0 ≤ wLw W ∧ wLw W ≤ 3 ∧ 0 ≤ wOd W ∧ wOd W ≤ 10 ∧ 0 ≤ wW W ∧ wW W ≤ 3 ∧ 0 ≤ wN W ∧ wN W ≤ 6 ∧
      0 ≤ evN (wR W) ∧ evN (wR W) ≤ 8 ∧ 0 ≤ evN (wT W) ∧ evN (wT W) ≤ 6 ∧ 0 ≤ evN (wA W) + 1 ∧ evN (wA W) + 1 ≤ 30 ∧
      (wLn W = 0 → wY W = 0 ∧ wW W = 0 ∧ wN W = 0 ∧ evN (wR W) = 0 ∧ evN (wT W) = 0 ∧ evN (wA W) + 1 = 0) ∧ (0 < wLn W → 1 ≤ wY W)
    omega
  · have i2 : i < evN (wA W) + 1 := i1
    show (0 ≤ dsUpd (evY (wA W)) (evN (wA W)) y i ∧ dsUpd (evY (wA W)) (evN (wA W)) y i < 12) ∧ ((dsUpd (evK (wA W)) (evN (wA W)) k i = 0 ∧ 1 ≤ dsUpd (evO (wA W)) (evN (wA W)) o i ∧ dsUpd (evO (wA W)) (evN (wA W)) o i ≤ 5 ∧ 1 ≤ dsUpd (evM (wA W)) (evN (wA W)) m i ∧ dsUpd (evM (wA W)) (evN (wA W)) m i ≤ 20) ∨ (dsUpd (evK (wA W)) (evN (wA W)) k i = 1 ∧ 0 ≤ dsUpd (evO (wA W)) (evN (wA W)) o i ∧ dsUpd (evO (wA W)) (evN (wA W)) o i < wN W ∧ 1 ≤ dsUpd (evM (wA W)) (evN (wA W)) m i ∧ dsUpd (evM (wA W)) (evN (wA W)) m i ≤ 60))
    by_cases hi : i = evN (wA W)
    · subst hi
      rw [upd_e, upd_e, upd_e, upd_e]
      exact ⟨hy, hk⟩
    · rw [upd_n _ _ hi, upd_n _ _ hi, upd_n _ _ hi, upd_n _ _ hi]
      exact f i i0 (by omega)
theorem WOK_be {W : dsW} {w v : Int} (h : WOK W) (hv : 0 ≤ v ∧ v ≤ 300) : WOK (wSetBe W w v) := by
  obtain ⟨a, b, c, d, e, f⟩ := h
  refine ⟨a, fun u u0 u1 => ?_, c, d, e, f⟩
  have := b u u0 u1
  show 0 ≤ dsUpd (wBe W) w v u ∧ dsUpd (wBe W) w v u ≤ 300 ∧ 1 ≤ wGi W u ∧ wGi W u ≤ 60
  by_cases hu : u = w
  · subst hu; rw [upd_e]; exact ⟨hv.1, hv.2, this.2.2⟩
  · rw [upd_n _ _ hu]; exact this
/-- nothing is fresh: only the world must hold -/
theorem CI_new {M : dsMem} {W : dsW} (a : WOK W) (b : C24 M W) (c : Dfl M 48) (h1 : M 0 10 = 0) (h2 : M 0 11 = 0) (h3 : M 81 0 = 0) : CI M W := ⟨a, b, c, Or.inl h1, Or.inl h2, Or.inl h3⟩
theorem forget_ct {M : dsMem} : bCt 156 [uR 10 0] M (fun _ => []) (fun M' => M' = dsSet (dsSet (dsSet M 0 10 0) 0 11 0) 81 0 0) := by
  intro Q hQ
  exact r156_0 (k1 := hQ _ rfl)
/-- what forget leaves -/
theorem CI_fg {M M' : dsMem} {W : dsW} (a : WOK W) (b : C24 M W) (c : Dfl M 48) (e : M' = dsSet (dsSet (dsSet M 0 10 0) 0 11 0) 81 0 0) : CI M' W := by
  subst e
  refine CI_new a (C24_e b (fun a j q1 q2 => ?_)) (Dfl_e c (fun j => ?_)) ?_ ?_ ?_
  · rw [ds_gn (by omega), ds_gn (by omega), ds_gn (by omega)]
  · rw [ds_gn (by omega), ds_gn (by omega), ds_gn (by omega)]
  · rw [ds_gn (by omega), ds_gn (by omega), ds_get_eq]
  · rw [ds_gn (by omega), ds_get_eq]
  · rw [ds_get_eq]
theorem Fr_fg {M : dsMem} : Fr CQ M (dsSet (dsSet (dsSet M 0 10 0) 0 11 0) 81 0 0) :=
  Fr_set (Fr_set (Fr_set Fr_refl (by unfold CQ; omega)) (by unfold CQ; omega)) (by unfold CQ; omega)
def putM (M : dsMem) (x1 x2 x3 x4 : Int) : dsMem := dsSet (dsSet (dsSet (dsSet (dsSet M 41 (M 40 0) x1) 42 (M 40 0) x2) 43 (M 40 0) x3) 44 (M 40 0) x4) 40 0 ((M 40 0) + 1)
theorem put_ct {M : dsMem} {x1 x2 x3 x4 : Int} (h : M 40 0 < 30) (h0 : 0 ≤ M 40 0) : bCt 4 [uR 3 40, uI x1, uI x2, uI x3, uI x4] M (fun _ => []) (fun M' => M' = putM M x1 x2 x3 x4) := by
  intro Q hQ
  exact r4c_0 (k1 := fun _ => hQ _ rfl) (k2 := fun q => absurd h q)
theorem C24_put {M : dsMem} {W : dsW} {k o m y : Int} (h : C24 M W) : C24 (putM M k o m y) (addA W k o m y) := by
  obtain ⟨a, b, c, d, e, f⟩ := h
  have en : M 40 0 = evN (wA W) := f.1
  have g : ∀ a j, 24 ≤ a → a ≤ 39 → putM M k o m y a j = M a j := fun a j q1 q2 => by
    unfold putM; rw [ds_gn (by omega), ds_gn (by omega), ds_gn (by omega), ds_gn (by omega), ds_gn (by omega)]
  refine ⟨?_, ?_, ?_, ?_, ?_, ?_⟩
  · simp only [g 24 _ (by omega) (by omega)]; exact a
  · simp only [g 25 _ (by omega) (by omega), g 26 _ (by omega) (by omega)]; exact b
  · simp only [g 27 _ (by omega) (by omega), g 28 _ (by omega) (by omega), g 29 _ (by omega) (by omega)]; exact c
  · simp only [g 30 _ (by omega) (by omega), g 31 _ (by omega) (by omega), g 32 _ (by omega) (by omega), g 33 _ (by omega) (by omega), g 34 _ (by omega) (by omega)]; exact d
  · simp only [g 35 _ (by omega) (by omega), g 36 _ (by omega) (by omega), g 37 _ (by omega) (by omega), g 38 _ (by omega) (by omega), g 39 _ (by omega) (by omega)]; exact e
  · refine ⟨?_, fun i i0 i1 => ?_⟩
    · show putM M k o m y 40 0 = evN (wA W) + 1
      unfold putM; rw [ds_get_eq, en]
    · have i2 : i < evN (wA W) + 1 := i1
      show putM M k o m y 41 i = dsUpd (evK (wA W)) (evN (wA W)) k i ∧ putM M k o m y 42 i = dsUpd (evO (wA W)) (evN (wA W)) o i ∧ putM M k o m y 43 i = dsUpd (evM (wA W)) (evN (wA W)) m i ∧ putM M k o m y 44 i = dsUpd (evY (wA W)) (evN (wA W)) y i
      unfold putM
      rw [en]
      by_cases hi : i = evN (wA W)
      · subst hi
        rw [upd_e, upd_e, upd_e, upd_e]
        refine ⟨?_, ?_, ?_, ?_⟩
        · rw [ds_gn (by omega), ds_gn (by omega), ds_gn (by omega), ds_gn (by omega), ds_get_eq]
        · rw [ds_gn (by omega), ds_gn (by omega), ds_gn (by omega), ds_get_eq]
        · rw [ds_gn (by omega), ds_gn (by omega), ds_get_eq]
        · rw [ds_gn (by omega), ds_get_eq]
      · have := f.2 i i0 (by omega)
        rw [upd_n _ _ hi, upd_n _ _ hi, upd_n _ _ hi, upd_n _ _ hi]
        rw [ds_gn (by omega), ds_gn (by omega), ds_gn (by omega), ds_gn (by omega), ds_gn (by omega)]
        rw [ds_gn (by omega), ds_gn (by omega), ds_gn (by omega), ds_gn (by omega), ds_gn (by omega)]
        rw [ds_gn (by omega), ds_gn (by omega), ds_gn (by omega), ds_gn (by omega), ds_gn (by omega)]
        rw [ds_gn (by omega), ds_gn (by omega), ds_gn (by omega), ds_gn (by omega), ds_gn (by omega)]
        exact this
theorem Fr_put {M : dsMem} {x1 x2 x3 x4 : Int} : Fr CQ4 M (putM M x1 x2 x3 x4) := by
  unfold putM
  refine Fr_set (Fr_set (Fr_set (Fr_set (Fr_set Fr_refl ?_) ?_) ?_) ?_) ?_ <;> exact Or.inr (by omega)
theorem C24_cut {M : dsMem} {W : dsW} {n : Int} (h : C24 M W) (h1 : n ≤ evN (wA W)) : C24 (dsSet M 40 0 n) (cutA W n) := by
  obtain ⟨a, b, c, d, e, f⟩ := h
  have g : ∀ a j, a ≠ 40 → dsSet M 40 0 n a j = M a j := fun a j q => by rw [ds_gn (by omega)]
  refine ⟨?_, ?_, ?_, ?_, ?_, ?_⟩
  · simp only [g 24 _ (by omega)]; exact a
  · simp only [g 25 _ (by omega), g 26 _ (by omega)]; exact b
  · simp only [g 27 _ (by omega), g 28 _ (by omega), g 29 _ (by omega)]; exact c
  · simp only [g 30 _ (by omega), g 31 _ (by omega), g 32 _ (by omega), g 33 _ (by omega), g 34 _ (by omega)]; exact d
  · simp only [g 35 _ (by omega), g 36 _ (by omega), g 37 _ (by omega), g 38 _ (by omega), g 39 _ (by omega)]; exact e
  · refine ⟨ds_get_eq, fun i i0 i1 => ?_⟩
    have i2 : i < n := i1
    simp only [g 41 _ (by omega), g 42 _ (by omega), g 43 _ (by omega), g 44 _ (by omega)]
    exact f.2 i i0 (by omega)
theorem C24_be {M : dsMem} {W : dsW} {w v : Int} (h : C24 M W) : C24 (dsSet M 25 w v) (wSetBe W w v) := by
  obtain ⟨a, b, c, d, e, f⟩ := h
  have g : ∀ a j, a ≠ 25 → dsSet M 25 w v a j = M a j := fun a j q => by rw [ds_gn (by omega)]
  refine ⟨?_, ?_, ?_, ?_, ?_, ?_⟩
  · simp only [g 24 _ (by omega)]; exact a
  · intro u u0 u1
    have := b u u0 u1
    refine ⟨?_, by rw [g 26 _ (by omega)]; exact this.2⟩
    show dsSet M 25 w v 25 u = dsUpd (wBe W) w v u
    by_cases hu : u = w
    · subst hu; rw [ds_get_eq, upd_e]
    · rw [ds_gn (by omega), upd_n _ _ hu]; exact this.1
  · simp only [g 27 _ (by omega), g 28 _ (by omega), g 29 _ (by omega)]; exact c
  · simp only [g 30 _ (by omega), g 31 _ (by omega), g 32 _ (by omega), g 33 _ (by omega), g 34 _ (by omega)]; exact d
  · simp only [g 35 _ (by omega), g 36 _ (by omega), g 37 _ (by omega), g 38 _ (by omega), g 39 _ (by omega)]; exact e
  · simp only [g 40 _ (by omega), g 41 _ (by omega), g 42 _ (by omega), g 43 _ (by omega), g 44 _ (by omega)]; exact f
theorem Dfl_s {M : dsMem} {a i v : Int} (h : Dfl M 48) (ha : a ≠ 48) : Dfl (dsSet M a i v) 48 := Dfl_e h (fun j => by rw [ds_gn (by omega)])
-- the answers and the worlds behind them
abbrev okRn (W : dsW) (n k y : Int) : Prop := (1 ≤ n ∧ n ≤ 20) ∧ (1 ≤ k ∧ k ≤ 5) ∧ 0 < wLn W ∧ 0 ≤ y ∧ y ≤ wY W - 1
abbrev okTp (W : dsW) (s n y : Int) : Prop := (0 ≤ s ∧ s ≤ wN W - 1) ∧ (1 ≤ n ∧ n ≤ 60) ∧ 0 < wLn W ∧ 0 ≤ y ∧ y ≤ wY W - 1
def nRn (W : dsW) (n k y : Int) : dsW := if okRn W n k y ∧ evN (wA W) < 30 then addA W 0 k n y else W
def aRn (W : dsW) (n k y : Int) : Int := if okRn W n k y then (if evN (wA W) < 30 then wTot (P0 (addA W 0 k n y)) (wY W) else -5) else -2
def nTp (W : dsW) (s n y : Int) : dsW := if okTp W s n y ∧ evN (wA W) < 30 then addA W 1 s n y else W
def aTp (W : dsW) (s n y : Int) : Int := if okTp W s n y then (if evN (wA W) < 30 then dsw (sH (stP (P0 (addA W 1 s n y)) (y + 1))) else -5) else -2
def nUn (W : dsW) : dsW := if 0 < wLn W ∧ 0 < evN (wA W) then cutA W (evN (wA W) - 1) else W
def aUn (W : dsW) : Int := if 0 < wLn W then (if 0 < evN (wA W) then evN (wA W) - 1 else -5) else -2
def nAn (W : dsW) : dsW := if 0 < wLn W then cutA W 0 else W
def aAn (W : dsW) : Int := if 0 < wLn W then evN (wA W) else -2
abbrev okRt (W : dsW) (w v : Int) : Prop := (0 ≤ w ∧ w ≤ wW W - 1) ∧ 0 ≤ v ∧ v ≤ 300
def nRt (W : dsW) (w v : Int) : dsW := if okRt W w v ∧ evN (wA W) ≤ 0 then wSetBe W w v else W
def aRt (W : dsW) (w v : Int) : Int := if okRt W w v then (if evN (wA W) ≤ 0 then wBe W w else -5) else -2
-- the class
theorem v24_now {M : dsMem} {W : dsW} (h : CN M W) : v24 M 47 (M 24 1) = wTot (P0 W) (wY W) := by
  have b := CI_b h.1
  have hw := h.1.1.1
  have hf := cfr h
  unfold v24 wTot
  rw [show M 24 5 = wN W by omega, show M 24 1 = wY W by omega]
  refine dsIter_congr _ _ (fun s a s0 s1 => ?_)
  rw [show M (47 + 5) (wY W * 6 + s) = aH (P0 W) (wY W) s from FR_H hf (by show 0 ≤ wY W ∧ wY W ≤ wY W; omega) ⟨s0, s1⟩]
theorem cq131 {M : dsMem} {W : dsW} {x1 x2 x3 : Int} (h : CI M W) : bCt 131 [uR 10 0, uI x1, uI x2, uI x3] M (fun _ => [uI (aRn W x1 x2 x3)]) (fun M' => CI M' (nRn W x1 x2 x3) ∧ Fr CQ4 M M') := by
  intro Q hQ
  have b := CI_b h
  have hw := h.1
  have hw1 := hw.1
  have no : ¬ okRn W x1 x2 x3 → Q [uI (-2)] M := fun q => by
    have := hQ M ⟨by unfold nRn; rw [if_neg (fun u => q u.1)]; exact h, Fr_refl⟩
    unfold aRn at this; rw [if_neg q] at this; exact this
  have hC : ∀ M1, M1 = putM M 0 x2 x1 x3 → C24 M1 (addA W 0 x2 x1 x3) ∧ Dfl M1 48 := fun M1 e => by
    subst e
    exact ⟨C24_put h.2.1, Dfl_e h.2.2.1 (fun j => by unfold putM; rw [ds_gn (by omega), ds_gn (by omega), ds_gn (by omega), ds_gn (by omega), ds_gn (by omega)])⟩
  have hWk : okRn W x1 x2 x3 → evN (wA W) < 30 → WOK (addA W 0 x2 x1 x3) := fun q1 q2 => WOK_add hw q1.2.2.1 q2 (by have := q1.2.2; omega) (Or.inl ⟨rfl, q1.2.1.1, q1.2.1.2, q1.1.1, q1.1.2⟩)
  refine r131_0 (k1 := fun q => no (fun u => q u.1)) (k2 := fun _ q => no (fun u => q u.2.1)) (hA1 := fun q1 q2 q3 q4 => put_ct (by omega) (by omega)) (hA2 := fun q1 q2 q3 q4 M1 r1 => forget_ct)
    (hA3 := fun q1 q2 q3 q4 M1 r1 M2 r2 => asNow_ct (CI_fg (hWk ⟨q1, q2, by omega⟩ (by omega)) (hC M1 r1).1 (hC M1 r1).2 r2))
    (s2 := fun q1 q2 q3 q4 M1 r1 M2 r2 M3 r3 i a i0 i1 => by have b3 := CI_b r3.1.1; omega) (s3 := fun q1 q2 q3 q4 M1 r1 M2 r2 M3 r3 i a i0 i1 => by have b3 := CI_b r3.1.1; omega) (s4 := fun q1 q2 q3 q4 M1 r1 M2 r2 M3 r3 i a i0 i1 => by have b3 := CI_b r3.1.1; omega) (k3 := fun q1 q2 q3 q4 M1 r1 M2 r2 M3 r3 => ?_) (k4 := fun q1 q2 q3 q4 => ?_) (k5 := fun _ _ q => no (fun u => q (by have := u.2.2; omega)))
  · have ok : okRn W x1 x2 x3 := ⟨q1, q2, by omega⟩
    have e1 : aRn W x1 x2 x3 = wTot (P0 (addA W 0 x2 x1 x3)) (wY W) := by unfold aRn; rw [if_pos ok, if_pos (by omega)]
    have e2 : nRn W x1 x2 x3 = addA W 0 x2 x1 x3 := by unfold nRn; rw [if_pos ⟨ok, by omega⟩]
    refine q_eq ?_ (hQ M3 ⟨by rw [e2]; exact r3.1.1, ?_⟩)
    · rw [e1]; exact v24_now r3.1
    · subst r2; subst r1
      exact Fr_trans (Fr_trans Fr_put (CQ_4 Fr_fg)) (CQ_4 r3.2)
  · have ok : okRn W x1 x2 x3 := ⟨q1, q2, by omega⟩
    have := hQ M ⟨by unfold nRn; rw [if_neg (fun u => by omega)]; exact h, Fr_refl⟩
    unfold aRn at this; rw [if_pos ok, if_neg (by omega)] at this; exact this
theorem cq132 {M : dsMem} {W : dsW} {x1 x2 x3 : Int} (h : CI M W) : bCt 132 [uR 10 0, uI x1, uI x2, uI x3] M (fun _ => [uI (aTp W x1 x2 x3)]) (fun M' => CI M' (nTp W x1 x2 x3) ∧ Fr CQ4 M M') := by
  intro Q hQ
  have b := CI_b h
  have hw := h.1
  have hw1 := hw.1
  have no : ¬ okTp W x1 x2 x3 → Q [uI (-2)] M := fun q => by
    have := hQ M ⟨by unfold nTp; rw [if_neg (fun u => q u.1)]; exact h, Fr_refl⟩
    unfold aTp at this; rw [if_neg q] at this; exact this
  have hC : ∀ M1, M1 = putM M 1 x1 x2 x3 → C24 M1 (addA W 1 x1 x2 x3) ∧ Dfl M1 48 := fun M1 e => by
    subst e
    exact ⟨C24_put h.2.1, Dfl_e h.2.2.1 (fun j => by unfold putM; rw [ds_gn (by omega), ds_gn (by omega), ds_gn (by omega), ds_gn (by omega), ds_gn (by omega)])⟩
  have hWk : okTp W x1 x2 x3 → evN (wA W) < 30 → WOK (addA W 1 x1 x2 x3) := fun q1 q2 => WOK_add hw q1.2.2.1 q2 (by have := q1.2.2; omega) (Or.inr ⟨rfl, q1.1.1, by have := q1.1.2; omega, q1.2.1.1, q1.2.1.2⟩)
  refine r132_0 (k1 := fun q => no (fun u => q (by have := u.1; omega))) (k2 := fun _ q => no (fun u => q u.2.1)) (hA1 := fun q1 q2 q3 q4 => put_ct (by omega) (by omega)) (hA2 := fun q1 q2 q3 q4 M1 r1 => forget_ct)
    (hA3 := fun q1 q2 q3 q4 M1 r1 M2 r2 => asNow_ct (CI_fg (hWk ⟨by omega, q2, by omega⟩ (by omega)) (hC M1 r1).1 (hC M1 r1).2 r2))
    (k3 := fun q1 q2 q3 q4 M1 r1 M2 r2 M3 r3 => ?_) (k4 := fun q1 q2 q3 q4 => ?_) (k5 := fun _ _ q => no (fun u => q (by have := u.2.2; omega)))
  · have ok : okTp W x1 x2 x3 := ⟨by omega, q2, by omega⟩
    have e1 : aTp W x1 x2 x3 = dsw (sH (stP (P0 (addA W 1 x1 x2 x3)) (x3 + 1))) := by unfold aTp; rw [if_pos ok, if_pos (by omega)]
    have e2 : nTp W x1 x2 x3 = addA W 1 x1 x2 x3 := by unfold nTp; rw [if_pos ⟨ok, by omega⟩]
    refine q_eq ?_ (hQ M3 ⟨by rw [e2]; exact r3.1.1, ?_⟩)
    · rw [e1]; exact (FR_X (cfr r3.1) (by show 0 ≤ x3 ∧ x3 < wY W; omega)).2
    · subst r2; subst r1
      exact Fr_trans (Fr_trans Fr_put (CQ_4 Fr_fg)) (CQ_4 r3.2)
  · have ok : okTp W x1 x2 x3 := ⟨by omega, q2, by omega⟩
    have := hQ M ⟨by unfold nTp; rw [if_neg (fun u => by omega)]; exact h, Fr_refl⟩
    unfold aTp at this; rw [if_pos ok, if_neg (by omega)] at this; exact this
theorem cq133 {M : dsMem} {W : dsW} (h : CI M W) : bCt 133 [uR 10 0] M (fun _ => [uI (aUn W)]) (fun M' => CI M' (nUn W) ∧ Fr CQ4 M M') := by
  intro Q hQ
  have b := CI_b h
  have hw := h.1
  have hw1 := hw.1
  refine r133_0 (hA1 := fun _ _ => forget_ct) (k1 := fun q1 q2 M1 r1 => ?_) (k2 := fun q1 q2 => ?_) (k3 := fun q => ?_)
  · have e2 : nUn W = cutA W (evN (wA W) - 1) := by unfold nUn; rw [if_pos ⟨by omega, by omega⟩]
    have e1 : aUn W = evN (wA W) - 1 := by unfold aUn; rw [if_pos (by omega), if_pos (by omega)]
    have e3 : M 40 0 - 1 = evN (wA W) - 1 := by omega
    rw [e3] at r1
    refine q_eq ?_ (hQ M1 ⟨by rw [e2]; exact CI_fg (WOK_cut hw (by omega) (by omega)) (C24_cut h.2.1 (by omega)) (Dfl_s h.2.2.1 (by omega)) r1, ?_⟩)
    · rw [e1, r1, ds_gn (by omega), ds_gn (by omega), ds_gn (by omega), ds_get_eq]
    · subst r1
      exact Fr_trans (Fr_set Fr_refl (Or.inr (by omega))) (CQ_4 Fr_fg)
  · have := hQ M ⟨by unfold nUn; rw [if_neg (by omega)]; exact h, Fr_refl⟩
    unfold aUn at this; rw [if_pos (by omega), if_neg (by omega)] at this; exact this
  · have := hQ M ⟨by unfold nUn; rw [if_neg (by omega)]; exact h, Fr_refl⟩
    unfold aUn at this; rw [if_neg (by omega)] at this; exact this
theorem cq134 {M : dsMem} {W : dsW} (h : CI M W) : bCt 134 [uR 10 0, uX 0] M (fun _ => [uI (aAn W)]) (fun M' => CI M' (nAn W) ∧ Fr CQ4 M M') := by
  intro Q hQ
  have b := CI_b h
  have hw := h.1
  have hw1 := hw.1
  refine r134_0 (hA1 := fun _ => forget_ct) (k1 := fun q1 M1 r1 => ?_) (k2 := fun q => ?_)
  · have e2 : nAn W = cutA W 0 := by unfold nAn; rw [if_pos (by omega)]
    have e1 : aAn W = evN (wA W) := by unfold aAn; rw [if_pos (by omega)]
    refine q_eq ?_ (hQ M1 ⟨by rw [e2]; exact CI_fg (WOK_cut hw (by omega) (by omega)) (C24_cut h.2.1 (by omega)) (Dfl_s h.2.2.1 (by omega)) r1, ?_⟩)
    · rw [e1]; omega
    · subst r1
      exact Fr_trans (Fr_set Fr_refl (Or.inr (by omega))) (CQ_4 Fr_fg)
  · have := hQ M ⟨by unfold nAn; rw [if_neg (by omega)]; exact h, Fr_refl⟩
    unfold aAn at this; rw [if_neg (by omega)] at this; exact this
theorem cq137 {M : dsMem} {W : dsW} {x1 x2 : Int} (h : CI M W) : bCt 137 [uR 10 0, uI x1, uI x2, uX 0] M (fun _ => [uI (aRt W x1 x2)]) (fun M' => CI M' (nRt W x1 x2) ∧ Fr CQ4 M M') := by
  intro Q hQ
  have b := CI_b h
  have hw := h.1
  have hw1 := hw.1
  have no : ¬ okRt W x1 x2 → Q [uI (-2)] M := fun q => by
    have := hQ M ⟨by unfold nRt; rw [if_neg (fun u => q u.1)]; exact h, Fr_refl⟩
    unfold aRt at this; rw [if_neg q] at this; exact this
  refine r137_0 (k1 := fun q => no (fun u => q (by have := u.1; omega))) (hA1 := fun _ _ _ => forget_ct) (k2 := fun q1 q2 q3 M1 r1 => ?_) (k3 := fun q1 q2 q3 => ?_) (k4 := fun _ q => no (fun u => q u.2))
  · have ok : okRt W x1 x2 := ⟨by omega, q2⟩
    have e2 : nRt W x1 x2 = wSetBe W x1 x2 := by unfold nRt; rw [if_pos ⟨ok, by omega⟩]
    have e1 : aRt W x1 x2 = wBe W x1 := by unfold aRt; rw [if_pos ok, if_pos (by omega)]
    refine q_eq ?_ (hQ M1 ⟨by rw [e2]; exact CI_fg (WOK_be hw q2) (C24_be h.2.1) (Dfl_s h.2.2.1 (by omega)) r1, ?_⟩)
    · rw [e1]; exact (h.2.1.2.1 x1 (by omega) (by omega)).1
    · subst r1
      exact Fr_trans (Fr_set Fr_refl (Or.inr (by omega))) (CQ_4 Fr_fg)
  · have ok : okRt W x1 x2 := ⟨by omega, q2⟩
    have := hQ M ⟨by unfold nRt; rw [if_neg (fun u => by omega)]; exact h, Fr_refl⟩
    unfold aRt at this; rw [if_pos ok, if_neg (by omega)] at this; exact this
-- the reference
theorem RWd_cut {M : dsMem} {W : dsW} {n : Int} (h : RWd (M 85) W) (h1 : n ≤ evN (wA W)) (h2 : WOK W) (h3 : 0 ≤ n) : RWd (dsSet M 85 7 n 85) (cutA W n) := by
  obtain ⟨a, b, c, d, e, f⟩ := h
  have hw := h2.1
  have g : ∀ j, j ≠ 7 → dsSet M 85 7 n 85 j = M 85 j := fun j q => by rw [ds_gn (by omega)]
  have g7 : dsSet M 85 7 n 85 7 = n := ds_get_eq
  refine ⟨⟨?_, ?_, ?_, ?_, ?_, ?_, ?_, g7, ?_⟩, ?_, ?_, ?_, ?_, ?_⟩
  · rw [g _ (by omega)]; exact a.1
  · rw [g _ (by omega)]; exact a.2.1
  · rw [g _ (by omega)]; exact a.2.2.1
  · rw [g _ (by omega)]; exact a.2.2.2.1
  · rw [g _ (by omega)]; exact a.2.2.2.2.1
  · rw [g _ (by omega)]; exact a.2.2.2.2.2.1
  · rw [g _ (by omega)]; exact a.2.2.2.2.2.2.1
  · rw [g _ (by omega)]; exact a.2.2.2.2.2.2.2.2
  · intro w w0 w1
    rw [g _ (by omega), g _ (by omega)]; exact b w w0 w1
  · intro s s0 s1
    rw [g _ (by omega), g _ (by omega), g _ (by omega)]; exact c s s0 s1
  · intro i i0 i1
    rw [g _ (by omega), g _ (by omega), g _ (by omega)]; exact d i i0 i1
  · intro i i0 i1
    rw [g _ (by omega), g _ (by omega), g _ (by omega)]; exact e i i0 i1
  · intro i i0 i1
    have i2 : i < n := i1
    rw [g _ (by omega)]; exact f i i0 (by omega)
theorem RWd_be {M : dsMem} {W : dsW} {w v : Int} (h : RWd (M 85) W) (h2 : WOK W) (hw0 : 0 ≤ w ∧ w ≤ wW W - 1) : RWd (dsSet M 85 (9 + 2 * w) v 85) (wSetBe W w v) := by
  obtain ⟨a, b, c, d, e, f⟩ := h
  have hw := h2.1
  have g : ∀ j, j ≠ 9 + 2 * w → dsSet M 85 (9 + 2 * w) v 85 j = M 85 j := fun j q => by rw [ds_gn (by omega)]
  have g7 : dsSet M 85 (9 + 2 * w) v 85 (9 + 2 * w) = v := ds_get_eq
  refine ⟨⟨?_, ?_, ?_, ?_, ?_, ?_, ?_, ?_, ?_⟩, ?_, ?_, ?_, ?_, ?_⟩
  · rw [g _ (by omega)]; exact a.1
  · rw [g _ (by omega)]; exact a.2.1
  · rw [g _ (by omega)]; exact a.2.2.1
  · rw [g _ (by omega)]; exact a.2.2.2.1
  · rw [g _ (by omega)]; exact a.2.2.2.2.1
  · rw [g _ (by omega)]; exact a.2.2.2.2.2.1
  · rw [g _ (by omega)]; exact a.2.2.2.2.2.2.1
  · rw [g _ (by omega)]; exact a.2.2.2.2.2.2.2.1
  · rw [g _ (by omega)]; exact a.2.2.2.2.2.2.2.2
  · intro u u0 u1
    have u2 : u < wW W := u1
    rw [g (9 + 2 * u + 1) (by omega)]
    refine ⟨?_, (b u u0 u1).2⟩
    show _ = dsUpd (wBe W) w v u
    by_cases hu : u = w
    · subst hu; rw [g7, upd_e]
    · rw [g _ (by omega), upd_n _ _ hu]; exact (b u u0 u1).1
  · intro s s0 s1
    rw [g _ (by omega), g _ (by omega), g _ (by omega)]; exact c s s0 s1
  · intro i i0 i1
    rw [g _ (by omega), g _ (by omega), g _ (by omega)]; exact d i i0 i1
  · intro i i0 i1
    rw [g _ (by omega), g _ (by omega), g _ (by omega)]; exact e i i0 i1
  · intro i i0 i1
    rw [g _ (by omega)]; exact f i i0 i1
def kept (M : dsMem) (x : Int) : dsMem := dsSet (dsSet M 85 (75 + M 85 7) x) 85 7 ((dsSet M 85 (75 + M 85 7) x) 85 7 + 1)
theorem RWd_add {M : dsMem} {W : dsW} {k o m y x : Int} (h : RWd (M 85) W) (h2 : WOK W) (hn : evN (wA W) < 30) (hx : (if k = 0 then 0 else 10000000) + 100000 * m + 1000 * o + y = x) : RWd (kept M x 85) (addA W k o m y) := by
  obtain ⟨a, b, c, d, e, f⟩ := h
  have hw := h2.1
  have e7 : M 85 7 = evN (wA W) := a.2.2.2.2.2.2.2.1
  have g : ∀ j, j ≠ 7 → j ≠ 75 + evN (wA W) → kept M x 85 j = M 85 j := fun j q1 q2 => by unfold kept; rw [ds_gn (by omega), ds_gn (by omega)]
  have g7 : kept M x 85 7 = evN (wA W) + 1 := by unfold kept; rw [ds_get_eq, ds_gn (by omega), e7]
  have gx : kept M x 85 (75 + evN (wA W)) = x := by unfold kept; rw [ds_gn (by omega), e7, ds_get_eq]
  refine ⟨⟨?_, ?_, ?_, ?_, ?_, ?_, ?_, g7, ?_⟩, ?_, ?_, ?_, ?_, ?_⟩
  · rw [g _ (by omega) (by omega)]; exact a.1
  · rw [g _ (by omega) (by omega)]; exact a.2.1
  · rw [g _ (by omega) (by omega)]; exact a.2.2.1
  · rw [g _ (by omega) (by omega)]; exact a.2.2.2.1
  · rw [g _ (by omega) (by omega)]; exact a.2.2.2.2.1
  · rw [g _ (by omega) (by omega)]; exact a.2.2.2.2.2.1
  · rw [g _ (by omega) (by omega)]; exact a.2.2.2.2.2.2.1
  · rw [g _ (by omega) (by omega)]; exact a.2.2.2.2.2.2.2.2
  · intro u u0 u1
    have u2 : u < wW W := u1
    rw [g _ (by omega) (by omega), g _ (by omega) (by omega)]; exact b u u0 u1
  · intro s s0 s1
    have s2 : s < wN W := s1
    rw [g _ (by omega) (by omega), g _ (by omega) (by omega), g _ (by omega) (by omega)]; exact c s s0 s1
  · intro i i0 i1
    have i2 : i < evN (wR W) := i1
    rw [g _ (by omega) (by omega), g _ (by omega) (by omega), g _ (by omega) (by omega)]; exact d i i0 i1
  · intro i i0 i1
    have i2 : i < evN (wT W) := i1
    rw [g _ (by omega) (by omega), g _ (by omega) (by omega), g _ (by omega) (by omega)]; exact e i i0 i1
  · intro i i0 i1
    have i2 : i < evN (wA W) + 1 := i1
    show kept M x 85 (75 + i) = (if dsUpd (evK (wA W)) (evN (wA W)) k i = 0 then 0 else 10000000) + 100000 * dsUpd (evM (wA W)) (evN (wA W)) m i + 1000 * dsUpd (evO (wA W)) (evN (wA W)) o i + dsUpd (evY (wA W)) (evN (wA W)) y i
    by_cases hi : i = evN (wA W)
    · subst hi
      rw [upd_e, upd_e, upd_e, upd_e, gx, hx]
    · rw [upd_n _ _ hi, upd_n _ _ hi, upd_n _ _ hi, upd_n _ _ hi, g _ (by omega) (by omega)]
      exact f i i0 (by omega)
theorem keepAct_ct {M : dsMem} {W W' : dsW} {x : Int} (h : RI0 M W) (h' : evN (wA W) < 30 → RI0 (kept M x) W') (hl : wLn W' = wLn W) : bCt 317 [uR 11 84, uI x] M (fun _ => [uI (if evN (wA W) < 30 then 1 else 0)]) (fun M' => Fr RQ4 M M' ∧ if evN (wA W) < 30 then RN M' W' else M' = M) := by
  intro Q hQ
  have b := RI_b h
  have hw := h.1.1
  have e75 : dsSet M 85 (75 + M 85 7) x 85 7 = M 85 7 := ds_gn (by omega)
  refine r317_0 (s2 := fun _ => by rw [e75]; omega) (hA1 := fun q => asksChoir_ct (h' (by omega))) (k1 := fun q M1 r1 => ?_) (k2 := fun q => ?_)
  · have := hQ M1 ⟨?_, by rw [if_pos (by omega)]; exact r1.1⟩
    · rw [if_pos (by omega)] at this; exact this
    · exact Fr_trans (Fr_set (Fr_set Fr_refl (Or.inr rfl)) (Or.inr rfl)) (RQ_4 r1.2)
  · have := hQ M ⟨Fr_refl, by rw [if_neg (by omega)]⟩
    rw [if_neg (by omega)] at this; exact this
theorem rq318 {M : dsMem} {W : dsW} {x1 x2 x3 : Int} (h : RI0 M W) : bCt 318 [uR 11 84, uI x1, uI x2, uI x3] M (fun _ => [uI (aRn W x1 x2 x3)]) (fun M' => RI0 M' (nRn W x1 x2 x3) ∧ Fr RQ4 M M') := by
  intro Q hQ
  have b := RI_b h
  have hw := h.1
  have hw1 := hw.1
  have no : ¬ okRn W x1 x2 x3 → Q [uI (-2)] M := fun q => by
    have := hQ M ⟨by unfold nRn; rw [if_neg (fun u => q u.1)]; exact h, Fr_refl⟩
    unfold aRn at this; rw [if_neg q] at this; exact this
  have hWk : okRn W x1 x2 x3 → evN (wA W) < 30 → WOK (addA W 0 x2 x1 x3) := fun q1 q2 => WOK_add hw q1.2.2.1 q2 (by have := q1.2.2; omega) (Or.inl ⟨rfl, q1.2.1.1, q1.2.1.2, q1.1.1, q1.1.2⟩)
  refine r318_0 (k1 := fun q => no (fun u => q u.1)) (k2 := fun _ q => no (fun u => q u.2.1)) (hA1 := fun q1 q2 q3 => keepAct_ct (W' := addA W 0 x2 x1 x3) h (fun q => ⟨hWk ⟨q1, q2, by omega⟩ q, RWd_add h.2 hw q (by rw [if_pos rfl]; omega)⟩) rfl)
    (s3 := fun q1 q2 q3 M1 r1 q4 i a i0 i1 => by have r2 := r1.2; rw [if_pos (if01_1 q4)] at r2; have b3 := RI_b r2.1; omega) (s4 := fun q1 q2 q3 M1 r1 q4 i a i0 i1 => by have r2 := r1.2; rw [if_pos (if01_1 q4)] at r2; have b3 := RI_b r2.1; omega) (k3 := fun q1 q2 q3 M1 r1 q4 => ?_) (k4 := fun q1 q2 q3 M1 r1 q4 => ?_) (k5 := fun _ _ q => no (fun u => q (by have := u.2.2; omega)))
  · have ok : okRn W x1 x2 x3 := ⟨q1, q2, by omega⟩
    have z := if01_0 q4
    have r2 := r1.2
    rw [if_neg z] at r2
    subst r2
    have := hQ M1 ⟨by unfold nRn; rw [if_neg (fun u => z u.2)]; exact h, Fr_refl⟩
    unfold aRn at this; rw [if_pos ok, if_neg z] at this; exact this
  · have ok : okRn W x1 x2 x3 := ⟨q1, q2, by omega⟩
    have z := if01_1 q4
    have r2 := r1.2
    rw [if_pos z] at r2
    have e1 : aRn W x1 x2 x3 = wTot (P0 (addA W 0 x2 x1 x3)) (wY W) := by unfold aRn; rw [if_pos ok, if_pos z]
    have e2 : nRn W x1 x2 x3 = addA W 0 x2 x1 x3 := by unfold nRn; rw [if_pos ⟨ok, z⟩]
    refine q_eq ?_ (hQ M1 ⟨by rw [e2]; exact r2.1, r1.1⟩)
    rw [e1]; exact v243_eq (W := addA W 0 x2 x1 x3) r2.2.2 r2.1 rfl rfl
theorem rq319 {M : dsMem} {W : dsW} {x1 x2 x3 : Int} (h : RI0 M W) : bCt 319 [uR 11 84, uI x1, uI x2, uI x3] M (fun _ => [uI (aTp W x1 x2 x3)]) (fun M' => RI0 M' (nTp W x1 x2 x3) ∧ Fr RQ4 M M') := by
  intro Q hQ
  have b := RI_b h
  have hw := h.1
  have hw1 := hw.1
  have no : ¬ okTp W x1 x2 x3 → Q [uI (-2)] M := fun q => by
    have := hQ M ⟨by unfold nTp; rw [if_neg (fun u => q u.1)]; exact h, Fr_refl⟩
    unfold aTp at this; rw [if_neg q] at this; exact this
  have hWk : okTp W x1 x2 x3 → evN (wA W) < 30 → WOK (addA W 1 x1 x2 x3) := fun q1 q2 => WOK_add hw q1.2.2.1 q2 (by have := q1.2.2; omega) (Or.inr ⟨rfl, q1.1.1, by have := q1.1.2; omega, q1.2.1.1, q1.2.1.2⟩)
  refine r319_0 (k1 := fun q => no (fun u => q (by have := u.1; omega))) (k2 := fun _ q => no (fun u => q u.2.1)) (hA1 := fun q1 q2 q3 => keepAct_ct (W' := addA W 1 x1 x2 x3) h (fun q => ⟨hWk ⟨by omega, q2, by omega⟩ q, RWd_add h.2 hw q (by rw [if_neg (by omega)])⟩) rfl)
    (k3 := fun q1 q2 q3 M1 r1 q4 => ?_) (k4 := fun q1 q2 q3 M1 r1 q4 => ?_) (k5 := fun _ _ q => no (fun u => q (by have := u.2.2; omega)))
  · have ok : okTp W x1 x2 x3 := ⟨by omega, q2, by omega⟩
    have z := if01_0 q4
    have r2 := r1.2
    rw [if_neg z] at r2
    subst r2
    have := hQ M1 ⟨by unfold nTp; rw [if_neg (fun u => z u.2)]; exact h, Fr_refl⟩
    unfold aTp at this; rw [if_pos ok, if_neg z] at this; exact this
  · have ok : okTp W x1 x2 x3 := ⟨by omega, q2, by omega⟩
    have z := if01_1 q4
    have r2 := r1.2
    rw [if_pos z] at r2
    have e1 : aTp W x1 x2 x3 = dsw (sH (stP (P0 (addA W 1 x1 x2 x3)) (x3 + 1))) := by unfold aTp; rw [if_pos ok, if_pos z]
    have e2 : nTp W x1 x2 x3 = addA W 1 x1 x2 x3 := by unfold nTp; rw [if_pos ⟨ok, z⟩]
    refine q_eq ?_ (hQ M1 ⟨by rw [e2]; exact r2.1, r1.1⟩)
    rw [e1]; exact (RR_X r2.2.2 (by show 0 ≤ x3 ∧ x3 < wY W; omega)).2
theorem rq320 {M : dsMem} {W : dsW} (h : RI0 M W) : bCt 320 [uR 11 84] M (fun _ => [uI (aUn W)]) (fun M' => RI0 M' (nUn W) ∧ Fr RQ4 M M') := by
  intro Q hQ
  have b := RI_b h
  have hw := h.1
  have hw1 := hw.1
  refine r320_0 (k1 := fun q1 q2 => ?_) (k2 := fun q1 q2 => ?_) (k3 := fun q => ?_)
  · have e2 : nUn W = cutA W (evN (wA W) - 1) := by unfold nUn; rw [if_pos ⟨by omega, by omega⟩]
    have e1 : aUn W = evN (wA W) - 1 := by unfold aUn; rw [if_pos (by omega), if_pos (by omega)]
    have e3 : M 85 7 - 1 = evN (wA W) - 1 := by omega
    refine q_eq ?_ (hQ _ ⟨?_, Fr_set Fr_refl (Or.inr rfl)⟩)
    · rw [e1, e3]
    · rw [e2, e3]; exact ⟨WOK_cut hw (by omega) (by omega), RWd_cut h.2 (by omega) hw (by omega)⟩
  · have := hQ M ⟨by unfold nUn; rw [if_neg (by omega)]; exact h, Fr_refl⟩
    unfold aUn at this; rw [if_pos (by omega), if_neg (by omega)] at this; exact this
  · have := hQ M ⟨by unfold nUn; rw [if_neg (by omega)]; exact h, Fr_refl⟩
    unfold aUn at this; rw [if_neg (by omega)] at this; exact this
theorem rq321 {M : dsMem} {W : dsW} (h : RI0 M W) : bCt 321 [uR 11 84, uX 0] M (fun _ => [uI (aAn W)]) (fun M' => RI0 M' (nAn W) ∧ Fr RQ4 M M') := by
  intro Q hQ
  have b := RI_b h
  have hw := h.1
  have hw1 := hw.1
  refine r321_0 (k1 := fun q1 => ?_) (k2 := fun q => ?_)
  · have e2 : nAn W = cutA W 0 := by unfold nAn; rw [if_pos (by omega)]
    have e1 : aAn W = evN (wA W) := by unfold aAn; rw [if_pos (by omega)]
    refine q_eq ?_ (hQ _ ⟨?_, Fr_set Fr_refl (Or.inr rfl)⟩)
    · rw [e1]; omega
    · rw [e2]; exact ⟨WOK_cut hw (by omega) (by omega), RWd_cut h.2 (by omega) hw (by omega)⟩
  · have := hQ M ⟨by unfold nAn; rw [if_neg (by omega)]; exact h, Fr_refl⟩
    unfold aAn at this; rw [if_neg (by omega)] at this; exact this
theorem rq326 {M : dsMem} {W : dsW} {x1 x2 : Int} (h : RI0 M W) : bCt 326 [uR 11 84, uI x1, uI x2, uX 0] M (fun _ => [uI (aRt W x1 x2)]) (fun M' => RI0 M' (nRt W x1 x2) ∧ Fr RQ4 M M') := by
  intro Q hQ
  have b := RI_b h
  have hw := h.1
  have hw1 := hw.1
  have no : ¬ okRt W x1 x2 → Q [uI (-2)] M := fun q => by
    have := hQ M ⟨by unfold nRt; rw [if_neg (fun u => q u.1)]; exact h, Fr_refl⟩
    unfold aRt at this; rw [if_neg q] at this; exact this
  refine r326_0 (k1 := fun q => no (fun u => q (by have := u.1; omega))) (k2 := fun q1 q2 q3 => ?_) (k3 := fun q1 q2 q3 => ?_) (k4 := fun _ q => no (fun u => q u.2))
  · have ok : okRt W x1 x2 := ⟨by omega, q2⟩
    have e2 : nRt W x1 x2 = wSetBe W x1 x2 := by unfold nRt; rw [if_pos ⟨ok, by omega⟩]
    have e1 : aRt W x1 x2 = wBe W x1 := by unfold aRt; rw [if_pos ok, if_pos (by omega)]
    refine q_eq ?_ (hQ _ ⟨?_, Fr_set Fr_refl (Or.inr rfl)⟩)
    · rw [e1]; exact (h.2.2.1 x1 (by omega) (by omega)).1
    · rw [e2]; exact ⟨WOK_be hw q2, RWd_be h.2 hw (by omega)⟩
  · have ok : okRt W x1 x2 := ⟨by omega, q2⟩
    have := hQ M ⟨by unfold nRt; rw [if_neg (fun u => by omega)]; exact h, Fr_refl⟩
    unfold aRt at this; rw [if_pos ok, if_neg (by omega)] at this; exact this
