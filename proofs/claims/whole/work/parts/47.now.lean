/-! both sides as they are now -/
theorem bit_m1 {i : Int} (h : 0 ≤ i ∧ i < 8) : dsBit (-1) i := by
  have : i = 0 ∨ i = 1 ∨ i = 2 ∨ i = 3 ∨ i = 4 ∨ i = 5 ∨ i = 6 ∨ i = 7 := by omega
  rcases this with e | e | e | e | e | e | e | e <;> subst e <;> decide
theorem bit_255 {i : Int} (h : 0 ≤ i ∧ i < 8) : dsBit 255 i := by
  have : i = 0 ∨ i = 1 ∨ i = 2 ∨ i = 3 ∨ i = 4 ∨ i = 5 ∨ i = 6 ∨ i = 7 := by omega
  rcases this with e | e | e | e | e | e | e | e <;> subst e <;> decide
theorem bit_63 {i : Int} (h : 0 ≤ i ∧ i < 6) : dsBit 63 i := by
  have : i = 0 ∨ i = 1 ∨ i = 2 ∨ i = 3 ∨ i = 4 ∨ i = 5 := by omega
  rcases this with e | e | e | e | e | e <;> subst e <;> decide
theorem bit_0 {i : Int} (h : 0 ≤ i ∧ i < 8) : ¬ dsBit 0 i := by
  have : i = 0 ∨ i = 1 ∨ i = 2 ∨ i = 3 ∨ i = 4 ∨ i = 5 ∨ i = 6 ∨ i = 7 := by omega
  rcases this with e | e | e | e | e | e | e | e <;> subst e <;> decide
theorem bit_all0 : ∀ n : Fin 7, ∀ i : Fin 6, (dsAnd (dsShr (dsShl 1 ((n.val : Nat) : Int) - 1) ((i.val : Nat) : Int)) 1 = if i.val < n.val then 1 else 0) := by decide
theorem bit_all {n i : Int} (hn : 0 ≤ n ∧ n ≤ 6) (hi : 0 ≤ i ∧ i < 6) : dsAnd (dsShr (dsShl 1 n - 1) i) 1 = if i < n then 1 else 0 := by
  have h := bit_all0 ⟨n.toNat, by omega⟩ ⟨i.toNat, by omega⟩
  simp only [show ((n.toNat : Nat) : Int) = n by omega, show ((i.toNat : Nat) : Int) = i by omega] at h
  rw [h]
  exact if_iff ⟨fun q => by omega, fun q => by omega⟩
def P0 (W : dsW) : dsP := mkP W (wLw W) (wRo W) (wBe W) (fun _ => true) (fun _ => true) (fun _ => true) (fun _ _ => false)
theorem P0_ok {W : dsW} (h : WOK W) : POK (P0 W) := by
  refine POK_mk h (fun s s0 s1 => ?_) (fun w w0 w1 => ?_)
  · have := h.2.2.1 s s0 s1; omega
  · have := h.2.1 w w0 w1; omega
/-- the state in a year of a run -/
def stP (P : dsP) (y : Int) : dsS := dsStN P (dyInit P) 0 y.toNat
abbrev aL (P : dsP) (y s : Int) : dsL := sL (stP P y) s
abbrev aH (P : dsP) (y s : Int) : Int := dySum (sL (stP P y) s)
def dyG (l : dsL) (i : Int) : Int × Int := l.getD i.toNat (0, 0)
theorem dyG_0 (p : Int × Int) (l : dsL) : dyG (p :: l) 0 = p := rfl
theorem dyG_s (p : Int × Int) (l : dsL) {i : Int} (h : 0 ≤ i) : dyG (p :: l) (i + 1) = dyG l i := by
  unfold dyG
  rw [show (i + 1).toNat = i.toNat + 1 by omega]; rfl
theorem dyRp_get {M : dsMem} {sa ma : Int} : ∀ {l : dsL} {b i : Int}, dyRp M sa ma b l → 0 ≤ i → i < (l.length : Int) → M sa (b + i) = (dyG l i).1 ∧ M ma (b + i) = (dyG l i).2
  | [], _, i, _, h0, h1 => by simp only [List.length_nil] at h1; omega
  | p :: l, b, i, h, h0, h1 => by
    simp only [List.length_cons] at h1
    by_cases hi : i = 0
    · subst hi
      rw [Int.add_zero, dyG_0]; exact h.1
    · have e := dyRp_get (i := i - 1) h.2 (by omega) (by omega)
      have e2 := dyG_s p l (i := i - 1) (by omega)
      rw [show i - 1 + 1 = i by omega] at e2
      rw [show b + 1 + (i - 1) = b + i by omega] at e
      rw [e2]; exact e
-- the class's side, as it is now
def Dfl (M : dsMem) (a : Int) : Prop := M a 0 = -1 ∧ M a 1 = -1 ∧ M a 2 = -1 ∧ M a 3 = 0 ∧ M a 4 = -1 ∧ M a 5 = -1 ∧ M a 6 = 0 ∧ M a 7 = -1 ∧ M a 8 = 0
theorem CP0 {M : dsMem} {x0 : Int} {W : dsW} (hK : WOK W) (h : C24 M W) (hd : Dfl M (x0 + 1)) : CWp M x0 (P0 W) ∧ CE M x0 (P0 W) := by
  obtain ⟨d0, d1, d2, d3, d4, d5, d6, d7, d8⟩ := hd
  have k := hK.1
  refine CP_mk hK h ?_ ?_ ?_ ?_ ?_ ?_
  · rw [if_pos d0]
  · intro s s0 s1
    rw [d3, if_neg (bit_0 (by omega)), if_neg (by omega)]
  · intro s s0 s1
    rw [d4]
    exact ⟨fun _ => rfl, fun _ => bit_m1 (by omega)⟩
  · intro w w0 w1
    rw [if_neg (by omega)]
  · intro i i0 i1
    rw [d1]
    exact ⟨fun _ => rfl, fun _ => bit_m1 (by omega)⟩
  · intro i i0 i1
    rw [d2]
    exact ⟨fun _ => rfl, fun _ => bit_m1 (by omega)⟩
/-- what the class's questions may change -/
def CQ : Int → Int → Prop := fun a j => (49 ≤ a ∧ a ≤ 83) ∨ (a = 47 ∧ j = 14) ∨ (a = 0 ∧ (j = 10 ∨ j = 11))
def wTot (P : dsP) (y : Int) : Int := dsIter (fun s a => dsw (a + aH P y s)) 0 (pN P) 0
def PA (W : dsW) (set : Int) : dsP := mkP W (wLw W) (wRo W) (wBe W) (fun s => decide (dsBit set s)) (fun _ => true) (fun _ => true) (fun _ _ => false)
def PR (W : dsW) (set : Int) : dsP := mkP W (wLw W) (wRo W) (wBe W) (fun _ => true) (fun s => decide (dsBit set s)) (fun _ => true) (fun _ _ => false)
/-- rains in time, as bits -/
def inT (W : dsW) : Int := dsIter (fun i a => if wY W ≤ evY (wR W) i then a else dsOr a (dsShl 1 i)) 0 (evN (wR W)) 0
def wgt (W : dsW) (set inn : Int) : Int := dsIter (fun i a => if dsAnd (dsShr inn i) 1 = 1 then (if dsAnd (dsShr set i) 1 = 1 then dsw64 (a * wOd W) else dsw64 (a * (10 - wOd W))) else a) 0 8 1
def wgt2 (W : dsW) (set : Int) : Int := if dsAnd set (dsXor (inT W) (-1)) = 0 then wgt W set (inT W) else 0
def oAll (W : dsW) : Int := dsIter (fun i a => if dsAnd (dsShr (inT W) i) 1 = 1 then a * 10 else a) 0 8 1
def oHas (W : dsW) : Int := dsIter (fun set a => if 0 < wgt2 W set then dsw64 (a + wgt2 W set * wTot (PR W set) (wY W)) else a) 0 (dsShl 1 (evN (wR W))) 0
def oSta (W : dsW) (w : Int) : Int := dsIter (fun set a => if 0 < wgt2 W set ∧ dsBit (sU (stP (PR W set) (wY W))) w then dsw64 (a + wgt2 W set) else a) 0 (dsShl 1 (evN (wR W))) 0
def CI (M : dsMem) (W : dsW) : Prop :=
  WOK W ∧ C24 M W ∧ Dfl M 48 ∧ (M 0 10 = 0 ∨ (M 0 10 = 1 ∧ FR M 47 (P0 W))) ∧
  (M 0 11 = 0 ∨ (M 0 11 = 1 ∧ ∀ set, 0 ≤ set → set < dsShl 1 (wN W) → M 83 set = wTot (PA W set) (wY W))) ∧
  (M 81 0 = 0 ∨ (M 81 0 = 1 ∧ M 81 1 = oAll W ∧ M 81 2 = oHas W ∧ ∀ w, 0 ≤ w → w < 3 → M 82 w = oSta W w))
theorem C24_e {M M' : dsMem} {W : dsW} (h : C24 M W) (e : ∀ a j, 24 ≤ a → a ≤ 44 → M' a j = M a j) : C24 M' W := by
  unfold C24 at h ⊢
  simp only [e 24 _ (by omega) (by omega), e 25 _ (by omega) (by omega), e 26 _ (by omega) (by omega), e 27 _ (by omega) (by omega), e 28 _ (by omega) (by omega), e 29 _ (by omega) (by omega), e 30 _ (by omega) (by omega), e 31 _ (by omega) (by omega), e 32 _ (by omega) (by omega), e 33 _ (by omega) (by omega), e 34 _ (by omega) (by omega), e 35 _ (by omega) (by omega), e 36 _ (by omega) (by omega), e 37 _ (by omega) (by omega), e 38 _ (by omega) (by omega), e 39 _ (by omega) (by omega), e 40 _ (by omega) (by omega), e 41 _ (by omega) (by omega), e 42 _ (by omega) (by omega), e 43 _ (by omega) (by omega), e 44 _ (by omega) (by omega)]
  exact h
theorem Dfl_e {M M' : dsMem} {a : Int} (h : Dfl M a) (e : ∀ j, M' a j = M a j) : Dfl M' a := by
  unfold Dfl at h ⊢
  simp only [e]; exact h
theorem FR_e {M M' : dsMem} {x0 : Int} {P : dsP} (hP : POK P) (h : FR M x0 P) (e : ∀ a j, x0 + 2 ≤ a → a ≤ x0 + 12 → M' a j = M a j) : FR M' x0 P := by
  obtain ⟨a, b, c, d⟩ := h
  refine ⟨fun k hk => ⟨⟨?_, ?_, ?_⟩, (a k hk).2⟩, ?_, ⟨?_, ?_⟩, d⟩
  · intro s s0 s1
    exact cell_ne ((a k hk).1.1 s s0 s1) (fun a j q => e a j (by omega) (by omega))
  · intro w w0 w1
    rw [e _ _ (by omega) (by omega)]; exact (a k hk).1.2.1 w w0 w1
  · rw [e _ _ (by omega) (by omega)]; exact (a k hk).1.2.2
  · intro k hk
    rw [e _ _ (by omega) (by omega), e _ _ (by omega) (by omega)]; exact b k hk
  · intro k k0 k1
    rw [e _ _ (by omega) (by omega)]; exact c.1 k k0 k1
  · intro s s0 s1
    rw [e _ _ (by omega) (by omega), e _ _ (by omega) (by omega)]; exact c.2 s s0 s1
/-- the class's side holds where nothing of it is written -/
theorem CI_e {M M' : dsMem} {W : dsW} (h : CI M W) (e : ∀ a j, 0 ≤ a → a ≤ 83 → M' a j = M a j) : CI M' W := by
  obtain ⟨a, b, c, d, f, g⟩ := h
  refine ⟨a, C24_e b (fun a j q1 q2 => e a j (by omega) (by omega)), Dfl_e c (fun j => e _ _ (by omega) (by omega)), ?_, ?_, ?_⟩
  · rw [e 0 10 (by omega) (by omega)]
    rcases d with d | d
    · exact Or.inl d
    · exact Or.inr ⟨d.1, FR_e (P0_ok a) d.2 (fun a j q1 q2 => e a j (by omega) (by omega))⟩
  · rw [e 0 11 (by omega) (by omega)]
    simp only [e 83 _ (by omega) (by omega)]; exact f
  · rw [e 81 0 (by omega) (by omega), e 81 1 (by omega) (by omega), e 81 2 (by omega) (by omega)]
    simp only [e 82 _ (by omega) (by omega)]; exact g
def CN (M : dsMem) (W : dsW) : Prop := CI M W ∧ M 0 10 = 1
theorem asNow_ct {M : dsMem} {W : dsW} (h : CI M W) : bCt 157 [uR 10 0] M (fun _ => [uR 5 47]) (fun M' => CN M' W ∧ Fr CQ M M') := by
  intro Q hQ
  obtain ⟨a, b, c, d, f, g⟩ := h
  have hp := CP0 (x0 := 47) a b c
  refine r157_0 (k1 := fun q1 => ?_) (hA1 := fun q1 => run_ct (P0_ok a) (Or.inl rfl) (fun _ _ => rfl) hp.1 hp.2) (k2 := fun q1 M1 r1 => ?_)
  · exact hQ M ⟨⟨⟨a, b, c, d, f, g⟩, by omega⟩, Fr_refl⟩
  · have hf := r1.2.2
    have e : ∀ a j, ¬ FX 47 a j → ¬ (a = 0 ∧ j = 10) → dsSet M1 0 10 1 a j = M a j := fun a j q1 q2 => by rw [ds_gn (by omega)]; exact hf a j q1
    refine hQ _ ⟨⟨⟨a, C24_e b (fun a j q1 q2 => e a j (by unfold FX; omega) (by omega)), Dfl_e c (fun j => e _ _ (by unfold FX; omega) (by omega)), Or.inr ⟨ds_get_eq, FR_e (P0_ok a) r1.1 (fun a j q1 q2 => ds_get_ne (by omega))⟩, ?_, ?_⟩, ds_get_eq⟩, ?_⟩
    · rw [e 0 11 (by unfold FX; omega) (by omega)]
      rcases f with f | f
      · exact Or.inl f
      · refine Or.inr ⟨f.1, fun set s0 s1 => ?_⟩
        rw [e 83 _ (by unfold FX; omega) (by omega)]; exact f.2 set s0 s1
    · rw [e 81 0 (by unfold FX; omega) (by omega), e 81 1 (by unfold FX; omega) (by omega), e 81 2 (by unfold FX; omega) (by omega)]
      rcases g with g | g
      · exact Or.inl g
      · refine Or.inr ⟨g.1, g.2.1, g.2.2.1, fun w w0 w1 => ?_⟩
        rw [e 82 _ (by unfold FX; omega) (by omega)]; exact g.2.2.2 w w0 w1
    · refine Fr_set (Fr_mono ?_ hf) ?_
      · intro a j q; unfold FX at q; unfold CQ; omega
      · unfold CQ; omega
/-- numbers of the class's side -/
theorem CI_b {M : dsMem} {W : dsW} (h : CI M W) : (M 24 0 = wLn W ∧ M 24 1 = wY W ∧ M 24 2 = wLw W ∧ M 24 3 = wOd W ∧ M 24 4 = wW W ∧ M 24 5 = wN W ∧ M 30 0 = evN (wR W) ∧ M 35 0 = evN (wT W) ∧ M 40 0 = evN (wA W)) ∧
    (0 ≤ wLn W ∧ wLn W ≤ 1000 ∧ 0 ≤ wY W ∧ wY W ≤ 12 ∧ 0 ≤ wLw W ∧ wLw W ≤ 3 ∧ 0 ≤ wOd W ∧ wOd W ≤ 10 ∧ 0 ≤ wW W ∧ wW W ≤ 3 ∧ 0 ≤ wN W ∧ wN W ≤ 6 ∧
    0 ≤ evN (wR W) ∧ evN (wR W) ≤ 8 ∧ 0 ≤ evN (wT W) ∧ evN (wT W) ≤ 6 ∧ 0 ≤ evN (wA W) ∧ evN (wA W) ≤ 30 ∧
    (wLn W = 0 → wY W = 0 ∧ wW W = 0 ∧ wN W = 0 ∧ evN (wR W) = 0 ∧ evN (wT W) = 0 ∧ evN (wA W) = 0) ∧ (0 < wLn W → 1 ≤ wY W)) := by
  obtain ⟨a, b, c, d, f, g⟩ := h
  exact ⟨⟨b.1.1, b.1.2.1, b.1.2.2.1, b.1.2.2.2.1, b.1.2.2.2.2.1, b.1.2.2.2.2.2, b.2.2.2.1.1, b.2.2.2.2.1.1, b.2.2.2.2.2.1⟩, a.1⟩
section
variable {M : dsMem} {P : dsP} {y s w i k : Int}
theorem FR_y (h : FR M 47 P) (hy : 0 ≤ y ∧ y ≤ pY P) : CK M 47 P y (stP P y) ∧ WS P (stP P y) := by
  have e := h.1 y.toNat (by omega)
  rw [show ((y.toNat : Nat) : Int) = y by omega] at e
  exact e
theorem FR_H (h : FR M 47 P) (hy : 0 ≤ y ∧ y ≤ pY P) (hs : 0 ≤ s ∧ s < pN P) : M 52 (y * 6 + s) = aH P y s := ((FR_y h hy).1.1 s hs.1 hs.2).2.1
theorem FR_D (h : FR M 47 P) (hy : 0 ≤ y ∧ y ≤ pY P) (hs : 0 ≤ s ∧ s < pN P) : M 51 (y * 6 + s) = ((aL P y s).length : Int) := ((FR_y h hy).1.1 s hs.1 hs.2).1
theorem FR_L (h : FR M 47 P) (hy : 0 ≤ y ∧ y ≤ pY P) (hs : 0 ≤ s ∧ s < pN P) (h0 : 0 ≤ i) (h1 : i < ((aL P y s).length : Int)) : M 49 ((y * 6 + s) * 60 + i) = (dyG (aL P y s) i).1 ∧ M 50 ((y * 6 + s) * 60 + i) = (dyG (aL P y s) i).2 :=
  dyRp_get ((FR_y h hy).1.1 s hs.1 hs.2).2.2 h0 h1
theorem FR_K (h : FR M 47 P) (hy : 0 ≤ y ∧ y ≤ pY P) (hw : 0 ≤ w ∧ w < 3) : M 53 (y * 3 + w) = sK (stP P y) w := (FR_y h hy).1.2.1 w hw.1 hw.2
theorem FR_U (h : FR M 47 P) (hy : 0 ≤ y ∧ y ≤ pY P) : M 54 y = sU (stP P y) := (FR_y h hy).1.2.2
theorem FR_X (h : FR M 47 P) (hy : 0 ≤ y ∧ y < pY P) : M 55 y = dsw (sX (stP P (y + 1))) ∧ M 56 y = dsw (sH (stP P (y + 1))) := by
  have e := h.2.1 y.toNat (by omega)
  rw [show ((y.toNat : Nat) : Int) = y by omega] at e
  unfold stP
  rw [show (y + 1).toNat = y.toNat + 1 by omega]
  exact e
end
-- the other side's, as it is now
def RQ : Int → Int → Prop := fun a j => (a = 84 ∧ 17 ≤ j ∧ j ≤ 48) ∨ (91 ≤ a ∧ a ≤ 110)
def RI0 (M : dsMem) (W : dsW) : Prop := WOK W ∧ RWd (M 85) W
def RSt (M : dsMem) (W : dsW) : Prop :=
  (M 84 17 = wLw W ∧ M 84 18 = 255 ∧ M 84 19 = 63 ∧ M 84 20 = dsShl 1 (wN W) - 1 ∧ M 84 21 = 0 ∧ M 84 22 = 0 ∧ M 84 23 = -1) ∧
  (∀ s, 0 ≤ s → s < wN W → M 91 s = wRo W s) ∧ (∀ w, 0 ≤ w → w < wW W → M 92 w = wBe W w)
theorem RI0_e {M M' : dsMem} {W : dsW} (h : RI0 M W) (e : ∀ j, M' 85 j = M 85 j) : RI0 M' W := by
  refine ⟨h.1, ?_⟩
  have e2 : M' 85 = M 85 := funext e
  rw [e2]; exact h.2
theorem RSt_e {M M' : dsMem} {W : dsW} (h : RSt M W) (e : ∀ a j, (a = 84 ∧ 17 ≤ j ∧ j ≤ 23) ∨ a = 91 ∨ a = 92 → M' a j = M a j) : RSt M' W := by
  unfold RSt at h ⊢
  have e91 : ∀ j, M' 91 j = M 91 j := fun j => e 91 j (by omega)
  have e92 : ∀ j, M' 92 j = M 92 j := fun j => e 92 j (by omega)
  simp only [e 84 17 (by omega), e 84 18 (by omega), e 84 19 (by omega), e 84 20 (by omega), e 84 21 (by omega), e 84 22 (by omega), e 84 23 (by omega), e91, e92]
  exact h
theorem asItIs_ct {M : dsMem} {W : dsW} (h : RI0 M W) : bCt 220 [uR 11 84, uX 0] M (fun _ => []) (fun M' => RSt M' W ∧ Fr (fun a j => (a = 84 ∧ 17 ≤ j ∧ j ≤ 23) ∨ a = 91 ∨ a = 92) M M') := by
  intro Q hQ
  obtain ⟨hK, hA, hB, hC, hD⟩ := h
  have k := hK.1
  have h4 : M 85 4 = wN W := hA.2.2.2.2.1
  have h1 : M 85 1 = wLw W := hA.2.1
  have hsh := @dsShl_b (wN W) (by omega)
  refine r220_0 (s1 := by rw [h4]; omega) (k1 := ?_)
  rw [h4, h1]
  refine b_forM 6 (fun s => [uR 11 84, uI s]) (fun s M' => 0 ≤ s ∧ s ≤ 6 ∧ (∀ t, 0 ≤ t → t < s → M' 91 t = M 85 (15 + 3 * t)) ∧ (M' 84 17 = wLw W ∧ M' 84 18 = 255 ∧ M' 84 19 = 63 ∧ M' 84 20 = dsShl 1 (wN W) - 1 ∧ M' 84 21 = 0 ∧ M' 84 22 = 0 ∧ M' 84 23 = -1) ∧ Fr (fun a j => (a = 84 ∧ 17 ≤ j ∧ j ≤ 23) ∨ a = 91 ∨ a = 92) M M') ?_ ?_ 0 _ ⟨by omega, by omega, fun t _ _ => by omega, ?_, ?_⟩
  · rintro s M1 ⟨s0, s6, hz, hv, hf⟩ s1 ih
    have e15 : M1 85 (15 + 3 * s + 0) = M 85 (15 + 3 * s) := by rw [Int.add_zero]; exact hf _ _ (by omega)
    refine r220_48 (k1 := fun q1 => by omega) (k2 := fun q1 => ih _ ⟨by omega, by omega, ?_, ?_, Fr_set hf (by omega)⟩)
    · intro t t0 t1
      by_cases ht : t = s
      · subst ht; rw [ds_get_eq]; exact e15
      · rw [ds_gn (by omega)]; exact hz t t0 (by omega)
    · simp (disch := omega) only [ds_gn, ds_ge]
      exact hv
  · rintro s M1 ⟨s0, s6, hz, hv, hf⟩ s1
    refine r220_48 (k1 := fun q1 => ?_) (k2 := fun q1 => by omega)
    refine b_forM 3 (fun w => [uR 11 84, uI w]) (fun w M' => 0 ≤ w ∧ w ≤ 3 ∧ (∀ t, 0 ≤ t → t < w → M' 92 t = M 85 (9 + 2 * t)) ∧ Fr (fun a j => a = 92) M1 M') ?_ ?_ 0 M1 ⟨by omega, by omega, fun t _ _ => by omega, Fr_refl⟩
    · rintro w M2 ⟨w0, w3, hw, hf2⟩ w1 ih
      refine r220_74 (k1 := fun q1 => by omega) (k2 := fun q1 => ih _ ⟨by omega, by omega, ?_, Fr_set hf2 rfl⟩)
      intro t t0 t1
      by_cases ht : t = w
      · subst ht; rw [ds_get_eq, hf2 _ _ (by omega), hf _ _ (by omega)]
      · rw [ds_gn (by omega)]; exact hw t t0 (by omega)
    · rintro w M2 ⟨w0, w3, hw, hf2⟩ w1
      refine r220_74 (k1 := fun q1 => hQ M2 ⟨⟨?_, ?_, ?_⟩, Fr_trans hf (Fr_mono ?_ hf2)⟩) (k2 := fun q1 => by omega)
      · rw [hf2 _ _ (by omega), hf2 _ _ (by omega), hf2 _ _ (by omega), hf2 _ _ (by omega), hf2 _ _ (by omega), hf2 _ _ (by omega), hf2 _ _ (by omega)]; exact hv
      · intro t t0 t1
        rw [hf2 _ _ (by omega), hz t t0 (by omega)]
        exact (hC t t0 t1).1
      · intro t t0 t1
        rw [hw t t0 (by omega)]
        exact (hB t t0 t1).1
      · intro a j q; omega
  · refine ⟨?_, ?_, ?_, ?_, ?_, ?_, ?_⟩ <;> simp (disch := omega) only [ds_gn, ds_ge]
  · refine Fr_set (Fr_set (Fr_set (Fr_set (Fr_set (Fr_set (Fr_set Fr_refl ?_) ?_) ?_) ?_) ?_) ?_) ?_ <;> omega
theorem RP0 {M : dsMem} {W : dsW} (h : RI0 M W) (hs : RSt M W) : RW M (P0 W) ∧ REv M (P0 W) := by
  obtain ⟨⟨d17, d18, d19, d20, d21, d22, d23⟩, hr, hb⟩ := hs
  have k := h.1.1
  refine RP_mk h.1 h.2 d17 ?_ ?_ hb ?_ ?_ ?_
  · intro s s0 s1
    have := h.1.2.2.1 s s0 s1
    rw [d21, if_neg (bit_0 (by omega)), hr s s0 s1]
    exact ⟨rfl, by omega, by omega⟩
  · intro s s0 s1
    rw [d20, bit_all (by omega) (by omega), if_pos s1]
    exact ⟨fun _ => rfl, fun _ => by omega⟩
  · intro i i0 i1
    rw [d18]
    exact ⟨fun _ => rfl, fun _ => bit_255 (by omega)⟩
  · intro i i0 i1
    rw [d19]
    exact ⟨fun _ => rfl, fun _ => bit_63 (by omega)⟩
  · intro y s y0 s0 s1
    rw [d23]
    exact ⟨fun q => (by cases q), fun q => by omega⟩
def RN (M : dsMem) (W : dsW) : Prop := RI0 M W ∧ RSt M W ∧ RR M (P0 W)
theorem RR_e {M M' : dsMem} {P : dsP} (hP : POK P) (h : RR M P) (e : ∀ a j, (93 ≤ a ∧ a ≤ 107) ∨ (a = 84 ∧ j = 33) → M' a j = M a j) : RR M' P := by
  obtain ⟨a, b, c, d⟩ := h
  refine ⟨fun k hk => ⟨RK_fr hP (a k hk).2 (a k hk).1 (fun a j q => e a j (by unfold KY at q; omega)), (a k hk).2⟩, fun k hk => ?_, RFc_e c (fun a j q => e a j (by omega)), d⟩
  rw [e _ _ (by omega), e _ _ (by omega)]; exact b k hk
theorem asksChoir_ct {M : dsMem} {W : dsW} (h : RI0 M W) : bCt 235 [uR 11 84] M (fun _ => [uI (if 0 < wLn W then 1 else 0)]) (fun M' => RN M' W ∧ Fr RQ M M') := by
  intro Q hQ
  have h1 : ∀ M1, (RSt M1 W ∧ Fr (fun a j => (a = 84 ∧ 17 ≤ j ∧ j ≤ 23) ∨ a = 91 ∨ a = 92) M M1) → RI0 M1 W := fun M1 r1 => RI0_e h (fun j => r1.2 _ _ (by omega))
  refine r235_0 (hA1 := asItIs_ct h) (hA2 := fun M1 r1 => goAll_ct (P0_ok h.1) (RP0 (h1 M1 r1) r1.1).1 (RP0 (h1 M1 r1) r1.1).2) (k1 := fun M1 r1 M2 r2 => ?_)
  have hf := r2.2.2.2
  have h2 : RI0 M2 W := RI0_e (h1 M1 r1) (fun j => hf _ _ (by unfold GF; omega))
  have e8 : M2 85 8 = wLn W := h2.2.1.2.2.2.2.2.2.2.2
  rw [e8]
  refine hQ M2 ⟨⟨h2, RSt_e r1.1 (fun a j q => hf a j (by unfold GF; omega)), r2.1⟩, Fr_trans (Fr_mono ?_ r1.2) (Fr_mono ?_ hf)⟩
  · intro a j q; unfold RQ; omega
  · intro a j q; unfold GF at q; unfold RQ; omega
theorem RI_b {M : dsMem} {W : dsW} (h : RI0 M W) : (M 85 0 = wY W ∧ M 85 1 = wLw W ∧ M 85 2 = wOd W ∧ M 85 3 = wW W ∧ M 85 4 = wN W ∧ M 85 5 = evN (wR W) ∧ M 85 6 = evN (wT W) ∧ M 85 7 = evN (wA W) ∧ M 85 8 = wLn W) ∧
    (0 ≤ wLn W ∧ wLn W ≤ 1000 ∧ 0 ≤ wY W ∧ wY W ≤ 12 ∧ 0 ≤ wLw W ∧ wLw W ≤ 3 ∧ 0 ≤ wOd W ∧ wOd W ≤ 10 ∧ 0 ≤ wW W ∧ wW W ≤ 3 ∧ 0 ≤ wN W ∧ wN W ≤ 6 ∧
    0 ≤ evN (wR W) ∧ evN (wR W) ≤ 8 ∧ 0 ≤ evN (wT W) ∧ evN (wT W) ≤ 6 ∧ 0 ≤ evN (wA W) ∧ evN (wA W) ≤ 30 ∧
    (wLn W = 0 → wY W = 0 ∧ wW W = 0 ∧ wN W = 0 ∧ evN (wR W) = 0 ∧ evN (wT W) = 0 ∧ evN (wA W) = 0) ∧ (0 < wLn W → 1 ≤ wY W)) := ⟨h.2.1, h.1.1⟩
theorem asksYear_ct {M : dsMem} {W : dsW} {y : Int} (h : RI0 M W) : bCt 236 [uR 11 84, uI y] M (fun _ => [uI (if 0 < wLn W ∧ 0 ≤ y ∧ y ≤ wY W then 1 else 0)]) (fun M' => RN M' W ∧ Fr RQ M M') := by
  intro Q hQ
  refine r236_0 (hA1 := asksChoir_ct h) (k1 := fun M1 r1 => ?_)
  have b := RI_b r1.1.1
  have := hQ M1 r1
  rw [← b.1.2.2.2.2.2.2.2.2, ← b.1.1] at this
  exact this
theorem asksAhead_ct {M : dsMem} {W : dsW} {y : Int} (h : RI0 M W) : bCt 237 [uR 11 84, uI y] M (fun _ => [uI (if 0 < wLn W ∧ 0 ≤ y ∧ y ≤ wY W - 1 then 1 else 0)]) (fun M' => RN M' W ∧ Fr RQ M M') := by
  intro Q hQ
  refine r237_0 (hA1 := asksChoir_ct h) (s1 := fun M1 r1 => by have b := RI_b r1.1.1; omega) (k1 := fun M1 r1 => ?_)
  have b := RI_b r1.1.1
  have := hQ M1 r1
  rw [← b.1.2.2.2.2.2.2.2.2, ← b.1.1] at this
  exact this
theorem asksStone_ct {M : dsMem} {W : dsW} {s : Int} (h : RI0 M W) : bCt 238 [uR 11 84, uI s] M (fun _ => [uI (if 0 ≤ s ∧ s ≤ wN W - 1 then 1 else 0)]) (fun M' => RN M' W ∧ Fr RQ M M') := by
  intro Q hQ
  refine r238_0 (hA1 := asksChoir_ct h) (s1 := fun M1 r1 => by have b := RI_b r1.1.1; omega) (k1 := fun M1 r1 => ?_)
  have b := RI_b r1.1.1
  have := hQ M1 r1
  rw [← b.1.2.2.2.2.1] at this
  exact this
theorem asksWall_ct {M : dsMem} {W : dsW} {w : Int} (h : RI0 M W) : bCt 239 [uR 11 84, uI w] M (fun _ => [uI (if 0 ≤ w ∧ w ≤ wW W - 1 then 1 else 0)]) (fun M' => RN M' W ∧ Fr RQ M M') := by
  intro Q hQ
  refine r239_0 (hA1 := asksChoir_ct h) (s1 := fun M1 r1 => by have b := RI_b r1.1.1; omega) (k1 := fun M1 r1 => ?_)
  have b := RI_b r1.1.1
  have := hQ M1 r1
  rw [← b.1.2.2.2.1] at this
  exact this
section
variable {M : dsMem} {P : dsP} {y s w i k : Int}
theorem RR_y (h : RR M P) (hy : 0 ≤ y ∧ y ≤ pY P) : RK M P y (stP P y) ∧ WS P (stP P y) := by
  have e := h.1 y.toNat (by omega)
  rw [show ((y.toNat : Nat) : Int) = y by omega] at e
  exact e
theorem RR_H (h : RR M P) (hy : 0 ≤ y ∧ y ≤ pY P) (hs : 0 ≤ s ∧ s < pN P) : M 102 (6 * y + s) = aH P y s := ((RR_y h hy).1.1 s hs.1 hs.2).2.1
theorem RR_D (h : RR M P) (hy : 0 ≤ y ∧ y ≤ pY P) (hs : 0 ≤ s ∧ s < pN P) : M 103 (6 * y + s) = ((aL P y s).length : Int) := ((RR_y h hy).1.1 s hs.1 hs.2).1
theorem RR_L (h : RR M P) (hy : 0 ≤ y ∧ y ≤ pY P) (hs : 0 ≤ s ∧ s < pN P) (h0 : 0 ≤ i) (h1 : i < ((aL P y s).length : Int)) : M 104 (60 * (6 * y + s) + i) = (dyG (aL P y s) i).1 ∧ M 105 (60 * (6 * y + s) + i) = (dyG (aL P y s) i).2 :=
  dyRp_get ((RR_y h hy).1.1 s hs.1 hs.2).2.2 h0 h1
theorem RR_K (h : RR M P) (hy : 0 ≤ y ∧ y ≤ pY P) (hw : 0 ≤ w ∧ w < pW P) : M 106 (3 * y + w) = sK (stP P y) w := (RR_y h hy).1.2.1 w hw.1 hw.2
theorem RR_U (h : RR M P) (hy : 0 ≤ y ∧ y ≤ pY P) : M 107 y = sU (stP P y) := (RR_y h hy).1.2.2
theorem RR_X (h : RR M P) (hy : 0 ≤ y ∧ y < pY P) : M 101 y = dsw (sX (stP P (y + 1))) ∧ M 100 y = dsw (sH (stP P (y + 1))) := by
  have e := h.2.1 y.toNat (by omega)
  rw [show ((y.toNat : Nat) : Int) = y by omega] at e
  unfold stP
  rw [show (y + 1).toNat = y.toNat + 1 by omega]
  exact e
end
