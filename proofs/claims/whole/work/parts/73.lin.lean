/-! a line of the tape: what it makes of a draft; the class's draft -/
def wInc (W : dsW) : dsW := ((wLn W + 1, wY W, wLw W, wOd W, wW W, wN W), W.2)
def wCho (W : dsW) (y l o : Int) : dsW := ((wLn W, y, l, o, wW W, wN W), W.2)
def wWal (W : dsW) (be gi : Int) : dsW := ((wLn W, wY W, wLw W, wOd W, wW W + 1, wN W), (dsUpd (wBe W) (wW W) be, dsUpd (wGi W) (wW W) gi), W.2.2)
def wSto (W : dsW) (ro wi on : Int) : dsW := ((wLn W, wY W, wLw W, wOd W, wW W, wN W + 1), W.2.1, (dsUpd (wRo W) (wN W) ro, dsUpd (wWi W) (wN W) wi, dsUpd (wOn W) (wN W) on), W.2.2.2)
def evAdd (E : wEv) (k o m y : Int) : wEv := (evN E + 1, dsUpd (evK E) (evN E) k, dsUpd (evO E) (evN E) o, dsUpd (evM E) (evN E) m, dsUpd (evY E) (evN E) y)
def wRai (W : dsW) (m o y : Int) : dsW := (W.1, W.2.1, W.2.2.1, evAdd (wR W) 0 o m y, wT W, wA W)
def wTap (W : dsW) (o m y : Int) : dsW := (W.1, W.2.1, W.2.2.1, wR W, evAdd (wT W) 1 o m y, wA W)
section
variable (n : Int) (b : Int → Int)
abbrev tbQ (k : Nat) (lo hi : Int) (q : psT) : psT := nmQ n b lo hi (exW n b k q)
abbrev tbV (k : Nat) (q : psT) : Int := nmV n b (exW n b k q)
def choQ1 (q : psT) : psT := tbQ n b 1 1 12 q
def choQ2 (q : psT) : psT := tbQ n b 2 0 3 (choQ1 n b q)
def choQ3 (q : psT) : psT := tbQ n b 3 0 10 (choQ2 n b q)
def choW (W : dsW) (q : psT) : dsW := wCho W (tbV n b 1 q) (tbV n b 2 (choQ1 n b q)) (tbV n b 3 (choQ2 n b q))
def walQ1 (q : psT) : psT := tbQ n b 5 0 300 q
def walQ2 (q : psT) : psT := tbQ n b 6 1 60 (walQ1 n b q)
def walW (W : dsW) (q : psT) : dsW := wWal W (tbV n b 5 q) (tbV n b 6 (walQ1 n b q))
def stoQ1 (q : psT) : psT := tbQ n b 8 1 60 q
def stoQ2 (q : psT) : psT := tbQ n b 9 1 4 (stoQ1 n b q)
def stoQ3 (W : dsW) (q : psT) : psT := tbQ n b 10 0 (wW W - 1) (stoQ2 n b q)
def stoW (W : dsW) (q : psT) : dsW := wSto W (tbV n b 8 q) (tbV n b 9 (stoQ1 n b q)) (tbV n b 10 (stoQ2 n b q))
def raiQ1 (q : psT) : psT := nmQ n b 1 20 q
def raiQ2 (q : psT) : psT := tbQ n b 12 1 5 (raiQ1 n b q)
def raiQ3 (q : psT) : psT := tbQ n b 13 0 11 (raiQ2 n b q)
def raiW (W : dsW) (q : psT) : dsW := wRai W (nmV n b q) (tbV n b 12 (raiQ1 n b q)) (tbV n b 13 (raiQ2 n b q))
def tapQ1 (W : dsW) (q : psT) : psT := nmQ n b 0 (wN W - 1) q
def tapQ2 (W : dsW) (q : psT) : psT := nmQ n b 1 60 (tapQ1 n b W q)
def tapQ3 (W : dsW) (q : psT) : psT := tbQ n b 13 0 11 (tapQ2 n b W q)
def tapW (W : dsW) (q : psT) : dsW := wTap W (nmV n b q) (nmV n b (tapQ1 n b W q)) (tbV n b 13 (tapQ2 n b W q))
def lnK (W : dsW) (p : Int) : Int := if wLn W = 0 then (if isW n b p 0 then 0 else 5) else if isW n b p 4 then (if wW W < 3 then 1 else 6) else if isW n b p 7 then (if wN W < 6 then 2 else 6) else if isW n b p 11 then (if evN (wR W) < 8 then 3 else 6) else if isW n b p 14 then (if evN (wT W) < 6 then 4 else 6) else 5
def lnS (W : dsW) (p : Int) : dsW × psT :=
  if lnK n b W p = 0 then (wInc (choW n b W (0, -1, tU n b p)), sgQ n b (choQ3 n b (0, -1, tU n b p)))
  else if lnK n b W p = 1 then (wInc (walW n b W (0, -1, tU n b p)), sgQ n b (walQ2 n b (0, -1, tU n b p)))
  else if lnK n b W p = 2 then (wInc (stoW n b W (0, -1, tU n b p)), sgQ n b (stoQ3 n b W (0, -1, tU n b p)))
  else if lnK n b W p = 3 then (wInc (raiW n b W (0, -1, tU n b p)), sgQ n b (raiQ3 n b (0, -1, tU n b p)))
  else if lnK n b W p = 4 then (wInc (tapW n b W (0, -1, tU n b p)), sgQ n b (tapQ3 n b W (0, -1, tU n b p)))
  else if lnK n b W p = 5 then (W, (1, tF n b p, p)) else (W, (3, tF n b p, p))
end
/-- a draft in the making -/
def DOK (W : dsW) : Prop := WOK W ∧ evN (wA W) = 0
theorem D_inc {W : dsW} (h : DOK W) (hy : 1 ≤ wY W) (hl : wLn W < 1000) : DOK (wInc W) := by
  obtain ⟨⟨a, r⟩, e⟩ := h
  refine ⟨⟨?_, r⟩, e⟩
  show 0 ≤ wLn W + 1 ∧ wLn W + 1 ≤ 1000 ∧ 0 ≤ wY W ∧ wY W ≤ 12 ∧ 0 ≤ wLw W ∧ wLw W ≤ 3 ∧ 0 ≤ wOd W ∧ wOd W ≤ 10 ∧ 0 ≤ wW W ∧ wW W ≤ 3 ∧ 0 ≤ wN W ∧ wN W ≤ 6 ∧
    0 ≤ evN (wR W) ∧ evN (wR W) ≤ 8 ∧ 0 ≤ evN (wT W) ∧ evN (wT W) ≤ 6 ∧ 0 ≤ evN (wA W) ∧ evN (wA W) ≤ 30 ∧
    (wLn W + 1 = 0 → wY W = 0 ∧ wW W = 0 ∧ wN W = 0 ∧ evN (wR W) = 0 ∧ evN (wT W) = 0 ∧ evN (wA W) = 0) ∧ (0 < wLn W + 1 → 1 ≤ wY W)
  omega
theorem D_cho {W : dsW} {y l o : Int} (h : DOK W) (hz : wLn W = 0) (hy : 1 ≤ y ∧ y ≤ 12) (hl : 0 ≤ l ∧ l ≤ 3) (ho : 0 ≤ o ∧ o ≤ 10) : DOK (wInc (wCho W y l o)) := by
  obtain ⟨⟨a, r⟩, e⟩ := h
  refine ⟨⟨?_, r⟩, e⟩
  show 0 ≤ wLn W + 1 ∧ wLn W + 1 ≤ 1000 ∧ 0 ≤ y ∧ y ≤ 12 ∧ 0 ≤ l ∧ l ≤ 3 ∧ 0 ≤ o ∧ o ≤ 10 ∧ 0 ≤ wW W ∧ wW W ≤ 3 ∧ 0 ≤ wN W ∧ wN W ≤ 6 ∧
    0 ≤ evN (wR W) ∧ evN (wR W) ≤ 8 ∧ 0 ≤ evN (wT W) ∧ evN (wT W) ≤ 6 ∧ 0 ≤ evN (wA W) ∧ evN (wA W) ≤ 30 ∧
    (wLn W + 1 = 0 → y = 0 ∧ wW W = 0 ∧ wN W = 0 ∧ evN (wR W) = 0 ∧ evN (wT W) = 0 ∧ evN (wA W) = 0) ∧ (0 < wLn W + 1 → 1 ≤ y)
  omega
theorem D_wal {W : dsW} {be gi : Int} (h : DOK W) (hl : 0 < wLn W) (hc : wW W < 3) (h1 : 0 ≤ be ∧ be ≤ 300) (h2 : 1 ≤ gi ∧ gi ≤ 60) : DOK (wWal W be gi) := by
  obtain ⟨⟨a, b, c, d⟩, e⟩ := h
  refine ⟨⟨?_, fun w w0 w1 => ?_, fun s s0 s1 => ?_, d⟩, e⟩
  · show 0 ≤ wLn W ∧ wLn W ≤ 1000 ∧ 0 ≤ wY W ∧ wY W ≤ 12 ∧ 0 ≤ wLw W ∧ wLw W ≤ 3 ∧ 0 ≤ wOd W ∧ wOd W ≤ 10 ∧ 0 ≤ wW W + 1 ∧ wW W + 1 ≤ 3 ∧ 0 ≤ wN W ∧ wN W ≤ 6 ∧
      0 ≤ evN (wR W) ∧ evN (wR W) ≤ 8 ∧ 0 ≤ evN (wT W) ∧ evN (wT W) ≤ 6 ∧ 0 ≤ evN (wA W) ∧ evN (wA W) ≤ 30 ∧
      (wLn W = 0 → wY W = 0 ∧ wW W + 1 = 0 ∧ wN W = 0 ∧ evN (wR W) = 0 ∧ evN (wT W) = 0 ∧ evN (wA W) = 0) ∧ (0 < wLn W → 1 ≤ wY W)
    omega
  · have w2 : w < wW W + 1 := w1
    show 0 ≤ dsUpd (wBe W) (wW W) be w ∧ dsUpd (wBe W) (wW W) be w ≤ 300 ∧ 1 ≤ dsUpd (wGi W) (wW W) gi w ∧ dsUpd (wGi W) (wW W) gi w ≤ 60
    by_cases hw : w = wW W
    · subst hw; rw [upd_e, upd_e]; exact ⟨h1.1, h1.2, h2⟩
    · rw [upd_n _ _ hw, upd_n _ _ hw]; exact b w w0 (by omega)
  · have := c s s0 s1
    show 1 ≤ wRo W s ∧ wRo W s ≤ 60 ∧ 1 ≤ wWi W s ∧ wWi W s ≤ 4 ∧ 0 ≤ wOn W s ∧ wOn W s < wW W + 1
    omega
theorem D_sto {W : dsW} {ro wi on : Int} (h : DOK W) (hl : 0 < wLn W) (hc : wN W < 6) (h1 : 1 ≤ ro ∧ ro ≤ 60) (h2 : 1 ≤ wi ∧ wi ≤ 4) (h3 : 0 ≤ on ∧ on ≤ wW W - 1) : DOK (wSto W ro wi on) := by
  obtain ⟨⟨a, b, c, d, t, f⟩, e⟩ := h
  refine ⟨⟨?_, b, fun s s0 s1 => ?_, d, fun i i0 i1 => ?_, fun i i0 i1 => ?_⟩, e⟩
  · show 0 ≤ wLn W ∧ wLn W ≤ 1000 ∧ 0 ≤ wY W ∧ wY W ≤ 12 ∧ 0 ≤ wLw W ∧ wLw W ≤ 3 ∧ 0 ≤ wOd W ∧ wOd W ≤ 10 ∧ 0 ≤ wW W ∧ wW W ≤ 3 ∧ 0 ≤ wN W + 1 ∧ wN W + 1 ≤ 6 ∧
      0 ≤ evN (wR W) ∧ evN (wR W) ≤ 8 ∧ 0 ≤ evN (wT W) ∧ evN (wT W) ≤ 6 ∧ 0 ≤ evN (wA W) ∧ evN (wA W) ≤ 30 ∧
      (wLn W = 0 → wY W = 0 ∧ wW W = 0 ∧ wN W + 1 = 0 ∧ evN (wR W) = 0 ∧ evN (wT W) = 0 ∧ evN (wA W) = 0) ∧ (0 < wLn W → 1 ≤ wY W)
    omega
  · have s2 : s < wN W + 1 := s1
    show 1 ≤ dsUpd (wRo W) (wN W) ro s ∧ dsUpd (wRo W) (wN W) ro s ≤ 60 ∧ 1 ≤ dsUpd (wWi W) (wN W) wi s ∧ dsUpd (wWi W) (wN W) wi s ≤ 4 ∧ 0 ≤ dsUpd (wOn W) (wN W) on s ∧ dsUpd (wOn W) (wN W) on s < wW W
    by_cases hs : s = wN W
    · subst hs; rw [upd_e, upd_e, upd_e]; omega
    · rw [upd_n _ _ hs, upd_n _ _ hs, upd_n _ _ hs]; exact c s s0 (by omega)
  · have := t i i0 i1
    show 0 ≤ evO (wT W) i ∧ evO (wT W) i < wN W + 1 ∧ 1 ≤ evM (wT W) i ∧ evM (wT W) i ≤ 60 ∧ 0 ≤ evY (wT W) i ∧ evY (wT W) i ≤ 11
    omega
  · have i2 : i < evN (wA W) := i1
    omega
theorem D_rai {W : dsW} {m o y : Int} (h : DOK W) (hl : 0 < wLn W) (hc : evN (wR W) < 8) (h1 : 1 ≤ m ∧ m ≤ 20) (h2 : 1 ≤ o ∧ o ≤ 5) (h3 : 0 ≤ y ∧ y ≤ 11) : DOK (wRai W m o y) := by
  obtain ⟨⟨a, b, c, d, t, f⟩, e⟩ := h
  refine ⟨⟨?_, b, c, fun i i0 i1 => ?_, t, f⟩, e⟩
  · show 0 ≤ wLn W ∧ wLn W ≤ 1000 ∧ 0 ≤ wY W ∧ wY W ≤ 12 ∧ 0 ≤ wLw W ∧ wLw W ≤ 3 ∧ 0 ≤ wOd W ∧ wOd W ≤ 10 ∧ 0 ≤ wW W ∧ wW W ≤ 3 ∧ 0 ≤ wN W ∧ wN W ≤ 6 ∧
      0 ≤ evN (wR W) + 1 ∧ evN (wR W) + 1 ≤ 8 ∧ 0 ≤ evN (wT W) ∧ evN (wT W) ≤ 6 ∧ 0 ≤ evN (wA W) ∧ evN (wA W) ≤ 30 ∧
      (wLn W = 0 → wY W = 0 ∧ wW W = 0 ∧ wN W = 0 ∧ evN (wR W) + 1 = 0 ∧ evN (wT W) = 0 ∧ evN (wA W) = 0) ∧ (0 < wLn W → 1 ≤ wY W)
    omega
  · have i2 : i < evN (wR W) + 1 := i1
    show 1 ≤ dsUpd (evO (wR W)) (evN (wR W)) o i ∧ dsUpd (evO (wR W)) (evN (wR W)) o i ≤ 5 ∧ 1 ≤ dsUpd (evM (wR W)) (evN (wR W)) m i ∧ dsUpd (evM (wR W)) (evN (wR W)) m i ≤ 20 ∧ 0 ≤ dsUpd (evY (wR W)) (evN (wR W)) y i ∧ dsUpd (evY (wR W)) (evN (wR W)) y i ≤ 11
    by_cases hi : i = evN (wR W)
    · subst hi; rw [upd_e, upd_e, upd_e]; omega
    · rw [upd_n _ _ hi, upd_n _ _ hi, upd_n _ _ hi]; exact d i i0 (by omega)
theorem D_tap {W : dsW} {m o y : Int} (h : DOK W) (hl : 0 < wLn W) (hc : evN (wT W) < 6) (h1 : 0 ≤ o ∧ o ≤ wN W - 1) (h2 : 1 ≤ m ∧ m ≤ 60) (h3 : 0 ≤ y ∧ y ≤ 11) : DOK (wTap W o m y) := by
  obtain ⟨⟨a, b, c, d, t, f⟩, e⟩ := h
  refine ⟨⟨?_, b, c, d, fun i i0 i1 => ?_, f⟩, e⟩
  · show 0 ≤ wLn W ∧ wLn W ≤ 1000 ∧ 0 ≤ wY W ∧ wY W ≤ 12 ∧ 0 ≤ wLw W ∧ wLw W ≤ 3 ∧ 0 ≤ wOd W ∧ wOd W ≤ 10 ∧ 0 ≤ wW W ∧ wW W ≤ 3 ∧ 0 ≤ wN W ∧ wN W ≤ 6 ∧
      0 ≤ evN (wR W) ∧ evN (wR W) ≤ 8 ∧ 0 ≤ evN (wT W) + 1 ∧ evN (wT W) + 1 ≤ 6 ∧ 0 ≤ evN (wA W) ∧ evN (wA W) ≤ 30 ∧
      (wLn W = 0 → wY W = 0 ∧ wW W = 0 ∧ wN W = 0 ∧ evN (wR W) = 0 ∧ evN (wT W) + 1 = 0 ∧ evN (wA W) = 0) ∧ (0 < wLn W → 1 ≤ wY W)
    omega
  · have i2 : i < evN (wT W) + 1 := i1
    show 0 ≤ dsUpd (evO (wT W)) (evN (wT W)) o i ∧ dsUpd (evO (wT W)) (evN (wT W)) o i < wN W ∧ 1 ≤ dsUpd (evM (wT W)) (evN (wT W)) m i ∧ dsUpd (evM (wT W)) (evN (wT W)) m i ≤ 60 ∧ 0 ≤ dsUpd (evY (wT W)) (evN (wT W)) y i ∧ dsUpd (evY (wT W)) (evN (wT W)) y i ≤ 11
    by_cases hi : i = evN (wT W)
    · subst hi; rw [upd_e, upd_e, upd_e]; omega
    · rw [upd_n _ _ hi, upd_n _ _ hi, upd_n _ _ hi]; exact t i i0 (by omega)
section
variable {n p : Int} {b : Int → Int} {W : dsW}
theorem lnK_b (h : DOK W) : (lnK n b W p = 0 → wLn W = 0) ∧ (lnK n b W p = 1 → 0 < wLn W ∧ wW W < 3) ∧ (lnK n b W p = 2 → 0 < wLn W ∧ wN W < 6) ∧ (lnK n b W p = 3 → 0 < wLn W ∧ evN (wR W) < 8) ∧ (lnK n b W p = 4 → 0 < wLn W ∧ evN (wT W) < 6) := by
  have a := h.1.1
  unfold lnK
  (repeat' split) <;> omega
/-- a good line: the draft stays one, and the reader is farther -/
theorem lnS_ok (h : DOK W) (hp : 0 ≤ p ∧ p ≤ n) (hl : wLn W < 1000) : PQ n (lnS n b W p).2 ∧ ((lnS n b W p).2.1 = 0 → DOK (lnS n b W p).1 ∧ wLn (lnS n b W p).1 = wLn W + 1 ∧ tU n b p ≤ (lnS n b W p).2.2.2) := by
  have a := h.1.1
  have tb := t_b (n := n) (p := p) (b := b) hp
  have kb := lnK_b (n := n) (b := b) (p := p) h
  have h0 : PQ n ((0, -1, tU n b p) : psT) := fun _ => ⟨rfl, by show 0 ≤ tU n b p; omega, tb.2.2.1⟩
  unfold lnS
  split
  · rename_i k
    have p1 := nmQ_p (lo := 1) (hi := 12) (b := b) (exW_p (b := b) (k := 1) h0).1
    have p2 := nmQ_p (lo := 0) (hi := 3) (b := b) (exW_p (b := b) (k := 2) p1.1).1
    have p3 := nmQ_p (lo := 0) (hi := 10) (b := b) (exW_p (b := b) (k := 3) p2.1).1
    have p4 := sgQ_p (b := b) p3.1
    refine ⟨p4.1, fun q => ?_⟩
    have s4 := (sgQ_0 (q := choQ3 n b (0, -1, tU n b p)) q).1
    have s3 := (nmQ_0 (q := exW n b 3 (choQ2 n b (0, -1, tU n b p))) s4).1
    have s3' := exW_0 s3
    have s2 := (nmQ_0 (q := exW n b 2 (choQ1 n b (0, -1, tU n b p))) s3').1
    have s2' := exW_0 s2
    have s1 := (nmQ_0 (q := exW n b 1 (0, -1, tU n b p)) s2').1
    refine ⟨D_cho h (kb.1 k) (nmV_b (q := exW n b 1 (0, -1, tU n b p)) s2') (nmV_b (q := exW n b 2 (choQ1 n b (0, -1, tU n b p))) s3') (nmV_b (q := exW n b 3 (choQ2 n b (0, -1, tU n b p))) s4), rfl, ?_⟩
    have g1 : tU n b p ≤ _ := (exW_p (b := b) (k := 1) h0).2 s1
    have g2 := p1.2 s2'
    have g3 := (exW_p (b := b) (k := 2) p1.1).2 s2
    have g4 := p2.2 s3'
    have g5 := (exW_p (b := b) (k := 3) p2.1).2 s3
    have g6 := p3.2 s4
    have g7 := p4.2 q
    exact Int.le_trans g1 (Int.le_trans g2 (Int.le_trans g3 (Int.le_trans g4 (Int.le_trans g5 (Int.le_trans g6 g7)))))
  · split
    · rename_i k
      have kk := kb.2.1 k
      have p1 := nmQ_p (lo := 0) (hi := 300) (b := b) (exW_p (b := b) (k := 5) h0).1
      have p2 := nmQ_p (lo := 1) (hi := 60) (b := b) (exW_p (b := b) (k := 6) p1.1).1
      have p4 := sgQ_p (b := b) p2.1
      refine ⟨p4.1, fun q => ?_⟩
      have s3' := (sgQ_0 (q := walQ2 n b (0, -1, tU n b p)) q).1
      have s2 := (nmQ_0 (q := exW n b 6 (walQ1 n b (0, -1, tU n b p))) s3').1
      have s2' := exW_0 s2
      have s1 := (nmQ_0 (q := exW n b 5 (0, -1, tU n b p)) s2').1
      refine ⟨D_inc (D_wal h kk.1 kk.2 (nmV_b (q := exW n b 5 (0, -1, tU n b p)) s2') (nmV_b (q := exW n b 6 (walQ1 n b (0, -1, tU n b p))) s3')) (by show 1 ≤ wY W; omega) hl, rfl, ?_⟩
      have g1 : tU n b p ≤ _ := (exW_p (b := b) (k := 5) h0).2 s1
      have g2 := p1.2 s2'
      have g3 := (exW_p (b := b) (k := 6) p1.1).2 s2
      have g4 := p2.2 s3'
      have g7 := p4.2 q
      exact Int.le_trans g1 (Int.le_trans g2 (Int.le_trans g3 (Int.le_trans g4 g7)))
    · split
      · rename_i k
        have kk := kb.2.2.1 k
        have p1 := nmQ_p (lo := 1) (hi := 60) (b := b) (exW_p (b := b) (k := 8) h0).1
        have p2 := nmQ_p (lo := 1) (hi := 4) (b := b) (exW_p (b := b) (k := 9) p1.1).1
        have p3 := nmQ_p (lo := 0) (hi := wW W - 1) (b := b) (exW_p (b := b) (k := 10) p2.1).1
        have p4 := sgQ_p (b := b) p3.1
        refine ⟨p4.1, fun q => ?_⟩
        have s4 := (sgQ_0 (q := stoQ3 n b W (0, -1, tU n b p)) q).1
        have s3 := (nmQ_0 (q := exW n b 10 (stoQ2 n b (0, -1, tU n b p))) s4).1
        have s3' := exW_0 s3
        have s2 := (nmQ_0 (q := exW n b 9 (stoQ1 n b (0, -1, tU n b p))) s3').1
        have s2' := exW_0 s2
        have s1 := (nmQ_0 (q := exW n b 8 (0, -1, tU n b p)) s2').1
        refine ⟨D_inc (D_sto h kk.1 kk.2 (nmV_b (q := exW n b 8 (0, -1, tU n b p)) s2') (nmV_b (q := exW n b 9 (stoQ1 n b (0, -1, tU n b p))) s3') (nmV_b (q := exW n b 10 (stoQ2 n b (0, -1, tU n b p))) s4)) (by show 1 ≤ wY W; omega) hl, rfl, ?_⟩
        have g1 : tU n b p ≤ _ := (exW_p (b := b) (k := 8) h0).2 s1
        have g2 := p1.2 s2'
        have g3 := (exW_p (b := b) (k := 9) p1.1).2 s2
        have g4 := p2.2 s3'
        have g5 := (exW_p (b := b) (k := 10) p2.1).2 s3
        have g6 := p3.2 s4
        have g7 := p4.2 q
        exact Int.le_trans g1 (Int.le_trans g2 (Int.le_trans g3 (Int.le_trans g4 (Int.le_trans g5 (Int.le_trans g6 g7)))))
      · split
        · rename_i k
          have kk := kb.2.2.2.1 k
          have p1 := nmQ_p (lo := 1) (hi := 20) (b := b) h0
          have p2 := nmQ_p (lo := 1) (hi := 5) (b := b) (exW_p (b := b) (k := 12) p1.1).1
          have p3 := nmQ_p (lo := 0) (hi := 11) (b := b) (exW_p (b := b) (k := 13) p2.1).1
          have p4 := sgQ_p (b := b) p3.1
          refine ⟨p4.1, fun q => ?_⟩
          have s4 := (sgQ_0 (q := raiQ3 n b (0, -1, tU n b p)) q).1
          have s3 := (nmQ_0 (q := exW n b 13 (raiQ2 n b (0, -1, tU n b p))) s4).1
          have s3' := exW_0 s3
          have s2 := (nmQ_0 (q := exW n b 12 (raiQ1 n b (0, -1, tU n b p))) s3').1
          have s2' := exW_0 s2
          refine ⟨D_inc (D_rai h kk.1 kk.2 (nmV_b (q := ((0, -1, tU n b p) : psT)) s2') (nmV_b (q := exW n b 12 (raiQ1 n b (0, -1, tU n b p))) s3') (nmV_b (q := exW n b 13 (raiQ2 n b (0, -1, tU n b p))) s4)) (by show 1 ≤ wY W; omega) hl, rfl, ?_⟩
          have g2 : tU n b p ≤ _ := p1.2 s2'
          have g3 := (exW_p (b := b) (k := 12) p1.1).2 s2
          have g4 := p2.2 s3'
          have g5 := (exW_p (b := b) (k := 13) p2.1).2 s3
          have g6 := p3.2 s4
          have g7 := p4.2 q
          exact Int.le_trans g2 (Int.le_trans g3 (Int.le_trans g4 (Int.le_trans g5 (Int.le_trans g6 g7))))
        · split
          · rename_i k
            have kk := kb.2.2.2.2 k
            have p1 := nmQ_p (lo := 0) (hi := wN W - 1) (b := b) h0
            have p2 := nmQ_p (lo := 1) (hi := 60) (b := b) p1.1
            have p3 := nmQ_p (lo := 0) (hi := 11) (b := b) (exW_p (b := b) (k := 13) p2.1).1
            have p4 := sgQ_p (b := b) p3.1
            refine ⟨p4.1, fun q => ?_⟩
            have s4 := (sgQ_0 (q := tapQ3 n b W (0, -1, tU n b p)) q).1
            have s3 := (nmQ_0 (q := exW n b 13 (tapQ2 n b W (0, -1, tU n b p))) s4).1
            have s3' := exW_0 s3
            have s2' := (nmQ_0 (q := tapQ1 n b W (0, -1, tU n b p)) s3').1
            refine ⟨D_inc (D_tap h kk.1 kk.2 (nmV_b (q := ((0, -1, tU n b p) : psT)) s2') (nmV_b (q := tapQ1 n b W (0, -1, tU n b p)) s3') (nmV_b (q := exW n b 13 (tapQ2 n b W (0, -1, tU n b p))) s4)) (by show 1 ≤ wY W; omega) hl, rfl, ?_⟩
            have g2 : tU n b p ≤ _ := p1.2 s2'
            have g4 := p2.2 s3'
            have g5 := (exW_p (b := b) (k := 13) p2.1).2 s3
            have g6 := p3.2 s4
            have g7 := p4.2 q
            exact Int.le_trans g2 (Int.le_trans g4 (Int.le_trans g5 (Int.le_trans g6 g7)))
          · split
            · exact ⟨fun u => absurd u (by show ¬ (1 : Int) = 0; omega), fun u => absurd u (by show ¬ (1 : Int) = 0; omega)⟩
            · exact ⟨fun u => absurd u (by show ¬ (3 : Int) = 0; omega), fun u => absurd u (by show ¬ (3 : Int) = 0; omega)⟩
end
