/-! the reference's reader: the draft's rows -/
theorem RWd_cho {f g : Int → Int} {W : dsW} {y l o : Int} (h : RWd f W) (hW : DOK W) (e : ∀ j, ¬ (0 ≤ j ∧ j ≤ 2) → g j = f j) (g0 : g 0 = y) (g1 : g 1 = l) (g2 : g 2 = o) : RWd g (wCho W y l o) := by
  obtain ⟨a, b, c, d, t, u⟩ := h
  have hw := hW.1.1
  refine ⟨⟨?_, ?_, ?_, ?_, ?_, ?_, ?_, ?_, ?_⟩, fun w w0 w1 => ?_, fun s s0 s1 => ?_, fun i i0 i1 => ?_, fun i i0 i1 => ?_, fun i i0 i1 => ?_⟩
  · exact g0
  · exact g1
  · exact g2
  · rw [e _ (by omega)]; exact a.2.2.2.1
  · rw [e _ (by omega)]; exact a.2.2.2.2.1
  · rw [e _ (by omega)]; exact a.2.2.2.2.2.1
  · rw [e _ (by omega)]; exact a.2.2.2.2.2.2.1
  · rw [e _ (by omega)]; exact a.2.2.2.2.2.2.2.1
  · rw [e _ (by omega)]; exact a.2.2.2.2.2.2.2.2
  · rw [e _ (by omega), e _ (by omega)]; exact b w w0 w1
  · rw [e _ (by omega), e _ (by omega), e _ (by omega)]; exact c s s0 s1
  · rw [e _ (by omega), e _ (by omega), e _ (by omega)]; exact d i i0 i1
  · rw [e _ (by omega), e _ (by omega), e _ (by omega)]; exact t i i0 i1
  · rw [e _ (by omega)]; exact u i i0 i1
theorem RWd_inc {f g : Int → Int} {W : dsW} (h : RWd f W) (hW : 0 ≤ evN (wA W)) (e : ∀ j, j ≠ 8 → g j = f j) (g8 : g 8 = wLn W + 1) : RWd g (wInc W) := by
  obtain ⟨a, b, c, d, t, u⟩ := h
  refine ⟨⟨?_, ?_, ?_, ?_, ?_, ?_, ?_, ?_, ?_⟩, fun w w0 w1 => ?_, fun s s0 s1 => ?_, fun i i0 i1 => ?_, fun i i0 i1 => ?_, fun i i0 i1 => ?_⟩
  · rw [e _ (by omega)]; exact a.1
  · rw [e _ (by omega)]; exact a.2.1
  · rw [e _ (by omega)]; exact a.2.2.1
  · rw [e _ (by omega)]; exact a.2.2.2.1
  · rw [e _ (by omega)]; exact a.2.2.2.2.1
  · rw [e _ (by omega)]; exact a.2.2.2.2.2.1
  · rw [e _ (by omega)]; exact a.2.2.2.2.2.2.1
  · rw [e _ (by omega)]; exact a.2.2.2.2.2.2.2.1
  · exact g8
  · rw [e _ (by omega), e _ (by omega)]; exact b w w0 w1
  · rw [e _ (by omega), e _ (by omega), e _ (by omega)]; exact c s s0 s1
  · rw [e _ (by omega), e _ (by omega), e _ (by omega)]; exact d i i0 i1
  · rw [e _ (by omega), e _ (by omega), e _ (by omega)]; exact t i i0 i1
  · rw [e _ (by omega)]; exact u i i0 i1
theorem RWd_wal {f g : Int → Int} {W : dsW} {be gi : Int} (h : RWd f W) (hW : DOK W) (hc : wW W < 3) (e : ∀ j, ¬ (j = 3 ∨ j = 9 + 2 * wW W ∨ j = 9 + 2 * wW W + 1) → g j = f j) (g1 : g (9 + 2 * wW W) = be) (g2 : g (9 + 2 * wW W + 1) = gi) (g3 : g 3 = wW W + 1) : RWd g (wWal W be gi) := by
  obtain ⟨a, b, c, d, t, u⟩ := h
  have hw := hW.1.1
  refine ⟨⟨?_, ?_, ?_, ?_, ?_, ?_, ?_, ?_, ?_⟩, fun w w0 w1 => ?_, fun s s0 s1 => ?_, fun i i0 i1 => ?_, fun i i0 i1 => ?_, fun i i0 i1 => ?_⟩
  · rw [e _ (by omega)]; exact a.1
  · rw [e _ (by omega)]; exact a.2.1
  · rw [e _ (by omega)]; exact a.2.2.1
  · exact g3
  · rw [e _ (by omega)]; exact a.2.2.2.2.1
  · rw [e _ (by omega)]; exact a.2.2.2.2.2.1
  · rw [e _ (by omega)]; exact a.2.2.2.2.2.2.1
  · rw [e _ (by omega)]; exact a.2.2.2.2.2.2.2.1
  · rw [e _ (by omega)]; exact a.2.2.2.2.2.2.2.2
  · have w2 : w < wW W + 1 := w1
    show _ = dsUpd (wBe W) (wW W) be w ∧ _ = dsUpd (wGi W) (wW W) gi w
    by_cases hx : w = wW W
    · subst hx; rw [upd_e, upd_e]; exact ⟨g1, g2⟩
    · rw [upd_n _ _ hx, upd_n _ _ hx, e _ (by omega), e _ (by omega)]; exact b w w0 (by omega)
  · have s2 : s < wN W := s1
    rw [e _ (by omega), e _ (by omega), e _ (by omega)]; exact c s s0 s1
  · have i2 : i < evN (wR W) := i1
    rw [e _ (by omega), e _ (by omega), e _ (by omega)]; exact d i i0 i1
  · rw [e _ (by omega), e _ (by omega), e _ (by omega)]; exact t i i0 i1
  · rw [e _ (by omega)]; exact u i i0 i1
theorem RWd_sto {f g : Int → Int} {W : dsW} {ro wi on : Int} (h : RWd f W) (hW : DOK W) (hc : wN W < 6) (e : ∀ j, ¬ (j = 4 ∨ (15 + 3 * wN W ≤ j ∧ j ≤ 15 + 3 * wN W + 2)) → g j = f j) (g1 : g (15 + 3 * wN W) = ro) (g2 : g (15 + 3 * wN W + 1) = wi) (g3 : g (15 + 3 * wN W + 2) = on) (g4 : g 4 = wN W + 1) : RWd g (wSto W ro wi on) := by
  obtain ⟨a, b, c, d, t, u⟩ := h
  have hw := hW.1.1
  refine ⟨⟨?_, ?_, ?_, ?_, ?_, ?_, ?_, ?_, ?_⟩, fun w w0 w1 => ?_, fun s s0 s1 => ?_, fun i i0 i1 => ?_, fun i i0 i1 => ?_, fun i i0 i1 => ?_⟩
  · rw [e _ (by omega)]; exact a.1
  · rw [e _ (by omega)]; exact a.2.1
  · rw [e _ (by omega)]; exact a.2.2.1
  · rw [e _ (by omega)]; exact a.2.2.2.1
  · exact g4
  · rw [e _ (by omega)]; exact a.2.2.2.2.2.1
  · rw [e _ (by omega)]; exact a.2.2.2.2.2.2.1
  · rw [e _ (by omega)]; exact a.2.2.2.2.2.2.2.1
  · rw [e _ (by omega)]; exact a.2.2.2.2.2.2.2.2
  · have w2 : w < wW W := w1
    rw [e _ (by omega), e _ (by omega)]; exact b w w0 w1
  · have s2 : s < wN W + 1 := s1
    show _ = dsUpd (wRo W) (wN W) ro s ∧ _ = dsUpd (wWi W) (wN W) wi s ∧ _ = dsUpd (wOn W) (wN W) on s
    by_cases hx : s = wN W
    · subst hx; rw [upd_e, upd_e, upd_e]; exact ⟨g1, g2, g3⟩
    · rw [upd_n _ _ hx, upd_n _ _ hx, upd_n _ _ hx, e _ (by omega), e _ (by omega), e _ (by omega)]; exact c s s0 (by omega)
  · have i2 : i < evN (wR W) := i1
    rw [e _ (by omega), e _ (by omega), e _ (by omega)]; exact d i i0 i1
  · rw [e _ (by omega), e _ (by omega), e _ (by omega)]; exact t i i0 i1
  · rw [e _ (by omega)]; exact u i i0 i1
theorem RWd_rai {f g : Int → Int} {W : dsW} {m o y : Int} (h : RWd f W) (hW : DOK W) (hc : evN (wR W) < 8) (e : ∀ j, ¬ (j = 5 ∨ (33 + 3 * evN (wR W) ≤ j ∧ j ≤ 33 + 3 * evN (wR W) + 2)) → g j = f j) (g1 : g (33 + 3 * evN (wR W)) = m) (g2 : g (33 + 3 * evN (wR W) + 1) = o) (g3 : g (33 + 3 * evN (wR W) + 2) = y) (g4 : g 5 = evN (wR W) + 1) : RWd g (wRai W m o y) := by
  obtain ⟨a, b, c, d, t, u⟩ := h
  have hw := hW.1.1
  refine ⟨⟨?_, ?_, ?_, ?_, ?_, ?_, ?_, ?_, ?_⟩, fun w w0 w1 => ?_, fun s s0 s1 => ?_, fun i i0 i1 => ?_, fun i i0 i1 => ?_, fun i i0 i1 => ?_⟩
  · rw [e _ (by omega)]; exact a.1
  · rw [e _ (by omega)]; exact a.2.1
  · rw [e _ (by omega)]; exact a.2.2.1
  · rw [e _ (by omega)]; exact a.2.2.2.1
  · rw [e _ (by omega)]; exact a.2.2.2.2.1
  · exact g4
  · rw [e _ (by omega)]; exact a.2.2.2.2.2.2.1
  · rw [e _ (by omega)]; exact a.2.2.2.2.2.2.2.1
  · rw [e _ (by omega)]; exact a.2.2.2.2.2.2.2.2
  · have w2 : w < wW W := w1
    rw [e _ (by omega), e _ (by omega)]; exact b w w0 w1
  · have s2 : s < wN W := s1
    rw [e _ (by omega), e _ (by omega), e _ (by omega)]; exact c s s0 s1
  · have i2 : i < evN (wR W) + 1 := i1
    show _ = dsUpd (evM (wR W)) (evN (wR W)) m i ∧ _ = dsUpd (evO (wR W)) (evN (wR W)) o i ∧ _ = dsUpd (evY (wR W)) (evN (wR W)) y i
    by_cases hx : i = evN (wR W)
    · subst hx; rw [upd_e, upd_e, upd_e]; exact ⟨g1, g2, g3⟩
    · rw [upd_n _ _ hx, upd_n _ _ hx, upd_n _ _ hx, e _ (by omega), e _ (by omega), e _ (by omega)]; exact d i i0 (by omega)
  · rw [e _ (by omega), e _ (by omega), e _ (by omega)]; exact t i i0 i1
  · rw [e _ (by omega)]; exact u i i0 i1
theorem RWd_tap {f g : Int → Int} {W : dsW} {m o y : Int} (h : RWd f W) (hW : DOK W) (hc : evN (wT W) < 6) (e : ∀ j, ¬ (j = 6 ∨ (57 + 3 * evN (wT W) ≤ j ∧ j ≤ 57 + 3 * evN (wT W) + 2)) → g j = f j) (g1 : g (57 + 3 * evN (wT W)) = o) (g2 : g (57 + 3 * evN (wT W) + 1) = m) (g3 : g (57 + 3 * evN (wT W) + 2) = y) (g4 : g 6 = evN (wT W) + 1) : RWd g (wTap W o m y) := by
  obtain ⟨a, b, c, d, t, u⟩ := h
  have hw := hW.1.1
  refine ⟨⟨?_, ?_, ?_, ?_, ?_, ?_, ?_, ?_, ?_⟩, fun w w0 w1 => ?_, fun s s0 s1 => ?_, fun i i0 i1 => ?_, fun i i0 i1 => ?_, fun i i0 i1 => ?_⟩
  · rw [e _ (by omega)]; exact a.1
  · rw [e _ (by omega)]; exact a.2.1
  · rw [e _ (by omega)]; exact a.2.2.1
  · rw [e _ (by omega)]; exact a.2.2.2.1
  · rw [e _ (by omega)]; exact a.2.2.2.2.1
  · rw [e _ (by omega)]; exact a.2.2.2.2.2.1
  · exact g4
  · rw [e _ (by omega)]; exact a.2.2.2.2.2.2.2.1
  · rw [e _ (by omega)]; exact a.2.2.2.2.2.2.2.2
  · have w2 : w < wW W := w1
    rw [e _ (by omega), e _ (by omega)]; exact b w w0 w1
  · have s2 : s < wN W := s1
    rw [e _ (by omega), e _ (by omega), e _ (by omega)]; exact c s s0 s1
  · have i2 : i < evN (wR W) := i1
    rw [e _ (by omega), e _ (by omega), e _ (by omega)]; exact d i i0 i1
  · have i2 : i < evN (wT W) + 1 := i1
    show _ = dsUpd (evO (wT W)) (evN (wT W)) o i ∧ _ = dsUpd (evM (wT W)) (evN (wT W)) m i ∧ _ = dsUpd (evY (wT W)) (evN (wT W)) y i
    by_cases hx : i = evN (wT W)
    · subst hx; rw [upd_e, upd_e, upd_e]; exact ⟨g1, g2, g3⟩
    · rw [upd_n _ _ hx, upd_n _ _ hx, upd_n _ _ hx, e _ (by omega), e _ (by omega), e _ (by omega)]; exact t i i0 (by omega)
  · rw [e _ (by omega)]; exact u i i0 i1
def FR9 : Int → Int → Prop := fun a j => FE a j ∨ a = 90
theorem FE_9 {M M' : dsMem} (h : Fr FE M M') : Fr FR9 M M' := Fr_mono (fun _ _ q => Or.inl q) h
def RLn (M : dsMem) (n : Int) (b : Int → Int) (q : psT) (W : dsW) (M' : dsMem) : Prop := RQs M' n b q ∧ (q.1 = 0 → RWd (M' 90) W) ∧ M' 90 8 = M 90 8 ∧ Fr FR9 M M'
theorem f90 {M M' : dsMem} (h : Fr FE M M') (j : Int) : M' 90 j = M 90 j := h 90 j (by unfold FE; omega)
theorem rfirst_ct {M : dsMem} {n : Int} {b : Int → Int} {q : psT} {W : dsW} (h : RQs M n b q) (hd : RWd (M 90) W) (hW : DOK W) : bCt 206 [uR 11 84] M (fun _ => []) (RLn M n b (choQ3 n b (exW n b 0 q)) (choW n b W (exW n b 0 q))) := by
  intro Q hQ
  refine r206_0 (hA1 := expects_ct (k := 0) (by omega) h) (hA2 := fun M1 r1 => toldBy_ct (k := 1) (q := exW n b 0 q) (by omega) (by omega) r1.1) (hA3 := fun M1 r1 M2 r2 => toldBy_ct (k := 2) (q := choQ1 n b (exW n b 0 q)) (by omega) (by omega) (RQs_fr r2.1 (fun a j u => ds_gn (by omega)))) (hA4 := fun M1 r1 M2 r2 M3 r3 => toldBy_ct (k := 3) (q := choQ2 n b (exW n b 0 q)) (by omega) (by omega) (RQs_fr r3.1 (fun a j u => ds_gn (by omega)))) (k1 := fun M1 r1 M2 r2 M3 r3 M4 r4 => hQ _ ⟨RQs_fr r4.1 (fun a j u => ds_gn (by omega)), fun u => ?_, ?_, ?_⟩)
  · have s3 := exW_0 (nmQ_0 (q := exW n b 3 (choQ2 n b (exW n b 0 q))) u).1
    have s2 := exW_0 (nmQ_0 (q := exW n b 2 (choQ1 n b (exW n b 0 q))) s3).1
    refine RWd_cho hd hW (fun j hj => ?_) ?_ ?_ ?_
    · rw [ds_gn (by omega), f90 r4.2, ds_gn (by omega), f90 r3.2, ds_gn (by omega), f90 r2.2, f90 r1.2]
    · rw [ds_gn (by omega), f90 r4.2, ds_gn (by omega), f90 r3.2, ds_ge ⟨rfl, rfl⟩]; exact rV_eq s2
    · rw [ds_gn (by omega), f90 r4.2, ds_ge ⟨rfl, rfl⟩]; exact rV_eq s3
    · rw [ds_ge ⟨rfl, rfl⟩]; exact rV_eq u
  · rw [ds_gn (by omega), f90 r4.2, ds_gn (by omega), f90 r3.2, ds_gn (by omega), f90 r2.2, f90 r1.2]
  · exact Fr_set (Fr_trans (Fr_set (Fr_trans (Fr_set (Fr_trans (FE_9 r1.2) (FE_9 r2.2)) (Or.inr rfl)) (FE_9 r3.2)) (Or.inr rfl)) (FE_9 r4.2)) (Or.inr rfl)
theorem rwal_ct {M : dsMem} {n : Int} {b : Int → Int} {q : psT} {W : dsW} (h : RQs M n b q) (hd : RWd (M 90) W) (hW : DOK W) (hc : wW W < 3) : bCt 207 [uR 11 84, uX 0] M (fun _ => []) (RLn M n b (walQ2 n b q) (walW n b W q)) := by
  intro Q hQ
  have hw := hW.1.1
  have e3 : M 90 3 = wW W := hd.1.2.2.2.1
  have k3 : ∀ M1 M2 v1 v2, Fr FE M M1 → Fr FE (dsSet M1 90 (9 + 2 * M 90 3) v1) M2 → dsSet M2 90 (9 + 2 * M 90 3 + 1) v2 90 3 = wW W := fun M1 M2 v1 v2 r1 r2 => by
    rw [ds_gn (by omega), f90 r2, ds_gn (by omega), f90 r1]; exact e3
  refine r207_0 (s1 := by omega) (hA1 := toldBy_ct (k := 5) (by omega) (by omega) h) (s2 := fun M1 r1 => by omega) (hA2 := fun M1 r1 => toldBy_ct (k := 6) (q := walQ1 n b q) (by omega) (by omega) (RQs_fr r1.1 (fun a j u => ds_gn (by omega)))) (s3 := fun M1 r1 M2 r2 => by omega) (s4 := fun M1 r1 M2 r2 => by rw [k3 M1 M2 _ _ r1.2 r2.2]; omega) (k1 := fun M1 r1 M2 r2 => ?_)
  rw [k3 M1 M2 _ _ r1.2 r2.2, e3]
  rw [e3] at r2
  refine hQ _ ⟨RQs_fr r2.1 (fun a j u => by rw [ds_gn (by omega), ds_gn (by omega)]), fun u => ?_, ?_, ?_⟩
  · have s2 := exW_0 (nmQ_0 (q := exW n b 6 (walQ1 n b q)) u).1
    refine RWd_wal hd hW hc (fun j hj => ?_) ?_ ?_ ?_
    · rw [ds_gn (by omega), ds_gn (by omega), f90 r2.2, ds_gn (by omega), f90 r1.2]
    · rw [ds_gn (by omega), ds_gn (by omega), f90 r2.2, ds_ge ⟨rfl, rfl⟩]; exact rV_eq s2
    · rw [ds_gn (by omega), ds_ge ⟨rfl, rfl⟩]; exact rV_eq u
    · rw [ds_ge ⟨rfl, rfl⟩]
  · rw [ds_gn (by omega), ds_gn (by omega), f90 r2.2, ds_gn (by omega), f90 r1.2]
  · exact Fr_set (Fr_set (Fr_trans (Fr_set (FE_9 r1.2) (Or.inr rfl)) (FE_9 r2.2)) (Or.inr rfl)) (Or.inr rfl)
theorem rsto_ct {M : dsMem} {n : Int} {b : Int → Int} {q : psT} {W : dsW} (h : RQs M n b q) (hd : RWd (M 90) W) (hW : DOK W) (hc : wN W < 6) : bCt 208 [uR 11 84, uX 0] M (fun _ => []) (RLn M n b (stoQ3 n b W q) (stoW n b W q)) := by
  intro Q hQ
  have hw := hW.1.1
  have e4 : M 90 4 = wN W := hd.1.2.2.2.2.1
  have e3 : M 90 3 = wW W := hd.1.2.2.2.1
  have k3 : ∀ M1 M2 v1 v2, Fr FE M M1 → Fr FE (dsSet M1 90 (15 + 3 * M 90 4) v1) M2 → dsSet M2 90 (15 + 3 * M 90 4 + 1) v2 90 3 = wW W := fun M1 M2 v1 v2 r1 r2 => by
    rw [ds_gn (by omega), f90 r2, ds_gn (by omega), f90 r1]; exact e3
  have k4 : ∀ M1 M2 M3 v1 v2 v3, Fr FE M M1 → Fr FE (dsSet M1 90 (15 + 3 * M 90 4) v1) M2 → Fr FE (dsSet M2 90 (15 + 3 * M 90 4 + 1) v2) M3 → dsSet M3 90 (15 + 3 * M 90 4 + 2) v3 90 4 = wN W := fun M1 M2 M3 v1 v2 v3 r1 r2 r3 => by
    rw [ds_gn (by omega), f90 r3, ds_gn (by omega), f90 r2, ds_gn (by omega), f90 r1]; exact e4
  refine r208_0 (s1 := by omega) (hA1 := toldBy_ct (k := 8) (by omega) (by omega) h) (s2 := fun M1 r1 => by omega) (hA2 := fun M1 r1 => toldBy_ct (k := 9) (q := stoQ1 n b q) (by omega) (by omega) (RQs_fr r1.1 (fun a j u => ds_gn (by omega)))) (s3 := fun M1 r1 M2 r2 => by omega) (s4 := fun M1 r1 M2 r2 => by rw [k3 M1 M2 _ _ r1.2 r2.2]; omega) (R3 := fun M1 M2 M3 => RQs M3 n b (stoQ3 n b W q) ∧ Fr FE (dsSet M2 90 (15 + 3 * M 90 4 + 1) (rV n b 1 4 (exW n b 9 (stoQ1 n b q)))) M3) (g3 := fun _ _ _ => rV n b 0 (wW W - 1) (exW n b 10 (stoQ2 n b q))) (hA3 := fun M1 r1 M2 r2 => by
      rw [k3 M1 M2 _ _ r1.2 r2.2]
      exact toldBy_ct (k := 10) (q := stoQ2 n b q) (by omega) (by omega) (RQs_fr r2.1 (fun a j u => ds_gn (by omega)))) (s5 := fun M1 r1 M2 r2 M3 r3 => by omega) (s6 := fun M1 r1 M2 r2 M3 r3 => by rw [k4 M1 M2 M3 _ _ _ r1.2 r2.2 r3.2]; omega) (k1 := fun M1 r1 M2 r2 M3 r3 => ?_)
  rw [k4 M1 M2 M3 _ _ _ r1.2 r2.2 r3.2, e4]
  rw [e4] at r2 r3
  refine hQ _ ⟨RQs_fr r3.1 (fun a j u => by rw [ds_gn (by omega), ds_gn (by omega)]), fun u => ?_, ?_, ?_⟩
  · have s3 := exW_0 (nmQ_0 (q := exW n b 10 (stoQ2 n b q)) u).1
    have s2 := exW_0 (nmQ_0 (q := exW n b 9 (stoQ1 n b q)) s3).1
    refine RWd_sto hd hW hc (fun j hj => ?_) ?_ ?_ ?_ ?_
    · rw [ds_gn (by omega), ds_gn (by omega), f90 r3.2, ds_gn (by omega), f90 r2.2, ds_gn (by omega), f90 r1.2]
    · rw [ds_gn (by omega), ds_gn (by omega), f90 r3.2, ds_gn (by omega), f90 r2.2, ds_ge ⟨rfl, rfl⟩]; exact rV_eq s2
    · rw [ds_gn (by omega), ds_gn (by omega), f90 r3.2, ds_ge ⟨rfl, rfl⟩]; exact rV_eq s3
    · rw [ds_gn (by omega), ds_ge ⟨rfl, rfl⟩]; exact rV_eq u
    · rw [ds_ge ⟨rfl, rfl⟩]
  · rw [ds_gn (by omega), ds_gn (by omega), f90 r3.2, ds_gn (by omega), f90 r2.2, ds_gn (by omega), f90 r1.2]
  · exact Fr_set (Fr_set (Fr_trans (Fr_set (Fr_trans (Fr_set (FE_9 r1.2) (Or.inr rfl)) (FE_9 r2.2)) (Or.inr rfl)) (FE_9 r3.2)) (Or.inr rfl)) (Or.inr rfl)
theorem rrai_ct {M : dsMem} {n : Int} {b : Int → Int} {q : psT} {W : dsW} (h : RQs M n b q) (hd : RWd (M 90) W) (hW : DOK W) (hc : evN (wR W) < 8) : bCt 209 [uR 11 84, uX 0] M (fun _ => []) (RLn M n b (raiQ3 n b q) (raiW n b W q)) := by
  intro Q hQ
  have hw := hW.1.1
  have e5 : M 90 5 = evN (wR W) := hd.1.2.2.2.2.2.1
  have k4 : ∀ M1 M2 M3 v1 v2 v3, Fr FE M M1 → Fr FE (dsSet M1 90 (33 + 3 * M 90 5) v1) M2 → Fr FE (dsSet M2 90 (33 + 3 * M 90 5 + 1) v2) M3 → dsSet M3 90 (33 + 3 * M 90 5 + 2) v3 90 5 = evN (wR W) := fun M1 M2 M3 v1 v2 v3 r1 r2 r3 => by
    rw [ds_gn (by omega), f90 r3, ds_gn (by omega), f90 r2, ds_gn (by omega), f90 r1]; exact e5
  refine r209_0 (s1 := by omega) (hA1 := number_ct (by omega) h) (s2 := fun M1 r1 => by omega) (hA2 := fun M1 r1 => toldBy_ct (k := 12) (q := raiQ1 n b q) (by omega) (by omega) (RQs_fr r1.1 (fun a j u => ds_gn (by omega)))) (s3 := fun M1 r1 M2 r2 => by omega) (hA3 := fun M1 r1 M2 r2 => toldBy_ct (k := 13) (q := raiQ2 n b q) (by omega) (by omega) (RQs_fr r2.1 (fun a j u => ds_gn (by omega)))) (s4 := fun M1 r1 M2 r2 M3 r3 => by omega) (s5 := fun M1 r1 M2 r2 M3 r3 => by rw [k4 M1 M2 M3 _ _ _ r1.2 r2.2 r3.2]; omega) (k1 := fun M1 r1 M2 r2 M3 r3 => ?_)
  rw [k4 M1 M2 M3 _ _ _ r1.2 r2.2 r3.2, e5]
  rw [e5] at r2 r3
  refine hQ _ ⟨RQs_fr r3.1 (fun a j u => by rw [ds_gn (by omega), ds_gn (by omega)]), fun u => ?_, ?_, ?_⟩
  · have s3 := exW_0 (nmQ_0 (q := exW n b 13 (raiQ2 n b q)) u).1
    have s2 := exW_0 (nmQ_0 (q := exW n b 12 (raiQ1 n b q)) s3).1
    refine RWd_rai hd hW hc (fun j hj => ?_) ?_ ?_ ?_ ?_
    · rw [ds_gn (by omega), ds_gn (by omega), f90 r3.2, ds_gn (by omega), f90 r2.2, ds_gn (by omega), f90 r1.2]
    · rw [ds_gn (by omega), ds_gn (by omega), f90 r3.2, ds_gn (by omega), f90 r2.2, ds_ge ⟨rfl, rfl⟩]; exact rV_eq s2
    · rw [ds_gn (by omega), ds_gn (by omega), f90 r3.2, ds_ge ⟨rfl, rfl⟩]; exact rV_eq s3
    · rw [ds_gn (by omega), ds_ge ⟨rfl, rfl⟩]; exact rV_eq u
    · rw [ds_ge ⟨rfl, rfl⟩]
  · rw [ds_gn (by omega), ds_gn (by omega), f90 r3.2, ds_gn (by omega), f90 r2.2, ds_gn (by omega), f90 r1.2]
  · exact Fr_set (Fr_set (Fr_trans (Fr_set (Fr_trans (Fr_set (FE_9 r1.2) (Or.inr rfl)) (FE_9 r2.2)) (Or.inr rfl)) (FE_9 r3.2)) (Or.inr rfl)) (Or.inr rfl)
theorem rdtap_ct {M : dsMem} {n : Int} {b : Int → Int} {q : psT} {W : dsW} (h : RQs M n b q) (hd : RWd (M 90) W) (hW : DOK W) (hc : evN (wT W) < 6) : bCt 210 [uR 11 84, uX 0] M (fun _ => []) (RLn M n b (tapQ3 n b W q) (tapW n b W q)) := by
  intro Q hQ
  have hw := hW.1.1
  have e6 : M 90 6 = evN (wT W) := hd.1.2.2.2.2.2.2.1
  have e4 : M 90 4 = wN W := hd.1.2.2.2.2.1
  have k4 : ∀ M1 M2 M3 v1 v2 v3, Fr FE M M1 → Fr FE (dsSet M1 90 (57 + 3 * M 90 6) v1) M2 → Fr FE (dsSet M2 90 (57 + 3 * M 90 6 + 1) v2) M3 → dsSet M3 90 (57 + 3 * M 90 6 + 2) v3 90 6 = evN (wT W) := fun M1 M2 M3 v1 v2 v3 r1 r2 r3 => by
    rw [ds_gn (by omega), f90 r3, ds_gn (by omega), f90 r2, ds_gn (by omega), f90 r1]; exact e6
  have hA : bCt 203 [uR 11 84, uI 0, uI (M 90 4 - 1), uX 0] M (fun _ => [uI (rV n b 0 (wN W - 1) q)]) (fun M' => RQs M' n b (tapQ1 n b W q) ∧ Fr FE M M') := by rw [e4]; exact number_ct (by omega) h
  refine r210_0 (s1 := by omega) (s2 := by omega) (hA1 := hA) (s3 := fun M1 r1 => by omega) (hA2 := fun M1 r1 => number_ct (q := tapQ1 n b W q) (by omega) (RQs_fr r1.1 (fun a j u => ds_gn (by omega)))) (s4 := fun M1 r1 M2 r2 => by omega) (hA3 := fun M1 r1 M2 r2 => toldBy_ct (k := 13) (q := tapQ2 n b W q) (by omega) (by omega) (RQs_fr r2.1 (fun a j u => ds_gn (by omega)))) (s5 := fun M1 r1 M2 r2 M3 r3 => by omega) (s6 := fun M1 r1 M2 r2 M3 r3 => by rw [k4 M1 M2 M3 _ _ _ r1.2 r2.2 r3.2]; omega) (k1 := fun M1 r1 M2 r2 M3 r3 => ?_)
  rw [k4 M1 M2 M3 _ _ _ r1.2 r2.2 r3.2, e6]
  rw [e6] at r2 r3
  refine hQ _ ⟨RQs_fr r3.1 (fun a j u => by rw [ds_gn (by omega), ds_gn (by omega)]), fun u => ?_, ?_, ?_⟩
  · have s3 := exW_0 (nmQ_0 (q := exW n b 13 (tapQ2 n b W q)) u).1
    have s2 := (nmQ_0 (q := tapQ1 n b W q) s3).1
    refine RWd_tap hd hW hc (fun j hj => ?_) ?_ ?_ ?_ ?_
    · rw [ds_gn (by omega), ds_gn (by omega), f90 r3.2, ds_gn (by omega), f90 r2.2, ds_gn (by omega), f90 r1.2]
    · rw [ds_gn (by omega), ds_gn (by omega), f90 r3.2, ds_gn (by omega), f90 r2.2, ds_ge ⟨rfl, rfl⟩]; exact rV_eq s2
    · rw [ds_gn (by omega), ds_gn (by omega), f90 r3.2, ds_ge ⟨rfl, rfl⟩]; exact rV_eq s3
    · rw [ds_gn (by omega), ds_ge ⟨rfl, rfl⟩]; exact rV_eq u
    · rw [ds_ge ⟨rfl, rfl⟩]
  · rw [ds_gn (by omega), ds_gn (by omega), f90 r3.2, ds_gn (by omega), f90 r2.2, ds_gn (by omega), f90 r1.2]
  · exact Fr_set (Fr_set (Fr_trans (Fr_set (Fr_trans (Fr_set (FE_9 r1.2) (Or.inr rfl)) (FE_9 r2.2)) (Or.inr rfl)) (FE_9 r3.2)) (Or.inr rfl)) (Or.inr rfl)
