/-! the class: the tape read whole, choir, feed, end, fault -/
def W00 : dsW := ((0, 0, 0, 0, 0, 0), (fun _ => 0, fun _ => 0), (fun _ => 0, fun _ => 0, fun _ => 0), (0, fun _ => 0, fun _ => 0, fun _ => 0, fun _ => 0), (0, fun _ => 0, fun _ => 0, fun _ => 0, fun _ => 0), (0, fun _ => 0, fun _ => 0, fun _ => 0, fun _ => 0))
theorem W00_ok : DOK W00 := by
  refine ⟨⟨?_, fun w w0 w1 => ?_, fun s s0 s1 => ?_, fun i i0 i1 => ?_, fun i i0 i1 => ?_, fun i i0 i1 => ?_⟩, rfl⟩
  · show 0 ≤ (0 : Int) ∧ (0 : Int) ≤ 1000 ∧ 0 ≤ (0 : Int) ∧ (0 : Int) ≤ 12 ∧ 0 ≤ (0 : Int) ∧ (0 : Int) ≤ 3 ∧ 0 ≤ (0 : Int) ∧ (0 : Int) ≤ 10 ∧ 0 ≤ (0 : Int) ∧ (0 : Int) ≤ 3 ∧ 0 ≤ (0 : Int) ∧ (0 : Int) ≤ 6 ∧
      0 ≤ (0 : Int) ∧ (0 : Int) ≤ 8 ∧ 0 ≤ (0 : Int) ∧ (0 : Int) ≤ 6 ∧ 0 ≤ (0 : Int) ∧ (0 : Int) ≤ 30 ∧ ((0 : Int) = 0 → (0 : Int) = 0 ∧ (0 : Int) = 0 ∧ (0 : Int) = 0 ∧ (0 : Int) = 0 ∧ (0 : Int) = 0 ∧ (0 : Int) = 0) ∧ (0 < (0 : Int) → 1 ≤ (0 : Int))
    omega
  · have : w < 0 := w1; omega
  · have : s < 0 := s1; omega
  · have : i < 0 := i1; omega
  · have : i < 0 := i1; omega
  · have : i < 0 := i1; omega
def prs (n : Int) (b : Int → Int) : Nat → dsW × psT → dsW × psT
  | 0, s => s
  | k + 1, s => if s.2.1 = 0 ∧ tF n b s.2.2.2 < n then prs n b k (lnS n b s.1 s.2.2.2) else s
def parse (n : Int) (b : Int → Int) : dsW × psT := prs n b 601 (W00, (0, -1, 0))
theorem prs_end {n : Int} {b : Int → Int} {k : Nat} {s : dsW × psT} (h : ¬ (s.2.1 = 0 ∧ tF n b s.2.2.2 < n)) : prs n b k s = s := by
  cases k with
  | zero => rfl
  | succ k => rw [prs, if_neg h]
theorem read_ct {M : dsMem} {n : Int} {b : Int → Int} (h : CTp M n b) : bCt 45 [uR 6 1, uR 4 3, uX 0] M (fun _ => [uI (if (parse n b).2.1 = 0 then 1 else 0)]) (fun M' => (M' 1 1 = (parse n b).2.1 ∧ M' 1 2 = (parse n b).2.2.1) ∧ ((parse n b).2.1 = 0 → D3 M' (parse n b).1 ∧ DOK (parse n b).1) ∧ Fr FL M M') := by
  intro Q hQ
  have h600 := h.2.1
  refine r45_0 (R1 := fun M1 => CQs M1 n b (0, -1, 0) ∧ D3 M1 W00 ∧ Fr FL M M1) (hA1 := fun Q1 hQ1 => r61_0 (k1 := hQ1 _ ⟨⟨?_, ?_, ?_, fun _ => ?_, fun _ => ⟨rfl, Int.le_refl _, h600.1⟩⟩, ⟨⟨?_, ?_, ?_, ?_, ?_, ?_⟩, fun w w0 w1 => ?_, fun s s0 s1 => ?_, ⟨?_, fun i i0 i1 => ?_⟩, ⟨?_, fun i i0 i1 => ?_⟩, ⟨?_, fun i i0 i1 => ?_⟩⟩, ?_⟩)) (k1 := fun M1 r1 => ?_)
  · refine CTp_e h (fun a j u => ?_)
    iterate 13 rw [ds_gn (by omega)]
  · iterate 12 rw [ds_gn (by omega)]
    rw [ds_ge ⟨rfl, rfl⟩]
  · iterate 11 rw [ds_gn (by omega)]
    rw [ds_ge ⟨rfl, rfl⟩]
  · iterate 9 rw [ds_gn (by omega)]
    rw [ds_ge ⟨rfl, rfl⟩]
  · iterate 8 rw [ds_gn (by omega)]
    rw [ds_ge ⟨rfl, rfl⟩]; rfl
  · iterate 7 rw [ds_gn (by omega)]
    rw [ds_ge ⟨rfl, rfl⟩]; rfl
  · iterate 6 rw [ds_gn (by omega)]
    rw [ds_ge ⟨rfl, rfl⟩]; rfl
  · iterate 5 rw [ds_gn (by omega)]
    rw [ds_ge ⟨rfl, rfl⟩]; rfl
  · iterate 4 rw [ds_gn (by omega)]
    rw [ds_ge ⟨rfl, rfl⟩]; rfl
  · iterate 3 rw [ds_gn (by omega)]
    rw [ds_ge ⟨rfl, rfl⟩]; rfl
  · have : w < 0 := w1; omega
  · have : s < 0 := s1; omega
  · iterate 2 rw [ds_gn (by omega)]
    rw [ds_ge (by omega)]; rfl
  · have : i < 0 := i1; omega
  · rw [ds_gn (by omega), ds_ge (by omega)]; rfl
  · have : i < 0 := i1; omega
  · rw [ds_ge (by omega)]; rfl
  · have : i < 0 := i1; omega
  · iterate 9 refine Fr_set ?_ (Or.inr (by omega))
    iterate 4 refine Fr_set ?_ (Or.inl (by unfold FP; omega))
    exact Fr_refl
  · refine b_loop (fun (a : Int × (dsW × psT)) => [uR 6 1, uR 4 3, uI a.1]) (fun a M' => (0 ≤ a.1 ∧ a.1 ≤ 601) ∧ prs n b (601 - a.1).toNat a.2 = parse n b ∧ CQs M' n b a.2.2 ∧ (a.2.2.1 = 0 → D3 M' a.2.1 ∧ DOK a.2.1 ∧ a.1 ≤ a.2.2.2.2 ∧ wLn a.2.1 = a.1) ∧ Fr FL M M') (fun a => (601 - a.1).toNat) ?_ (0, (W00, (0, -1, 0))) M1 ⟨by show (0 : Int) ≤ 0 ∧ (0 : Int) ≤ 601; omega, rfl, r1.1, fun _ => ⟨r1.2.1, W00_ok, Int.le_refl _, rfl⟩, r1.2.2⟩
    rintro ⟨i, s⟩ M' ⟨hi, hp, hq, hs, hF⟩ ih
    simp only at hi hp hq hs
    show bB 45 26 [uR 6 1, uR 4 3, uI i] [] M' Q
    have e0 : M' 1 0 = n := hq.1.1
    have e1 : M' 1 1 = s.2.1 := hq.2.1
    have flt : ¬ M' 1 1 = 0 → Q [uI 0] M' := fun u => by
      have : prs n b (601 - i).toNat s = s := prs_end (fun w => u (by rw [e1]; exact w.1))
      rw [this] at hp
      refine q_eq ?_ (hQ M' ⟨⟨by rw [← hp]; exact e1, by rw [← hp]; exact hq.2.2.1⟩, fun w => absurd w (by rw [← hp, ← e1]; exact u), hF⟩)
      rw [if_neg (by rw [← hp, ← e1]; exact u)]
    by_cases z : s.2.1 = 0
    · have hz := hs z
      have hpos := CQs_pos hq z
      obtain ⟨p, hpp⟩ : ∃ p, s.2.2.2 = p := ⟨_, rfl⟩
      rw [hpp] at hpos hz
      have m1 : M' 1 1 = 0 := e1.trans z
      have hW := hz.2.1
      have hq0 : CQs M' n b (0, -1, p) := by rw [← hpos.1]; exact hq
      have ok1 := lnS_ok (n := n) (b := b) (p := p) hW hpos.2.2 (by omega)
      have tb := t_b (n := n) (p := p) (b := b) hpos.2.2
      refine r45_26 (k1 := fun u => by omega) (k2 := fun u => by omega) (k3 := fun _ u => absurd m1 u) (k4 := fun _ u => absurd m1 u) (hA1 := fun _ _ => nt_ct hq0.1 hpos.2.1 hpos.2.2) (k5 := fun _ _ M2 r2 q2 u => absurd (by rw [r2.2.2 _ _ (by unfold FT; omega)]; exact m1) u) (k6 := fun _ _ M2 r2 q2 _ => ?_) (hA2 := fun _ _ M2 r2 q2 => line_ct (W := s.1) (CQs_next hq0 r2) r2.1 hpos.2.2 (D3_p hz.1 (FT_p r2.2.2)) hW) (s1 := fun _ _ M2 r2 q2 M3 r3 => by omega) (k7 := fun _ _ M2 r2 q2 M3 r3 => ?_)
      · have w := if01_0 q2
        have : prs n b (601 - i).toNat s = s := prs_end (fun v => w (by rw [← hpp]; exact v.2))
        rw [this] at hp
        refine q_eq ?_ (hQ M2 ⟨⟨?_, ?_⟩, fun _ => ⟨?_, ?_⟩, Fr_trans hF (FP_l (FT_p r2.2.2))⟩)
        · rw [if_pos (by rw [← hp]; exact z)]
        · rw [r2.2.2 _ _ (by unfold FT; omega), ← hp]; exact e1
        · rw [r2.2.2 _ _ (by unfold FT; omega), ← hp]; exact hq.2.2.1
        · rw [← hp]; exact D3_p hz.1 (FT_p r2.2.2)
        · rw [← hp]; exact hW
      · have w := if01_1 q2
        have hst : prs n b (601 - i).toNat s = prs n b (601 - (i + 1)).toNat (lnS n b s.1 p) := by
          rw [show (601 - i).toNat = (601 - (i + 1)).toNat + 1 by omega, prs, if_pos ⟨z, by rw [hpp]; exact w⟩, hpp]
        rw [hst] at hp
        refine ih (i + 1, lnS n b s.1 p) M3 (by show (601 - (i + 1)).toNat < (601 - i).toNat; omega) ⟨by show 0 ≤ i + 1 ∧ i + 1 ≤ 601; omega, hp, r3.1, fun v => ?_, Fr_trans (Fr_trans hF (FP_l (FT_p r2.2.2))) r3.2.2⟩
        have v' : (lnS n b s.1 p).2.1 = 0 := v
        have o := ok1.2 v'
        exact ⟨r3.2.1 v', o.1, by show i + 1 ≤ (lnS n b s.1 p).2.2.2; have := tb.2.2.2.1 w; omega, by show wLn (lnS n b s.1 p).1 = i + 1; rw [o.2.1]; omega⟩
    · have m1 : ¬ M' 1 1 = 0 := by rw [e1]; exact z
      exact r45_26 (R1 := fun _ => False) (g1 := fun _ => 0) (R2 := fun _ _ => False) (k1 := fun _ u => flt u) (k2 := fun _ u => absurd u m1) (k3 := fun _ u _ => flt u) (k4 := fun _ _ u => absurd u m1) (hA1 := fun _ u => absurd u m1) (k5 := fun _ u => absurd u m1) (k6 := fun _ u => absurd u m1) (hA2 := fun _ u => absurd u m1) (s1 := fun _ u => absurd u m1) (k7 := fun _ u => absurd u m1)
/-- the class's tape: what was fed, and what was found amiss -/
def CTt (M : dsMem) (n : Int) (b : Int → Int) (flt plc : Int) : Prop := CTp M n b ∧ M 1 1 = flt ∧ M 1 2 = plc
def nCh (W : dsW) (n : Int) (b : Int → Int) : dsW := if (parse n b).2.1 = 0 then (parse n b).1 else W
def aCh (n : Int) (b : Int → Int) : Int := if (parse n b).2.1 = 0 then wLn (parse n b).1 else -4
def CQ6 : Int → Int → Prop := fun a j => CQ4 a j ∨ (a = 1 ∧ j ≠ 3) ∨ (3 ≤ a ∧ a ≤ 23)
theorem cq71 {M : dsMem} {W : dsW} {n flt plc : Int} {b : Int → Int} (h : CI M W) (ht : CTt M n b flt plc) : bCt 71 [uR 10 0, uX 0] M (fun _ => [uI (aCh n b)]) (fun M' => CI M' (nCh W n b) ∧ CTt M' 0 b (parse n b).2.1 (parse n b).2.2.1 ∧ Fr CQ6 M M') := by
  intro Q hQ
  have hl6 : ∀ {M M' : dsMem}, Fr FL M M' → Fr CQ6 M M' := fun h => Fr_mono (fun a j q => by unfold FL FP at q; unfold CQ6; omega) h
  refine r71_0 (hA1 := read_ct ht.1) (hA2 := fun M1 r1 q => take_ct (W := (parse n b).1) ((r1.2.1 (if01_1 q)).2.1) (CWd_e (D3_iff.2 (r1.2.1 (if01_1 q)).1) (fun a j u1 u2 => ds_gn (by omega))) (by omega)) (hA3 := fun M1 r1 q M2 r2 => forget_ct) (k1 := fun M1 r1 q M2 r2 M3 r3 => ?_) (k2 := fun M1 r1 q => ?_)
  · have z := if01_1 q
    have o := r1.2.1 z
    have hI : CI M3 (parse n b).1 := CI_fg o.2.1 (C24_iff.1 r2.1) (Dfl_e h.2.2.1 (fun j => by rw [r2.2 _ _ (by omega), ds_gn (by omega)]; exact r1.2.2 _ _ (by unfold FL FP; omega))) r3
    have e3 : ∀ a j, a = 1 ∨ a = 2 → M3 a j = dsSet M1 1 0 0 a j := fun a j u => by
      rw [r3, ds_gn (by omega), ds_gn (by omega), ds_gn (by omega)]; exact r2.2 _ _ (by omega)
    refine q_eq ?_ (hQ M3 ⟨by unfold nCh; rw [if_pos z]; exact hI, ⟨⟨?_, by omega, fun i i0 i1 => by omega⟩, ?_, ?_⟩, ?_⟩)
    · unfold aCh; rw [if_pos z]; exact (CI_b hI).1.1
    · rw [e3 _ _ (by omega), ds_ge ⟨rfl, rfl⟩]
    · rw [e3 _ _ (by omega), ds_gn (by omega)]; exact r1.1.1
    · rw [e3 _ _ (by omega), ds_gn (by omega)]; exact r1.1.2
    · subst r3
      exact Fr_trans (Fr_trans (Fr_set (hl6 r1.2.2) (by unfold CQ6; omega)) (Fr_mono (fun a j w => Or.inl (Or.inr (by omega))) r2.2)) (Fr_mono (fun a j w => Or.inl w) (CQ_4 Fr_fg))
  · have z := if01_0 q
    refine q_eq ?_ (hQ _ ⟨?_, ⟨⟨by rw [ds_ge ⟨rfl, rfl⟩], by omega, fun i i0 i1 => by omega⟩, by rw [ds_gn (by omega)]; exact r1.1.1, by rw [ds_gn (by omega)]; exact r1.1.2⟩, Fr_set (hl6 r1.2.2) (by unfold CQ6; omega)⟩)
    · unfold aCh; rw [if_neg z]
    · unfold nCh; rw [if_neg z]
      obtain ⟨x1, x2, x3, x4, x5, x6⟩ := h
      have e : ∀ a j, (a = 0 ∨ 24 ≤ a) → dsSet M1 1 0 0 a j = M a j := fun a j u => by rw [ds_gn (by omega)]; exact r1.2.2 _ _ (by unfold FL FP; omega)
      refine ⟨x1, C24_e x2 (fun a j u1 u2 => e a j (by omega)), Dfl_e x3 (fun j => e _ _ (by omega)), ?_, ?_, ?_⟩
      · rw [e 0 10 (by omega)]
        rcases x4 with d | d
        · exact Or.inl d
        · exact Or.inr ⟨d.1, FR_e (P0_ok x1) d.2 (fun a j q1 q2 => e a j (by omega))⟩
      · rw [e 0 11 (by omega)]
        simp only [e 83 _ (by omega)]; exact x5
      · rw [e 81 0 (by omega), e 81 1 (by omega), e 81 2 (by omega)]
        simp only [e 82 _ (by omega)]; exact x6
-- feed, end, fault
def fdB (b : Int → Int) (n : Int) (x : Int → Int) : Int → Int := fun j => if n ≤ j ∧ j < n + 20 then dsB (dsShr (x ((j - n) / 4)) (24 - 8 * ((j - n) % 4))) else b j
def x5 (x1 x2 x3 x4 x5 : Int) : Int → Int := fun i => if i = 0 then x1 else if i = 1 then x2 else if i = 2 then x3 else if i = 3 then x4 else x5
