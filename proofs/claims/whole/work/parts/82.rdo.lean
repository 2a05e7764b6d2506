/-! the reference: a line with its sign, the whole tape, choir -/
theorem tail_bb {M1 : dsMem} {n : Int} {b : Int → Int} {q : psT} {W1 : dsW} {Q : bQT} (r : RQs M1 n b q) (hW : q.1 = 0 → RWd (M1 90) W1 ∧ 0 ≤ evN (wA W1)) (h8 : 0 ≤ M1 90 8 ∧ M1 90 8 ≤ 1000)
    (hQ : ∀ M', RQs M' n b (sgQ n b q) ∧ ((sgQ n b q).1 = 0 → RWd (M' 90) (wInc W1)) ∧ Fr FR9 M1 M' → Q [] M') : bB 213 21 [uR 11 84] [] M1 Q := by
  have s52 : ∀ M2, RQs M2 n b (sgQ n b q) → Fr FE M1 M2 → bB 213 52 [uR 11 84] [] M2 Q := fun M2 r2 f => by
    have e8 : M2 90 8 = M1 90 8 := f90 f 8
    refine r213n_52 (s1 := by omega) (k1 := hQ _ ⟨RQs_fr r2 (fun a j u => ds_gn (by omega)), fun u => ?_, Fr_set (FE_9 f) (Or.inr rfl)⟩)
    have h0 := (sgQ_0 u).1
    have w := hW h0
    refine RWd_inc w.1 w.2 (fun j hj => by rw [ds_gn (by omega)]; exact f90 f j) ?_
    rw [ds_ge ⟨rfl, rfl⟩, e8, w.1.1.2.2.2.2.2.2.2.2]
  by_cases h0 : q.1 = 0
  · have m12 : M1 84 12 = 0 := r.2.1.trans h0
    have hp := RQs_pos r h0
    have rk := r.2.2.2.1 h0
    have t3 : tT n b q.2.2 = 3 ↔ tK n b q.2.2 = 3 := by
      unfold tT
      by_cases hl : tF n b q.2.2 < n
      · rw [if_pos hl]
      · rw [if_neg hl]
        refine ⟨fun u => by omega, fun u => ?_⟩
        have := kd_in (n := n) (b := b) (i := tF n b q.2.2) (by show tK n b q.2.2 ≠ 4; omega)
        omega
    refine r213n_21 (k1 := fun u => absurd m12 u) (k2 := fun _ u => ?_) (hA1 := fun _ _ => errs_ct (x := 1) (by omega) r) (k3 := fun _ u M2 r2 => ?_)
    · have k3 := t3.1 (rk.2.2.1.symm.trans u)
      have e : sgQ n b q = avQ n b q := by unfold sgQ; rw [if_pos h0, if_pos k3]; rfl
      exact r213n_41 (k1 := fun v => absurd m12 v) (hA1 := fun _ => adv2_ct h0 r) (k2 := fun _ M2 r2 => s52 M2 (by rw [e]; exact r2.1) r2.2)
    · have k3 : ¬ tK n b q.2.2 = 3 := fun v => u (rk.2.2.1.trans (t3.2 v))
      have e : sgQ n b q = erQ n b 1 q := by unfold sgQ erQ; rw [if_pos h0, if_neg k3, if_pos h0]
      have z : ¬ (erQ n b 1 q).1 = 0 := by unfold erQ; rw [if_pos h0]; show ¬ (1 : Int) = 0; omega
      have m : ¬ M2 84 12 = 0 := fun v => z (r2.1.2.1.symm.trans v)
      exact r213n_41 (R1 := fun _ => False) (k1 := fun _ => s52 M2 (by rw [e]; exact r2.1) r2.2) (hA1 := fun v => absurd v m) (k2 := fun v => absurd v m)
  · have m : ¬ M1 84 12 = 0 := fun u => h0 (r.2.1.symm.trans u)
    have e : sgQ n b q = q := sgQ_f h0
    exact r213n_21 (R1 := fun _ => False) (k1 := fun _ => r213n_41 (R1 := fun _ => False) (k1 := fun _ => s52 M1 (by rw [e]; exact r) Fr_refl) (hA1 := fun v => absurd v m) (k2 := fun v => absurd v m)) (k2 := fun v => absurd v m) (hA1 := fun v => absurd v m) (k3 := fun v => absurd v m)
theorem lnS_N {n p : Int} {b : Int → Int} {W : dsW} (hz : ¬ wLn W = 0) : (lnS n b W p).2 = sgQ n b (lnN n b W p).2 ∧ ((lnS n b W p).2.1 = 0 → (lnS n b W p).1 = wInc (lnN n b W p).1) := by
  have k0 : ¬ lnK n b W p = 0 := by
    unfold lnK; rw [if_neg hz]
    (repeat' split) <;> omega
  have f1 : ¬ ((1, tF n b p, p) : psT).1 = 0 := by show ¬ (1 : Int) = 0; omega
  have f3 : ¬ ((3, tF n b p, p) : psT).1 = 0 := by show ¬ (3 : Int) = 0; omega
  unfold lnS lnN
  rw [if_neg k0]
  by_cases k1 : lnK n b W p = 1
  · rw [if_pos k1, if_pos k1]; exact ⟨rfl, fun _ => rfl⟩
  · rw [if_neg k1, if_neg k1]
    by_cases k2 : lnK n b W p = 2
    · rw [if_pos k2, if_pos k2]; exact ⟨rfl, fun _ => rfl⟩
    · rw [if_neg k2, if_neg k2]
      by_cases k3 : lnK n b W p = 3
      · rw [if_pos k3, if_pos k3]; exact ⟨rfl, fun _ => rfl⟩
      · rw [if_neg k3, if_neg k3]
        by_cases k4 : lnK n b W p = 4
        · rw [if_pos k4, if_pos k4]; exact ⟨rfl, fun _ => rfl⟩
        · rw [if_neg k4, if_neg k4]
          by_cases k5 : lnK n b W p = 5
          · rw [if_pos k5]; exact ⟨(sgQ_f f1).symm, fun u => absurd u f1⟩
          · rw [if_neg k5]; exact ⟨(sgQ_f f3).symm, fun u => absurd u f3⟩
theorem lnS_F {n p : Int} {b : Int → Int} {W : dsW} (hz : wLn W = 0) : (lnS n b W p).2 = sgQ n b (choQ3 n b (exW n b 0 (0, -1, p))) ∧ ((lnS n b W p).2.1 = 0 → (lnS n b W p).1 = wInc (choW n b W (exW n b 0 (0, -1, p)))) := by
  by_cases w : isW n b p 0
  · have k : lnK n b W p = 0 := by unfold lnK; rw [if_pos hz, if_pos w]
    have e : exW n b 0 (0, -1, p) = (0, -1, tU n b p) := by unfold exW; rw [if_pos rfl, if_pos w]
    unfold lnS; rw [if_pos k, e]; exact ⟨rfl, fun _ => rfl⟩
  · have k : lnK n b W p = 5 := by unfold lnK; rw [if_pos hz, if_neg w]
    have e : exW n b 0 (0, -1, p) = (1, tF n b p, p) := by unfold exW; rw [if_pos rfl, if_neg w]
    have f1 : ¬ ((1, tF n b p, p) : psT).1 = 0 := by show ¬ (1 : Int) = 0; omega
    unfold lnS
    rw [if_neg (by omega), if_neg (by omega), if_neg (by omega), if_neg (by omega), if_neg (by omega), if_pos k, e]
    refine ⟨?_, fun u => absurd u f1⟩
    unfold choQ3 choQ2 choQ1 tbQ
    rw [exW_f f1, nmQ_f f1, exW_f f1, nmQ_f f1, exW_f f1, nmQ_f f1, sgQ_f f1]
theorem lnN_A {n p : Int} {b : Int → Int} {W : dsW} : wA (lnN n b W p).1 = wA W := by
  unfold lnN
  (repeat' split) <;> rfl
theorem rline_ct {M : dsMem} {n p : Int} {b : Int → Int} {W : dsW} (h : RQs M n b (0, -1, p)) (hd : RWd (M 90) W) (hW : DOK W) : bCt 213 [uR 11 84] M (fun _ => []) (fun M' => RQs M' n b (lnS n b W p).2 ∧ ((lnS n b W p).2.1 = 0 → RWd (M' 90) (lnS n b W p).1) ∧ Fr FR9 M M') := by
  intro Q hQ
  have hw := hW.1.1
  have e8 : M 90 8 = wLn W := hd.1.2.2.2.2.2.2.2.2
  by_cases hz : wLn W = 0
  · have sf := lnS_F (n := n) (b := b) (p := p) hz
    refine r213n_0 (R1 := fun _ => False) (hA1 := fun u => by omega) (k1 := fun u => by omega) (hA2 := fun _ => rfirst_ct h hd hW) (k2 := fun _ M2 r2 => tail_bb (W1 := choW n b W (exW n b 0 (0, -1, p))) r2.1 (fun u => ⟨r2.2.1 u, by show 0 ≤ evN (wA W); omega⟩) (by rw [r2.2.2.1]; omega) (fun M' r => hQ M' ⟨by rw [sf.1]; exact r.1, fun u => ?_, Fr_trans r2.2.2.2 r.2.2⟩))
    rw [sf.2 u]
    exact r.2.1 (by rw [← sf.1]; exact u)
  · have sf := lnS_N (n := n) (b := b) (p := p) hz
    refine r213n_0 (R2 := fun _ => False) (hA1 := fun _ => next_ct h hd hW hz) (k1 := fun _ M2 r2 => tail_bb (W1 := (lnN n b W p).1) r2.1 (fun u => ⟨r2.2.1 u, by rw [lnN_A]; omega⟩) (by rw [r2.2.2.1]; omega) (fun M' r => hQ M' ⟨by rw [sf.1]; exact r.1, fun u => ?_, Fr_trans r2.2.2.2 r.2.2⟩)) (hA2 := fun u => by omega) (k2 := fun u => by omega)
    rw [sf.2 u]
    exact r.2.1 (by rw [← sf.1]; exact u)
theorem RWd_00 {f : Int → Int} (h : ∀ j, 0 ≤ j → j < 105 → f j = 0) : RWd f W00 := by
  refine ⟨⟨h 0 (by omega) (by omega), h 1 (by omega) (by omega), h 2 (by omega) (by omega), h 3 (by omega) (by omega), h 4 (by omega) (by omega), h 5 (by omega) (by omega), h 6 (by omega) (by omega), h 7 (by omega) (by omega), h 8 (by omega) (by omega)⟩, fun w w0 w1 => ?_, fun s s0 s1 => ?_, fun i i0 i1 => ?_, fun i i0 i1 => ?_, fun i i0 i1 => ?_⟩
  · have : w < 0 := w1; omega
  · have : s < 0 := s1; omega
  · have : i < 0 := i1; omega
  · have : i < 0 := i1; omega
  · have : i < 0 := i1; omega
def RQ7 : Int → Int → Prop := fun a j => (a = 84 ∧ 5 ≤ j ∧ j ≤ 13) ∨ a = 85 ∨ a = 90
theorem rq214 {M : dsMem} {W : dsW} {n flt plc : Int} {b : Int → Int} (h : RI0 M W) (ht : RTt M n b flt plc) : bCt 214 [uR 11 84, uX 0] M (fun _ => [uI (aCh n b)]) (fun M' => RI0 M' (nCh W n b) ∧ RTt M' 0 b (parse n b).2.1 (parse n b).2.2.1 ∧ Fr RQ7 M M') := by
  intro Q hQ
  have h600 := ht.2.1
  have F9 : ∀ {M M' : dsMem}, Fr FR9 M M' → Fr RQ7 M M' := fun h => Fr_mono (fun a j q => by unfold FR9 FE at q; unfold RQ7; omega) h
  refine r214_0 (k1 := ?_)
  refine b_loop (fun (k : Int) => [uR 11 84, uI k]) (fun k M' => (0 ≤ k ∧ k ≤ 105) ∧ M' 84 7 = n ∧ M' 84 5 = 0 ∧ M' 84 8 = 0 ∧ M' 84 12 = 0 ∧ M' 84 13 = -1 ∧ (∀ j, 0 ≤ j → j < k → M' 90 j = 0) ∧ Fr (fun a j => (a = 84 ∧ 5 ≤ j ∧ j ≤ 13) ∨ a = 90) M M') (fun k => (105 - k).toNat) ?_ 0 _ ⟨by omega, ?_, ?_, ?_, ?_, ?_, fun j j0 j1 => by omega, Fr_set (Fr_set (Fr_set (Fr_set (Fr_set Fr_refl (by omega)) (by omega)) (by omega)) (by omega)) (by omega)⟩
  · rintro k M1 ⟨hk, m7, m5, m8, m12, m13, m90, hF⟩ ih
    have hT : RTp M1 n b := ⟨m7, h600, fun i i0 i1 => by rw [hF _ _ (by omega)]; exact ht.2.2.1 i i0 i1⟩
    refine r214_30 (hA1 := fun _ => adv_ct hT m8 ⟨Int.le_refl _, h600.1⟩) (k1 := fun u M2 r2 => ?_) (s1 := fun u => by omega) (s2 := fun u => by omega) (k2 := fun u => ?_)
    · have e2 : ∀ j, ¬ (8 ≤ j ∧ j ≤ 11) → M2 84 j = M1 84 j := fun j w => r2.2 _ _ (by unfold FA; omega)
      have hq : RQs M2 n b (0, -1, 0) := ⟨RTp_e hT (fun a j w => r2.2 a j (by unfold FA; omega)), by rw [e2 _ (by omega)]; exact m12, by rw [e2 _ (by omega)]; exact m13, fun _ => r2.1, fun _ => ⟨rfl, Int.le_refl _, h600.1⟩⟩
      have h90 : RWd (M2 90) W00 := RWd_00 (fun j j0 j1 => by rw [r2.2 _ _ (by unfold FA; omega)]; exact m90 j j0 (by omega))
      have f2 : Fr RQ7 M M2 := Fr_trans (Fr_mono (fun a j q => by unfold RQ7; omega) hF) (Fr_mono (fun a j q => by unfold FA at q; unfold RQ7; omega) r2.2)
      have p5 : M2 84 5 = 0 := by rw [e2 _ (by omega)]; exact m5
      have i85 : ∀ j, M2 85 j = M 85 j := fun j => by rw [r2.2 _ _ (by unfold FA; omega)]; exact hF _ _ (by omega)
      refine b_loop (fun (_ : Int × (dsW × psT)) => [uR 11 84, uX 0]) (fun a M' => (0 ≤ a.1 ∧ a.1 ≤ 601) ∧ prs n b (601 - a.1).toNat a.2 = parse n b ∧ RQs M' n b a.2.2 ∧ (a.2.2.1 = 0 → RWd (M' 90) a.2.1 ∧ DOK a.2.1 ∧ a.1 ≤ a.2.2.2.2 ∧ wLn a.2.1 = a.1) ∧ Fr FR9 M2 M') (fun a => (601 - a.1).toNat) ?_ (0, (W00, (0, -1, 0))) M2 ⟨by show (0 : Int) ≤ 0 ∧ (0 : Int) ≤ 601; omega, rfl, hq, fun _ => ⟨h90, W00_ok, Int.le_refl _, rfl⟩, Fr_refl⟩
      rintro ⟨i, s⟩ M' ⟨hi, hp, hq', hs, hF'⟩ ih'
      simp only at hi hp hq' hs
      show bB 214 53 [uR 11 84, uX 0] [] M' Q
      have e12 : M' 84 12 = s.2.1 := hq'.2.1
      have q5 : M' 84 5 = 0 := by rw [hF' _ _ (by unfold FR9 FE; omega)]; exact p5
      have g85 : ∀ j, M' 85 j = M 85 j := fun j => by rw [hF' _ _ (by unfold FR9 FE; omega)]; exact i85 j
      by_cases z : s.2.1 = 0
      · have hz := hs z
        have hpos := RQs_pos hq' z
        obtain ⟨p, hpp⟩ : ∃ p, s.2.2.2 = p := ⟨_, rfl⟩
        rw [hpp] at hpos hz
        have m1 : M' 84 12 = 0 := e12.trans z
        have hq0 : RQs M' n b (0, -1, p) := by rw [← hpos.1]; exact hq'
        have rk := hq0.2.2.2.1 rfl
        have hW := hz.2.1
        have ok1 := lnS_ok (n := n) (b := b) (p := p) hW hpos.2 (by omega)
        have tb := t_b (n := n) (p := p) (b := b) hpos.2
        have t0 : tT n b p = 0 ↔ ¬ tF n b p < n := by
          unfold tT
          by_cases hl : tF n b p < n
          · rw [if_pos hl]
            have : ¬ kd n b (tF n b p) = 0 := sc_nx (by omega) hpos.2.2
            exact ⟨fun u => absurd u this, fun u => absurd hl u⟩
          · rw [if_neg hl]; exact ⟨fun _ => hl, fun _ => rfl⟩
        have r10 : M' 84 10 = tT n b p := rk.2.2.1
        refine r214_53 (k1 := fun u => absurd m1 u) (k2 := fun u => absurd m1 u) (k3 := fun _ u _ => ?_) (k4 := fun _ _ u => absurd m1 u) (hA1 := fun _ _ => rline_ct (W := s.1) hq0 hz.1 hW) (k5 := fun _ u M3 r3 => ?_)
        · have w : ¬ tF n b p < n := t0.1 (r10.symm.trans u)
          have pe : prs n b (601 - i).toNat s = s := prs_end (fun v => w (by rw [← hpp]; exact v.2))
          rw [pe] at hp
          have zz : (parse n b).2.1 = 0 := by rw [← hp]; exact z
          refine b_loop (fun (k : Int) => [uR 11 84, uI k]) (fun k M3 => (0 ≤ k ∧ k ≤ 105) ∧ (∀ j, 0 ≤ j → j < k → M3 85 j = M' 90 j) ∧ Fr (fun a _ => a = 85) M' M3) (fun k => (105 - k).toNat) ?_ 0 M' ⟨by omega, fun j j0 j1 => by omega, Fr_refl⟩
          rintro k M3 ⟨hk3, hj3, hF3⟩ ih3
          have hI : 105 ≤ k → RI0 M3 (parse n b).1 := fun v => by
            rw [← hp]
            exact ⟨hW.1, RWd_c hW.1 hz.1 (fun j j0 j1 => hj3 j j0 (by omega))⟩
          refine r214_86 (k1 := fun v => ?_) (s1 := fun v => by omega) (s2 := fun v => by omega) (k2 := fun v => ?_)
          · refine q_eq ?_ (hQ M3 ⟨by unfold nCh; rw [if_pos zz]; exact hI v, ⟨by rw [hF3 _ _ (by omega)]; exact q5, by omega, fun i i0 i1 => by omega, ?_, ?_⟩, Fr_trans (Fr_trans f2 (F9 hF')) (Fr_mono (fun a j q => by unfold RQ7; omega) hF3)⟩)
            · unfold aCh; rw [if_pos zz]; exact (RI_b (hI v)).1.2.2.2.2.2.2.2.2
            · rw [hF3 _ _ (by omega), ← hp]; exact e12
            · rw [hF3 _ _ (by omega), ← hp]; exact hq'.2.2.1
          · refine ih3 (k + 1) _ (by show (105 - (k + 1)).toNat < (105 - k).toNat; omega) ⟨by omega, fun j j0 j1 => ?_, Fr_set hF3 rfl⟩
            by_cases ej : j = k
            · subst ej; rw [ds_ge ⟨rfl, rfl⟩]; exact hF3 _ _ (by omega)
            · rw [ds_gn (by omega)]; exact hj3 j j0 (by omega)
        · have w : tF n b p < n := by
            by_cases hl : tF n b p < n
            · exact hl
            · exact absurd (r10.trans (t0.2 hl)) u
          have hst : prs n b (601 - i).toNat s = prs n b (601 - (i + 1)).toNat (lnS n b s.1 p) := by
            rw [show (601 - i).toNat = (601 - (i + 1)).toNat + 1 by omega, prs, if_pos ⟨z, by rw [hpp]; exact w⟩, hpp]
          rw [hst] at hp
          refine ih' (i + 1, lnS n b s.1 p) M3 (by show (601 - (i + 1)).toNat < (601 - i).toNat; omega) ⟨by show 0 ≤ i + 1 ∧ i + 1 ≤ 601; omega, hp, r3.1, fun v => ?_, Fr_trans hF' r3.2.2⟩
          have v' : (lnS n b s.1 p).2.1 = 0 := v
          have o := ok1.2 v'
          exact ⟨r3.2.1 v', o.1, by show i + 1 ≤ (lnS n b s.1 p).2.2.2; have := tb.2.2.2.1 w; omega, by show wLn (lnS n b s.1 p).1 = i + 1; rw [o.2.1]; omega⟩
      · have m1 : ¬ M' 84 12 = 0 := by rw [e12]; exact z
        have pe : prs n b (601 - i).toNat s = s := prs_end (fun v => z v.1)
        rw [pe] at hp
        have zz : ¬ (parse n b).2.1 = 0 := by rw [← hp]; exact z
        refine r214_53 (R1 := fun _ => False) (k1 := fun _ u => absurd u m1) (k2 := fun _ _ => ?_) (k3 := fun u => absurd u m1) (k4 := fun u => absurd u m1) (hA1 := fun u => absurd u m1) (k5 := fun u => absurd u m1)
        refine q_eq ?_ (hQ M' ⟨by unfold nCh; rw [if_neg zz]; exact RI0_e h g85, ⟨q5, by omega, fun i i0 i1 => by omega, by rw [← hp]; exact e12, by rw [← hp]; exact hq'.2.2.1⟩, Fr_trans f2 (F9 hF')⟩)
        unfold aCh; rw [if_neg zz]
    · exact ih (k + 1) _ (by show (105 - (k + 1)).toNat < (105 - k).toNat; omega) ⟨by omega, by rw [ds_gn (by omega)]; exact m7, by rw [ds_gn (by omega)]; exact m5, by rw [ds_gn (by omega)]; exact m8, by rw [ds_gn (by omega)]; exact m12, by rw [ds_gn (by omega)]; exact m13, fun j j0 j1 => by
        by_cases e : j = k
        · subst e; rw [ds_ge ⟨rfl, rfl⟩]
        · rw [ds_gn (by omega)]; exact m90 j j0 (by omega), Fr_set hF (by omega)⟩
  · rw [ds_gn (by omega), ds_gn (by omega), ds_gn (by omega), ds_gn (by omega), ds_ge ⟨rfl, rfl⟩]; exact ht.1
  · rw [ds_gn (by omega), ds_gn (by omega), ds_gn (by omega), ds_ge ⟨rfl, rfl⟩]
  · rw [ds_gn (by omega), ds_gn (by omega), ds_ge ⟨rfl, rfl⟩]
  · rw [ds_gn (by omega), ds_ge ⟨rfl, rfl⟩]
  · rw [ds_ge ⟨rfl, rfl⟩]
