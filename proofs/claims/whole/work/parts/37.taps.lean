/-! the flow's year: taps and walls -/
theorem CF_emp {M : dsMem} {x0 y s : Int} {P : dsP} {S : dsS} (hP : POK P) (h : CF M x0 y P S) (hS : WS P S) (hy : 0 ≤ y) (hs : 0 ≤ s ∧ s < pN P) :
    CF (dsSet (dsSet (dsSet M (x0 + 8) y (dsw (M (x0 + 8) y + M (x0 + 5) ((y + 1) * 6 + s)))) (x0 + 5) ((y + 1) * 6 + s) 0) (x0 + 4) ((y + 1) * 6 + s) 0) x0 y P (dsEmpty S s (dySum (sL S s))) := by
  unfold dsEmpty
  have e := CF_upd (M' := dsSet (dsSet (dsSet M (x0 + 8) y (dsw (M (x0 + 8) y + M (x0 + 5) ((y + 1) * 6 + s)))) (x0 + 5) ((y + 1) * 6 + s) 0) (x0 + 4) ((y + 1) * 6 + s) 0) (l' := []) (X' := sX S + dySum (sL S s)) (d' := sD S s) hP h hS hy hs ?_ ?_ ?_ ?_
  · rw [dsUpd_self] at e; exact e
  · refine Fr_set (Fr_set (Fr_set Fr_refl (Or.inr (Or.inl ⟨rfl, rfl⟩))) ?_) ?_ <;> unfold FD FC <;> omega
  · refine ⟨?_, ?_, trivial⟩
    · simp (disch := omega) only [ds_gn, ds_ge]; rfl
    · simp (disch := omega) only [ds_gn, ds_ge]; rfl
  · simp (disch := omega) only [ds_gn, ds_ge]
    rw [(h.1 s hs.1 hs.2).2.1, h.2.2.2.1, dyw_add]
  · simp (disch := omega) only [ds_gn, ds_ge]
    exact (h.2.2.2.2.2.2 s hs.1 hs.2).2
theorem WS_emp {P : dsP} {S : dsS} {s n : Int} (hP : POK P) (hS : WS P S) : WS P (dsEmpty S s n) := by
  intro t t0 t1
  show dyWl (dsUpd (sL S) s [] t) ∧ dySum (dsUpd (sL S) s [] t) ≤ _
  by_cases ht : t = s
  · subst ht; rw [dsUpd_eq]
    exact ⟨dyWl_nil, (hP.2.1 t t0 t1).1⟩
  · rw [dsUpd_ne ht]; exact hS t t0 t1
theorem fell_ct {M0 M : dsMem} {x0 y b w : Int} {P : dsP} {S : dsS} (hP : POK P) (hx : x0 = 47 ∨ x0 = 62) (hy : 0 ≤ y ∧ y < 12) (h : CS M0 x0 y P b M S) :
    bCt 22 [uR 5 x0, uI w, uI y, uX 0, uX 0] M (fun _ => []) (fun M' => CS M0 x0 y P b M' (dsFell P w S)) := by
  intro Q hQ
  have hN := hP.1
  refine r22_0 (k1 := ?_)
  unfold dsFell at hQ
  refine b_itS (pN P) (fun s => [uR 5 x0, uI w, uI y, uI s, uX 0]) (fun s S => if pOn P s = w then dsEmpty S s (dySum (sL S s)) else S) (CS M0 x0 y P b) (dsDown S w) ?_ ?_ _ ?_
  · intro s M1 S1 s0 s1 hc ih
    have ew := hc.2.2.2.1.2.1 s s0 s1
    have e5 := hc.2.2.2.1.1.1
    refine r22_18 (k1 := fun q1 => by omega) (k2 := fun q1 q2 => ih M1 ?_) (k3 := fun q1 q2 => ih _ ?_)
    · rw [ew.2.2.1] at q2
      rw [if_neg q2]; exact hc
    · rw [ew.2.2.1] at q2
      rw [if_pos q2]
      refine CS_mk hx hc (CF_emp hP hc.1 hc.2.1 hy.1 ⟨s0, s1⟩) (WS_emp hP hc.2.1) hc.2.2.1 ?_
      refine Fr_set (Fr_set (Fr_set Fr_refl ?_) ?_) ?_ <;> unfold DY <;> omega
  · intro s M1 s0 s1 hc
    have e5 := hc.2.2.2.1.1.1
    exact r22_18 (k1 := fun q1 => hQ M1 hc) (k2 := fun q1 q2 => by omega) (k3 := fun q1 q2 => by omega)
  · refine CS_mk hx h ?_ h.2.1 h.2.2.1 (Fr_set Fr_refl ?_)
    · obtain ⟨a, b, c, d, e, f, g⟩ := h.1
      refine ⟨?_, ?_, ?_, ?_, ?_, ?_, ?_⟩
      · intro t t0 t1
        exact cell_ne (a t t0 t1) (fun a j hh => ds_get_ne (by omega))
      · intro w w0 w1
        rw [ds_get_ne (by omega)]; exact b w w0 w1
      · rw [ds_get_eq, c]; rfl
      · rw [ds_get_ne (by omega)]; exact d
      · rw [ds_get_ne (by omega)]; exact e
      · intro k k0 k1
        rw [ds_get_ne (by omega)]; exact f k k0 k1
      · intro t t0 t1
        rw [ds_get_ne (by omega), ds_get_ne (by omega)]; exact g t t0 t1
    · unfold DY; omega
theorem load_bd {P : dsP} {S : dsS} {w : Int} (hP : POK P) (hS : WS P S) : ∀ i, 0 ≤ i → i ≤ pN P → ∀ a, 0 ≤ a → a ≤ 60 * i → 0 ≤ dsIter (fun s a => if pOn P s = w then a + dySum (sL S s) else a) i (pN P) a ∧ dsIter (fun s a => if pOn P s = w then a + dySum (sL S s) else a) i (pN P) a ≤ 360 ∧ dsIter (fun s a => if pOn P s = w then dsw (a + dySum (sL S s)) else a) i (pN P) a = dsIter (fun s a => if pOn P s = w then a + dySum (sL S s) else a) i (pN P) a := by
  have hN := hP.1
  refine ds_ind (pN P) ?_ ?_
  · intro i h i0 i1 a a0 a1
    rw [dsIter_end h, dsIter_end h]
    refine ⟨a0, by omega, rfl⟩
  · intro i h ih i0 i1 a a0 a1
    have hs := hS i i0 h
    have hr := hP.2.1 i i0 h
    have hnn := dySum_nn hs.1
    rw [dsIter_step h, dsIter_step h]
    split
    · rw [dsw_id (by omega) (by omega)]
      exact ih (by omega) (by omega) _ (by omega) (by omega)
    · exact ih (by omega) (by omega) _ a0 (by omega)
theorem load_eq {M : dsMem} {x0 y w : Int} {P : dsP} {S : dsS} (hP : POK P) (h : CF M x0 y P S) (hS : WS P S) (hW : CW M x0 P) : v23 M x0 w (y + 1) = dsLoad P S w ∧ 0 ≤ dsLoad P S w ∧ dsLoad P S w ≤ 360 := by
  have hb := load_bd (w := w) hP hS 0 (by omega) hP.1.1 0 (by omega) (by omega)
  refine ⟨?_, hb.1, hb.2.1⟩
  unfold v23 dsLoad
  rw [← hb.2.2, hW.1.1]
  refine dsIter_congr 0 0 ?_
  intro s a s0 s1
  rw [(hW.2.1 s s0 s1).2.2.1, (h.1 s s0 s1).2.1]
theorem CF_sunk {M : dsMem} {x0 y w n v : Int} {P : dsP} {S : dsS} (hw : 0 ≤ w ∧ w < 3) (h : CF M x0 y P S) (hv : v = sK S w + n) : CF (dsSet M (x0 + 6) ((y + 1) * 3 + w) v) x0 y P (dsSunk S w n) := by
  obtain ⟨a, b, c, d, e, f, g⟩ := h
  refine ⟨?_, ?_, ?_, ?_, ?_, ?_, ?_⟩
  · intro t t0 t1
    exact cell_ne (a t t0 t1) (fun a j hh => ds_get_ne (by omega))
  · intro t t0 t1
    show _ = dsUpd (sK S) w (sK S w + n) t
    by_cases ht : t = w
    · subst ht; rw [dsUpd_eq]; simp (disch := omega) only [ds_gn, ds_ge]; exact hv
    · rw [dsUpd_ne ht]; simp (disch := omega) only [ds_gn, ds_ge]; exact b t t0 t1
  · rw [ds_get_ne (by omega)]; exact c
  · rw [ds_get_ne (by omega)]; exact d
  · rw [ds_get_ne (by omega)]; exact e
  · intro k k0 k1
    rw [ds_get_ne (by omega)]; exact f k k0 k1
  · intro t t0 t1
    rw [ds_get_ne (by omega), ds_get_ne (by omega)]; exact g t t0 t1
theorem fell_K (P : dsP) (w : Int) (S : dsS) : sK (dsFell P w S) = sK S := by
  unfold dsFell
  have key : ∀ i, ∀ S : dsS, sK (dsIter (fun s S => if pOn P s = w then dsEmpty S s (dySum (sL S s)) else S) i (pN P) S) = sK S := by
    refine ds_ind (pN P) ?_ ?_
    · intro i h S; rw [dsIter_end h]
    · intro i h ih S
      rw [dsIter_step h, ih]
      split <;> rfl
  rw [key]; rfl
theorem fell_WS {P : dsP} (hP : POK P) (w : Int) {S : dsS} (hS : WS P S) : WS P (dsFell P w S) := by
  unfold dsFell
  have key : ∀ i, ∀ S : dsS, WS P S → WS P (dsIter (fun s S => if pOn P s = w then dsEmpty S s (dySum (sL S s)) else S) i (pN P) S) := by
    refine ds_ind (pN P) ?_ ?_
    · intro i h S hS; rw [dsIter_end h]; exact hS
    · intro i h ih S hS
      rw [dsIter_step h]
      refine ih _ ?_
      split
      · exact WS_emp hP hS
      · exact hS
  exact key 0 _ hS
theorem sink_inv {P : dsP} (hP : POK P) {w : Int} {S : dsS} (hw : 0 ≤ w ∧ w < pW P) (hS : WS P S) : WS P (dsSink P w S) ∧ (∀ t, ¬ t = w → sK (dsSink P w S) t = sK S t) ∧ sK S w ≤ sK (dsSink P w S) w ∧ sK (dsSink P w S) w ≤ sK S w + 73 := by
  have hb := load_bd (w := w) hP hS 0 (by omega) hP.1.1 0 (by omega) (by omega)
  have hl : 0 ≤ dsLoad P S w ∧ dsLoad P S w ≤ 360 := ⟨hb.1, hb.2.1⟩
  have hg := hP.2.2.1 w hw.1 hw.2
  unfold dsSink
  split
  · rename_i hc
    have hr : 0 ≤ (dsLoad P S w - pBears P w) / 5 + 1 ∧ (dsLoad P S w - pBears P w) / 5 + 1 ≤ 73 := by omega
    have ek : ∀ t, sK (dsSunk S w ((dsLoad P S w - pBears P w) / 5 + 1)) t = dsUpd (sK S) w (sK S w + ((dsLoad P S w - pBears P w) / 5 + 1)) t := fun t => rfl
    split
    · refine ⟨hS, ?_, ?_, ?_⟩
      · intro t ht; rw [ek, dsUpd_ne ht]
      · rw [ek, dsUpd_eq]; omega
      · rw [ek, dsUpd_eq]; omega
    · refine ⟨fell_WS hP w hS, ?_, ?_, ?_⟩
      · intro t ht; rw [fell_K, ek, dsUpd_ne ht]
      · rw [fell_K, ek, dsUpd_eq]; omega
      · rw [fell_K, ek, dsUpd_eq]; omega
  · exact ⟨hS, fun _ _ => rfl, by omega, by omega⟩
/-- the walls from w on are not yet gone through -/
def KW (S : dsS) (b w : Int) : Prop := ∀ t, 0 ≤ t → t < 3 → 0 ≤ sK S t ∧ sK S t ≤ b + 73 ∧ (w ≤ t → sK S t ≤ b)
theorem sinks_ct {M0 M : dsMem} {x0 y b : Int} {P : dsP} {S : dsS} (hP : POK P) (hx : x0 = 47 ∨ x0 = 62) (hy : 0 ≤ y ∧ y < 12) (hb : 0 ≤ b ∧ b ≤ 1000000) (h : CS M0 x0 y P b M S) :
    bCt 21 [uR 5 x0, uI y, uX 0, uX 0, uX 0, uX 0] M (fun _ => []) (fun M' => CS M0 x0 y P (b + 73) M' (dsSinks P S)) := by
  intro Q hQ
  have hN := hP.1
  refine r21_0 ?_
  have h0 : CS M0 x0 y P (b + 73) M S := ⟨h.1, h.2.1, fun w w0 w1 => by have := h.2.2.1 w w0 w1; omega, h.2.2.2⟩
  refine b_forM (pW P) (fun w => [uR 5 x0, uI y, uI w, uX 0, uX 0, uX 0]) (fun w M' => 0 ≤ w ∧ ∃ S', CS M0 x0 y P (b + 73) M' S' ∧ KW S' b w ∧ dsIter (fun w S => dsSink P w S) w (pW P) S' = dsSinks P S) ?_ ?_ 0 M ⟨by omega, S, h0, fun t t0 t1 => by have := h.2.2.1 t t0 t1; omega, rfl⟩
  · rintro w M1 ⟨w0, S1, hc, hk, e⟩ w1 ih
    rw [dsIter_step w1] at e
    have hl := load_eq (w := w) hP hc.1 hc.2.1 hc.2.2.2.1
    have hww := hc.2.2.2.1.2.2 w w0 w1
    have hg := hP.2.2.1 w w0 w1
    have e4 := hc.2.2.2.1.1.2.1
    have e5 := hc.2.2.2.1.1.1
    have eu := hc.1.2.2.1
    have ek := hc.1.2.1 w w0 (by omega)
    have hkw := hk w w0 (by omega)
    have hsi := sink_inv hP ⟨w0, w1⟩ hc.2.1
    have hkn : KW (dsSink P w S1) b (w + 1) := by
      intro t t0 t1
      have := hk t t0 t1
      by_cases ht : t = w
      · subst ht; omega
      · have := hsi.2.1 t ht
        omega
    have hkb : KB (dsSink P w S1) (b + 73) := fun t t0 t1 => by have := hkn t t0 t1; omega
    have nxt : ∀ M2, CS M0 x0 y P (b + 73) M2 (dsSink P w S1) → bB 21 2 [uR 5 x0, uI y, uI (w + 1), uX 0, uX 0, uX 0] [] M2 Q := fun M2 r2 => ih M2 ⟨by omega, dsSink P w S1, r2, hkn, e⟩
    have stay : dsSink P w S1 = S1 → bB 21 2 [uR 5 x0, uI y, uI (w + 1), uX 0, uX 0, uX 0] [] M1 Q := fun e0 => nxt M1 (by rw [e0]; exact hc)
    have fd : ∀ v, Fr (DY x0 y) M1 (dsSet M1 (x0 + 6) ((y + 1) * 3 + w) v) := fun v => Fr_set Fr_refl (by unfold DY; omega)
    -- one leaf for each way that it bears
    have main : ∀ B : Int, B = pBears P w →
        (dsAnd (dsShr (M1 (x0 + 7) (y + 1)) w) 1 = 1) → ¬ dsw (v23 M1 x0 w (y + 1) - B) ≤ 0 →
        dsw (v23 M1 x0 w (y + 1) - B) = dsLoad P S1 w - pBears P w ∧ 0 < dsLoad P S1 w - pBears P w ∧ dsBit (sU S1) w ∧ dsw (M1 (x0 + 6) ((y + 1) * 3 + w) + (dsw (v23 M1 x0 w (y + 1) - B) / 5 + 1)) = sK S1 w + ((dsLoad P S1 w - pBears P w) / 5 + 1) := by
      intro B eB q3 q4
      have ed : dsw (v23 M1 x0 w (y + 1) - B) = dsLoad P S1 w - pBears P w := by rw [hl.1, eB, dsw_id (by omega) (by omega)]
      rw [ed] at q4
      refine ⟨ed, by omega, by rw [eu] at q3; exact q3, ?_⟩
      rw [ed, ek, dsw_id (by omega) (by omega)]
    have idle : ∀ B : Int, B = pBears P w → dsw (v23 M1 x0 w (y + 1) - B) ≤ 0 → dsSink P w S1 = S1 := by
      intro B eB q4
      rw [hl.1, eB, dsw_id (by omega) (by omega)] at q4
      unfold dsSink
      rw [if_neg (by omega)]
    have idle2 : ¬ dsAnd (dsShr (M1 (x0 + 7) (y + 1)) w) 1 = 1 → dsSink P w S1 = S1 := by
      intro q3
      rw [eu] at q3
      unfold dsSink
      rw [if_neg (fun q => q3 q.1)]
    have low : ∀ B v : Int, B = pBears P w → dsAnd (dsShr (M1 (x0 + 7) (y + 1)) w) 1 = 1 → ¬ dsw (v23 M1 x0 w (y + 1) - B) ≤ 0 → v = dsw (M1 (x0 + 6) ((y + 1) * 3 + w) + (dsw (v23 M1 x0 w (y + 1) - B) / 5 + 1)) → v < dsSet M1 (x0 + 6) ((y + 1) * 3 + w) v 26 w →
        bB 21 2 [uR 5 x0, uI y, uI (w + 1), uX 0, uX 0, uX 0] [] (dsSet M1 (x0 + 6) ((y + 1) * 3 + w) v) Q := by
      intro B v eB q3 q4 ev q5
      have hm := main B eB q3 q4
      rw [ds_get_ne (by omega), hww.1] at q5
      have es : dsSink P w S1 = dsSunk S1 w ((dsLoad P S1 w - pBears P w) / 5 + 1) := by
        unfold dsSink
        rw [if_pos ⟨hm.2.2.1, hm.2.1⟩, if_pos (by omega)]
      refine nxt _ (CS_mk hx hc ?_ hsi.1 hkb (fd v))
      rw [es]
      exact CF_sunk (by omega) hc.1 (by omega)
    have fall : ∀ B v : Int, B = pBears P w → dsAnd (dsShr (M1 (x0 + 7) (y + 1)) w) 1 = 1 → ¬ dsw (v23 M1 x0 w (y + 1) - B) ≤ 0 → v = dsw (M1 (x0 + 6) ((y + 1) * 3 + w) + (dsw (v23 M1 x0 w (y + 1) - B) / 5 + 1)) → ¬ v < dsSet M1 (x0 + 6) ((y + 1) * 3 + w) v 26 w →
        bCt 22 [uR 5 x0, uI w, uI y, uX 0, uX 0] (dsSet M1 (x0 + 6) ((y + 1) * 3 + w) v) (fun _ => []) (fun M' => CS M0 x0 y P (b + 73) M' (dsSink P w S1)) := by
      intro B v eB q3 q4 ev q5
      have hm := main B eB q3 q4
      rw [ds_get_ne (by omega), hww.1] at q5
      have es : dsSink P w S1 = dsFell P w (dsSunk S1 w ((dsLoad P S1 w - pBears P w) / 5 + 1)) := by
        unfold dsSink
        rw [if_pos ⟨hm.2.2.1, hm.2.1⟩, if_neg (by omega)]
      rw [es]
      refine fell_ct hP hx hy (CS_mk hx hc (CF_sunk (by omega) hc.1 (by omega)) hc.2.1 ?_ (fd v))
      intro t t0 t1
      have e9 : sK (dsSunk S1 w ((dsLoad P S1 w - pBears P w) / 5 + 1)) t = sK (dsSink P w S1) t := by rw [es, fell_K]
      rw [e9]
      exact hkb t t0 t1
    by_cases hq : w = M1 (x0 + 1) 7
    · have eB : M1 (x0 + 1) 8 = pBears P w := by rw [← hww.2, if_pos hq]
      refine r21_2 (k1 := fun q1 => by omega) (k2 := fun q1 q2 => absurd hq q2) (k3 := fun q1 q2 => absurd hq q2) (k4 := fun q1 q2 => absurd hq q2) (hA1 := fun q1 q2 => absurd hq q2) (k5 := fun q1 q2 => absurd hq q2) (R1 := fun _ => True)
        (k6 := fun q1 q2 q3 => stay (idle2 q3)) (k7 := fun q1 q2 q3 q4 => stay (idle _ eB q4)) (k8 := fun q1 q2 q3 q4 q5 => low _ _ eB q3 q4 rfl q5) (hA2 := fun q1 q2 q3 q4 q5 => fall _ _ eB q3 q4 rfl q5) (k9 := fun q1 q2 q3 q4 q5 M2 r2 => nxt M2 r2)
        (s12 := fun q1 q2 => absurd hq q2) (s25 := fun q1 q2 q3 q4 => by have hm := main _ eB q3 q4; rw [hm.1]; omega)
    · have eB : M1 25 w = pBears P w := by rw [← hww.2, if_neg hq]
      refine r21_2 (k1 := fun q1 => by omega) (k2 := fun q1 q2 q3 => stay (idle2 q3)) (k3 := fun q1 q2 q3 q4 => stay (idle _ eB q4)) (k4 := fun q1 q2 q3 q4 q5 => low _ _ eB q3 q4 rfl q5) (hA1 := fun q1 q2 q3 q4 q5 => fall _ _ eB q3 q4 rfl q5) (k5 := fun q1 q2 q3 q4 q5 M2 r2 => nxt M2 r2)
        (k6 := fun q1 q2 => absurd q2 hq) (k7 := fun q1 q2 => absurd q2 hq) (k8 := fun q1 q2 => absurd q2 hq) (hA2 := fun q1 q2 => absurd q2 hq) (k9 := fun q1 q2 => absurd q2 hq) (R2 := fun _ => True)
        (s25 := fun q1 q2 => absurd q2 hq) (s12 := fun q1 q2 q3 q4 => by have hm := main _ eB q3 q4; rw [hm.1]; omega)
  · rintro w M1 ⟨w0, S1, hc, hk, e⟩ w1
    have e4 := hc.2.2.2.1.1.2.1
    rw [dsIter_end w1] at e
    subst e
    refine r21_2 (k1 := fun q1 => hQ M1 hc) (k2 := fun q1 => by omega) (k3 := fun q1 => by omega) (k4 := fun q1 => by omega) (hA1 := fun q1 => by omega) (k5 := fun q1 => by omega) (R1 := fun _ => True)
        (k6 := fun q1 => by omega) (k7 := fun q1 => by omega) (k8 := fun q1 => by omega) (hA2 := fun q1 => by omega) (k9 := fun q1 => by omega) (R2 := fun _ => True)
