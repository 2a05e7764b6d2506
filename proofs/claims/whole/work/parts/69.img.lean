/-! images: World.takeOver; back on both sides; the reference's image -/
theorem cpy_gn {M : dsMem} {a sp b dp n c i : Int} (h : c ≠ b ∨ i < dp ∨ dp + n ≤ i) : dsCpy M a sp b dp n c i = M c i := by
  unfold dsCpy; rw [if_neg (by omega)]
theorem cpy_ge {M : dsMem} {a sp b dp n c i : Int} (h : c = b ∧ dp ≤ i ∧ i < dp + n) : dsCpy M a sp b dp n c i = M a (sp + (i - dp)) := by
  unfold dsCpy; rw [if_pos h]
theorem evpa_ct {M : dsMem} {x0 x1 x2 x3 x4 n : Int} (hn : M x0 0 = n) (h : 0 ≤ n ∧ n < 8) : bCt 4 [uR 1 x0, uI x1, uI x2, uI x3, uI x4] M (fun _ => []) (fun M' => M' x0 0 = n + 1 ∧ M' (x0 + 1) n = x1 ∧ M' (x0 + 2) n = x2 ∧ M' (x0 + 3) n = x3 ∧ M' (x0 + 4) n = x4 ∧ Fr (fun a j => (a = x0 ∧ j = 0) ∨ (x0 + 1 ≤ a ∧ a ≤ x0 + 4 ∧ j = n)) M M') := by
  intro Q hQ
  refine r4a_0 (s1 := fun _ => by omega) (k1 := fun _ => ?_) (k2 := fun q => by omega)
  rw [hn]
  refine hQ _ ⟨by rw [ds_ge (by omega)], ?_, ?_, ?_, ?_, ?_⟩
  · rw [ds_gn (by omega), ds_gn (by omega), ds_gn (by omega), ds_gn (by omega), ds_ge (by omega)]
  · rw [ds_gn (by omega), ds_gn (by omega), ds_gn (by omega), ds_ge (by omega)]
  · rw [ds_gn (by omega), ds_gn (by omega), ds_ge (by omega)]
  · rw [ds_gn (by omega), ds_ge (by omega)]
  · exact Fr_set (Fr_set (Fr_set (Fr_set (Fr_set Fr_refl (by omega)) (by omega)) (by omega)) (by omega)) (by omega)
theorem evta_ct {M : dsMem} {x0 x1 : Int} {E : wEv} (hE : CEv M x1 E) (hn : 0 ≤ evN E ∧ evN E ≤ 8) (hd : x0 + 4 < x1 ∨ x1 + 4 < x0) : bCt 5 [uR 1 x0, uR 1 x1, uX 0] M (fun _ => []) (fun M' => CEv M' x0 E ∧ Fr (fun a _ => x0 ≤ a ∧ a ≤ x0 + 4) M M') := by
  intro Q hQ
  refine r5a_0 (k1 := ?_)
  refine b_loop (fun (x : Int) => [uR 1 x0, uR 1 x1, uI x]) (fun x M' => (0 ≤ x ∧ x ≤ evN E) ∧ M' x0 0 = x ∧ (∀ i, 0 ≤ i → i < x → M' (x0 + 1) i = evK E i ∧ M' (x0 + 2) i = evO E i ∧ M' (x0 + 3) i = evM E i ∧ M' (x0 + 4) i = evY E i) ∧ Fr (fun a _ => x0 ≤ a ∧ a ≤ x0 + 4) M M') (fun x => (evN E - x).toNat) ?_ 0 _ ⟨by omega, by rw [ds_ge (by omega)], fun i i0 i1 => by omega, Fr_set Fr_refl (by omega)⟩
  rintro x M1 ⟨hx, h0, hi, hF⟩ ih
  have e0 : M1 x1 0 = evN E := by rw [hF _ _ (by omega)]; exact hE.1
  have eE : ¬ M1 x1 0 ≤ x → M1 (x1 + 1) x = evK E x ∧ M1 (x1 + 2) x = evO E x ∧ M1 (x1 + 3) x = evM E x ∧ M1 (x1 + 4) x = evY E x := fun q => by
    rw [hF (x1 + 1) _ (by omega), hF (x1 + 2) _ (by omega), hF (x1 + 3) _ (by omega), hF (x1 + 4) _ (by omega)]; exact hE.2 x (by omega) (by omega)
  refine r5a_7 (k1 := fun q => hQ M1 ⟨⟨by omega, fun i i0 i1 => hi i i0 (by omega)⟩, hF⟩) (s1 := fun q => by omega) (hA1 := fun q => evpa_ct h0 (by omega)) (s2 := fun q M2 r => by omega) (k2 := fun q M2 r => ?_)
  have e := eE q
  refine ih (x + 1) M2 (by show (evN E - (x + 1)).toNat < (evN E - x).toNat; omega) ⟨by omega, r.1, fun i i0 i1 => ?_, Fr_trans hF (Fr_mono (fun a j w => by omega) r.2.2.2.2.2)⟩
  by_cases hix : i = x
  · subst hix
    exact ⟨r.2.1.trans e.1, r.2.2.1.trans e.2.1, r.2.2.2.1.trans e.2.2.1, r.2.2.2.2.1.trans e.2.2.2⟩
  · have := hi i i0 (by omega)
    rw [r.2.2.2.2.2 (x0 + 1) _ (by omega), r.2.2.2.2.2 (x0 + 2) _ (by omega), r.2.2.2.2.2 (x0 + 3) _ (by omega), r.2.2.2.2.2 (x0 + 4) _ (by omega)]; exact this
theorem evpb_ct {M : dsMem} {x0 x1 x2 x3 x4 n : Int} (hn : M x0 0 = n) (h : 0 ≤ n ∧ n < 6) : bCt 4 [uR 2 x0, uI x1, uI x2, uI x3, uI x4] M (fun _ => []) (fun M' => M' x0 0 = n + 1 ∧ M' (x0 + 1) n = x1 ∧ M' (x0 + 2) n = x2 ∧ M' (x0 + 3) n = x3 ∧ M' (x0 + 4) n = x4 ∧ Fr (fun a j => (a = x0 ∧ j = 0) ∨ (x0 + 1 ≤ a ∧ a ≤ x0 + 4 ∧ j = n)) M M') := by
  intro Q hQ
  refine r4b_0 (s1 := fun _ => by omega) (k1 := fun _ => ?_) (k2 := fun q => by omega)
  rw [hn]
  refine hQ _ ⟨by rw [ds_ge (by omega)], ?_, ?_, ?_, ?_, ?_⟩
  · rw [ds_gn (by omega), ds_gn (by omega), ds_gn (by omega), ds_gn (by omega), ds_ge (by omega)]
  · rw [ds_gn (by omega), ds_gn (by omega), ds_gn (by omega), ds_ge (by omega)]
  · rw [ds_gn (by omega), ds_gn (by omega), ds_ge (by omega)]
  · rw [ds_gn (by omega), ds_ge (by omega)]
  · exact Fr_set (Fr_set (Fr_set (Fr_set (Fr_set Fr_refl (by omega)) (by omega)) (by omega)) (by omega)) (by omega)
theorem evtb_ct {M : dsMem} {x0 x1 : Int} {E : wEv} (hE : CEv M x1 E) (hn : 0 ≤ evN E ∧ evN E ≤ 6) (hd : x0 + 4 < x1 ∨ x1 + 4 < x0) : bCt 5 [uR 2 x0, uR 2 x1, uX 0] M (fun _ => []) (fun M' => CEv M' x0 E ∧ Fr (fun a _ => x0 ≤ a ∧ a ≤ x0 + 4) M M') := by
  intro Q hQ
  refine r5b_0 (k1 := ?_)
  refine b_loop (fun (x : Int) => [uR 2 x0, uR 2 x1, uI x]) (fun x M' => (0 ≤ x ∧ x ≤ evN E) ∧ M' x0 0 = x ∧ (∀ i, 0 ≤ i → i < x → M' (x0 + 1) i = evK E i ∧ M' (x0 + 2) i = evO E i ∧ M' (x0 + 3) i = evM E i ∧ M' (x0 + 4) i = evY E i) ∧ Fr (fun a _ => x0 ≤ a ∧ a ≤ x0 + 4) M M') (fun x => (evN E - x).toNat) ?_ 0 _ ⟨by omega, by rw [ds_ge (by omega)], fun i i0 i1 => by omega, Fr_set Fr_refl (by omega)⟩
  rintro x M1 ⟨hx, h0, hi, hF⟩ ih
  have e0 : M1 x1 0 = evN E := by rw [hF _ _ (by omega)]; exact hE.1
  have eE : ¬ M1 x1 0 ≤ x → M1 (x1 + 1) x = evK E x ∧ M1 (x1 + 2) x = evO E x ∧ M1 (x1 + 3) x = evM E x ∧ M1 (x1 + 4) x = evY E x := fun q => by
    rw [hF (x1 + 1) _ (by omega), hF (x1 + 2) _ (by omega), hF (x1 + 3) _ (by omega), hF (x1 + 4) _ (by omega)]; exact hE.2 x (by omega) (by omega)
  refine r5b_7 (k1 := fun q => hQ M1 ⟨⟨by omega, fun i i0 i1 => hi i i0 (by omega)⟩, hF⟩) (s1 := fun q => by omega) (hA1 := fun q => evpb_ct h0 (by omega)) (s2 := fun q M2 r => by omega) (k2 := fun q M2 r => ?_)
  have e := eE q
  refine ih (x + 1) M2 (by show (evN E - (x + 1)).toNat < (evN E - x).toNat; omega) ⟨by omega, r.1, fun i i0 i1 => ?_, Fr_trans hF (Fr_mono (fun a j w => by omega) r.2.2.2.2.2)⟩
  by_cases hix : i = x
  · subst hix
    exact ⟨r.2.1.trans e.1, r.2.2.1.trans e.2.1, r.2.2.2.1.trans e.2.2.1, r.2.2.2.2.1.trans e.2.2.2⟩
  · have := hi i i0 (by omega)
    rw [r.2.2.2.2.2 (x0 + 1) _ (by omega), r.2.2.2.2.2 (x0 + 2) _ (by omega), r.2.2.2.2.2 (x0 + 3) _ (by omega), r.2.2.2.2.2 (x0 + 4) _ (by omega)]; exact this
theorem evpc_ct {M : dsMem} {x0 x1 x2 x3 x4 n : Int} (hn : M x0 0 = n) (h : 0 ≤ n ∧ n < 30) : bCt 4 [uR 3 x0, uI x1, uI x2, uI x3, uI x4] M (fun _ => []) (fun M' => M' x0 0 = n + 1 ∧ M' (x0 + 1) n = x1 ∧ M' (x0 + 2) n = x2 ∧ M' (x0 + 3) n = x3 ∧ M' (x0 + 4) n = x4 ∧ Fr (fun a j => (a = x0 ∧ j = 0) ∨ (x0 + 1 ≤ a ∧ a ≤ x0 + 4 ∧ j = n)) M M') := by
  intro Q hQ
  refine r4c_0 (s1 := fun _ => by omega) (k1 := fun _ => ?_) (k2 := fun q => by omega)
  rw [hn]
  refine hQ _ ⟨by rw [ds_ge (by omega)], ?_, ?_, ?_, ?_, ?_⟩
  · rw [ds_gn (by omega), ds_gn (by omega), ds_gn (by omega), ds_gn (by omega), ds_ge (by omega)]
  · rw [ds_gn (by omega), ds_gn (by omega), ds_gn (by omega), ds_ge (by omega)]
  · rw [ds_gn (by omega), ds_gn (by omega), ds_ge (by omega)]
  · rw [ds_gn (by omega), ds_ge (by omega)]
  · exact Fr_set (Fr_set (Fr_set (Fr_set (Fr_set Fr_refl (by omega)) (by omega)) (by omega)) (by omega)) (by omega)
theorem evtc_ct {M : dsMem} {x0 x1 : Int} {E : wEv} (hE : CEv M x1 E) (hn : 0 ≤ evN E ∧ evN E ≤ 30) (hd : x0 + 4 < x1 ∨ x1 + 4 < x0) : bCt 5 [uR 3 x0, uR 3 x1, uX 0] M (fun _ => []) (fun M' => CEv M' x0 E ∧ Fr (fun a _ => x0 ≤ a ∧ a ≤ x0 + 4) M M') := by
  intro Q hQ
  refine r5c_0 (k1 := ?_)
  refine b_loop (fun (x : Int) => [uR 3 x0, uR 3 x1, uI x]) (fun x M' => (0 ≤ x ∧ x ≤ evN E) ∧ M' x0 0 = x ∧ (∀ i, 0 ≤ i → i < x → M' (x0 + 1) i = evK E i ∧ M' (x0 + 2) i = evO E i ∧ M' (x0 + 3) i = evM E i ∧ M' (x0 + 4) i = evY E i) ∧ Fr (fun a _ => x0 ≤ a ∧ a ≤ x0 + 4) M M') (fun x => (evN E - x).toNat) ?_ 0 _ ⟨by omega, by rw [ds_ge (by omega)], fun i i0 i1 => by omega, Fr_set Fr_refl (by omega)⟩
  rintro x M1 ⟨hx, h0, hi, hF⟩ ih
  have e0 : M1 x1 0 = evN E := by rw [hF _ _ (by omega)]; exact hE.1
  have eE : ¬ M1 x1 0 ≤ x → M1 (x1 + 1) x = evK E x ∧ M1 (x1 + 2) x = evO E x ∧ M1 (x1 + 3) x = evM E x ∧ M1 (x1 + 4) x = evY E x := fun q => by
    rw [hF (x1 + 1) _ (by omega), hF (x1 + 2) _ (by omega), hF (x1 + 3) _ (by omega), hF (x1 + 4) _ (by omega)]; exact hE.2 x (by omega) (by omega)
  refine r5c_7 (k1 := fun q => hQ M1 ⟨⟨by omega, fun i i0 i1 => hi i i0 (by omega)⟩, hF⟩) (s1 := fun q => by omega) (hA1 := fun q => evpc_ct h0 (by omega)) (s2 := fun q M2 r => by omega) (k2 := fun q M2 r => ?_)
  have e := eE q
  refine ih (x + 1) M2 (by show (evN E - (x + 1)).toNat < (evN E - x).toNat; omega) ⟨by omega, r.1, fun i i0 i1 => ?_, Fr_trans hF (Fr_mono (fun a j w => by omega) r.2.2.2.2.2)⟩
  by_cases hix : i = x
  · subst hix
    exact ⟨r.2.1.trans e.1, r.2.2.1.trans e.2.1, r.2.2.2.1.trans e.2.2.1, r.2.2.2.2.1.trans e.2.2.2⟩
  · have := hi i i0 (by omega)
    rw [r.2.2.2.2.2 (x0 + 1) _ (by omega), r.2.2.2.2.2 (x0 + 2) _ (by omega), r.2.2.2.2.2 (x0 + 3) _ (by omega), r.2.2.2.2.2 (x0 + 4) _ (by omega)]; exact this
theorem CEv_e {M M' : dsMem} {a : Int} {E : wEv} (h : CEv M a E) (e : ∀ b j, a ≤ b → b ≤ a + 4 → M' b j = M b j) : CEv M' a E := by
  refine ⟨by rw [e _ _ (by omega) (by omega)]; exact h.1, fun i i0 i1 => ?_⟩
  rw [e (a + 1) _ (by omega) (by omega), e (a + 2) _ (by omega) (by omega), e (a + 3) _ (by omega) (by omega), e (a + 4) _ (by omega) (by omega)]; exact h.2 i i0 i1
theorem CWd_e {M M' : dsMem} {a : Int} {W : dsW} (h : CWd M a W) (e : ∀ b j, a ≤ b → b ≤ a + 20 → M' b j = M b j) : CWd M' a W := by
  obtain ⟨h1, h2, h3, h4, h5, h6⟩ := h
  refine ⟨?_, fun w w0 w1 => ?_, fun s s0 s1 => ?_, CEv_e h4 (fun b j q1 q2 => e b j (by omega) (by omega)), CEv_e h5 (fun b j q1 q2 => e b j (by omega) (by omega)), CEv_e h6 (fun b j q1 q2 => e b j (by omega) (by omega))⟩
  · rw [e a 0 (by omega) (by omega), e a 1 (by omega) (by omega), e a 2 (by omega) (by omega), e a 3 (by omega) (by omega), e a 4 (by omega) (by omega), e a 5 (by omega) (by omega)]; exact h1
  · rw [e (a + 1) _ (by omega) (by omega), e (a + 2) _ (by omega) (by omega)]; exact h2 w w0 w1
  · rw [e (a + 3) _ (by omega) (by omega), e (a + 4) _ (by omega) (by omega), e (a + 5) _ (by omega) (by omega)]; exact h3 s s0 s1
/-- fields and rows taken over, the events not yet -/
def tkB (M : dsMem) (x0 x1 : Int) (B : dsMem) : Prop :=
  (∀ k, 0 ≤ k → k < 6 → B x0 k = M x1 k) ∧ (∀ w, 0 ≤ w → w < 3 → B (x0 + 1) w = M (x1 + 1) w ∧ B (x0 + 2) w = M (x1 + 2) w) ∧
  (∀ s, 0 ≤ s → s < 6 → B (x0 + 3) s = M (x1 + 3) s ∧ B (x0 + 4) s = M (x1 + 4) s ∧ B (x0 + 5) s = M (x1 + 5) s) ∧ Fr (fun a _ => x0 ≤ a ∧ a ≤ x0 + 5) M B
theorem take_ct {M : dsMem} {x0 x1 : Int} {W : dsW} (hW : WOK W) (h : CWd M x1 W) (hd : x0 + 20 < x1 ∨ x1 + 20 < x0) : bCt 62 [uR 4 x0, uR 4 x1] M (fun _ => []) (fun M' => CWd M' x0 W ∧ Fr (fun a _ => x0 ≤ a ∧ a ≤ x0 + 20) M M') := by
  intro Q hQ
  have hw := hW.1
  obtain ⟨h1, h2, h3, h4, h5, h6⟩ := h
  refine r62_0 (R1 := fun M1 => ∃ B, tkB M x0 x1 B ∧ CEv M1 (x0 + 6) (wR W) ∧ Fr (fun a _ => x0 + 6 ≤ a ∧ a ≤ x0 + 10) B M1) (R2 := fun M1 M2 => CEv M2 (x0 + 11) (wT W) ∧ Fr (fun a _ => x0 + 11 ≤ a ∧ a ≤ x0 + 15) M1 M2) (R3 := fun M1 M2 M3 => CEv M3 (x0 + 16) (wA W) ∧ Fr (fun a _ => x0 + 16 ≤ a ∧ a ≤ x0 + 20) M2 M3) (hA1 := ?_) (hA2 := fun M1 r1 => ?_) (hA3 := fun M1 r1 M2 r2 => ?_) (k1 := fun M1 r1 M2 r2 M3 r3 => ?_)
  · intro Q1 hQ1
    refine evta_ct (E := wR W) (CEv_e h4 (fun b j q1 q2 => ?_)) (by omega) (by omega) Q1 (fun M1 r => hQ1 M1 ⟨_, ⟨fun k k0 k1 => ?_, fun w w0 w1 => ⟨?_, ?_⟩, fun s s0 s1 => ⟨?_, ?_, ?_⟩, fun a j q => ?_⟩, r.1, Fr_mono (fun a j w => by omega) r.2⟩)
    · iterate 5 rw [cpy_gn (by omega)]
      iterate 6 rw [ds_gn (by omega)]
    · iterate 5 rw [cpy_gn (by omega)]
      have hk : k = 0 ∨ k = 1 ∨ k = 2 ∨ k = 3 ∨ k = 4 ∨ k = 5 := by omega
      rcases hk with e | e | e | e | e | e
      · subst e; iterate 5 rw [ds_gn (by omega)]
        rw [ds_ge (by omega)]
      · subst e; iterate 4 rw [ds_gn (by omega)]
        rw [ds_ge (by omega), ds_gn (by omega)]
      · subst e; iterate 3 rw [ds_gn (by omega)]
        rw [ds_ge (by omega)]; iterate 2 rw [ds_gn (by omega)]
      · subst e; iterate 2 rw [ds_gn (by omega)]
        rw [ds_ge (by omega)]; iterate 3 rw [ds_gn (by omega)]
      · subst e; rw [ds_gn (by omega), ds_ge (by omega)]; iterate 4 rw [ds_gn (by omega)]
      · subst e; rw [ds_ge (by omega)]; iterate 5 rw [ds_gn (by omega)]
    · iterate 4 rw [cpy_gn (by omega)]
      rw [cpy_ge (by omega), show (0 : Int) + (w - 0) = w by omega]
      iterate 6 rw [ds_gn (by omega)]
    · iterate 3 rw [cpy_gn (by omega)]
      rw [cpy_ge (by omega), show (0 : Int) + (w - 0) = w by omega, cpy_gn (by omega)]
      iterate 6 rw [ds_gn (by omega)]
    · iterate 2 rw [cpy_gn (by omega)]
      rw [cpy_ge (by omega), show (0 : Int) + (s - 0) = s by omega]
      iterate 2 rw [cpy_gn (by omega)]
      iterate 6 rw [ds_gn (by omega)]
    · rw [cpy_gn (by omega), cpy_ge (by omega), show (0 : Int) + (s - 0) = s by omega]
      iterate 3 rw [cpy_gn (by omega)]
      iterate 6 rw [ds_gn (by omega)]
    · rw [cpy_ge (by omega), show (0 : Int) + (s - 0) = s by omega]
      iterate 4 rw [cpy_gn (by omega)]
      iterate 6 rw [ds_gn (by omega)]
    · iterate 5 rw [cpy_gn (by omega)]
      iterate 6 rw [ds_gn (by omega)]
  · obtain ⟨B, hB, hE, hF⟩ := r1
    intro Q1 hQ1
    refine evtb_ct (E := wT W) (CEv_e h5 (fun b j q1 q2 => ?_)) (by omega) (by omega) Q1 (fun M2 r => hQ1 M2 ⟨r.1, Fr_mono (fun a j w => by omega) r.2⟩)
    rw [hF _ _ (by omega)]; exact hB.2.2.2 _ _ (by omega)
  · obtain ⟨B, hB, hE, hF⟩ := r1
    intro Q1 hQ1
    refine evtc_ct (E := wA W) (CEv_e h6 (fun b j q1 q2 => ?_)) (by omega) (by omega) Q1 (fun M2 r => hQ1 M2 ⟨r.1, Fr_mono (fun a j w => by omega) r.2⟩)
    rw [r2.2 _ _ (by omega), hF _ _ (by omega)]; exact hB.2.2.2 _ _ (by omega)
  · obtain ⟨B, hB, hE, hF⟩ := r1
    have eB : ∀ a j, a ≤ x0 + 5 ∨ x0 + 20 < a → M3 a j = B a j := fun a j q => by rw [r3.2 _ _ (by omega), r2.2 _ _ (by omega)]; exact hF _ _ (by omega)
    refine hQ M3 ⟨⟨?_, fun w w0 w1 => ?_, fun s s0 s1 => ?_, ?_, ?_, r3.1⟩, fun a j q => ?_⟩
    · iterate 6 rw [eB _ _ (by omega)]
      rw [hB.1 0 (by omega) (by omega), hB.1 1 (by omega) (by omega), hB.1 2 (by omega) (by omega), hB.1 3 (by omega) (by omega), hB.1 4 (by omega) (by omega), hB.1 5 (by omega) (by omega)]; exact h1
    · rw [eB _ _ (by omega), eB _ _ (by omega), (hB.2.1 w w0 (by omega)).1, (hB.2.1 w w0 (by omega)).2]; exact h2 w w0 w1
    · have := hB.2.2.1 s s0 (by omega)
      rw [eB _ _ (by omega), eB _ _ (by omega), eB _ _ (by omega), this.1, this.2.1, this.2.2]; exact h3 s s0 s1
    · exact CEv_e hE (fun b j q1 q2 => by rw [r3.2 _ _ (by omega)]; exact r2.2 _ _ (by omega))
    · exact CEv_e r2.1 (fun b j q1 q2 => r3.2 _ _ (by omega))
    · rw [eB _ _ (by omega)]; exact hB.2.2.2 _ _ (by omega)
theorem taken_ct {M : dsMem} {x0 x1 : Int} {W : dsW} (hW : WOK W) (h : CWd M x1 W) (hp : 0 ≤ x1) (hd : x0 + 20 < x1 ∨ x1 + 20 < x0) : bCt 62 [uR 4 x0, uR 12 x1] M (fun _ => []) (fun M' => CWd M' x0 W ∧ Fr (fun a _ => x0 ≤ a ∧ a ≤ x0 + 20) M M') := by
  intro Q hQ
  have hw := hW.1
  obtain ⟨h1, h2, h3, h4, h5, h6⟩ := h
  refine r62n_0 (s1 := hp) (R1 := fun M1 => ∃ B, tkB M x0 x1 B ∧ CEv M1 (x0 + 6) (wR W) ∧ Fr (fun a _ => x0 + 6 ≤ a ∧ a ≤ x0 + 10) B M1) (R2 := fun M1 M2 => CEv M2 (x0 + 11) (wT W) ∧ Fr (fun a _ => x0 + 11 ≤ a ∧ a ≤ x0 + 15) M1 M2) (R3 := fun M1 M2 M3 => CEv M3 (x0 + 16) (wA W) ∧ Fr (fun a _ => x0 + 16 ≤ a ∧ a ≤ x0 + 20) M2 M3) (hA1 := ?_) (hA2 := fun M1 r1 => ?_) (hA3 := fun M1 r1 M2 r2 => ?_) (k1 := fun M1 r1 M2 r2 M3 r3 => ?_)
  · intro Q1 hQ1
    refine evta_ct (E := wR W) (CEv_e h4 (fun b j q1 q2 => ?_)) (by omega) (by omega) Q1 (fun M1 r => hQ1 M1 ⟨_, ⟨fun k k0 k1 => ?_, fun w w0 w1 => ⟨?_, ?_⟩, fun s s0 s1 => ⟨?_, ?_, ?_⟩, fun a j q => ?_⟩, r.1, Fr_mono (fun a j w => by omega) r.2⟩)
    · iterate 5 rw [cpy_gn (by omega)]
      iterate 6 rw [ds_gn (by omega)]
    · iterate 5 rw [cpy_gn (by omega)]
      have hk : k = 0 ∨ k = 1 ∨ k = 2 ∨ k = 3 ∨ k = 4 ∨ k = 5 := by omega
      rcases hk with e | e | e | e | e | e
      · subst e; iterate 5 rw [ds_gn (by omega)]
        rw [ds_ge (by omega)]
      · subst e; iterate 4 rw [ds_gn (by omega)]
        rw [ds_ge (by omega), ds_gn (by omega)]
      · subst e; iterate 3 rw [ds_gn (by omega)]
        rw [ds_ge (by omega)]; iterate 2 rw [ds_gn (by omega)]
      · subst e; iterate 2 rw [ds_gn (by omega)]
        rw [ds_ge (by omega)]; iterate 3 rw [ds_gn (by omega)]
      · subst e; rw [ds_gn (by omega), ds_ge (by omega)]; iterate 4 rw [ds_gn (by omega)]
      · subst e; rw [ds_ge (by omega)]; iterate 5 rw [ds_gn (by omega)]
    · iterate 4 rw [cpy_gn (by omega)]
      rw [cpy_ge (by omega), show (0 : Int) + (w - 0) = w by omega]
      iterate 6 rw [ds_gn (by omega)]
    · iterate 3 rw [cpy_gn (by omega)]
      rw [cpy_ge (by omega), show (0 : Int) + (w - 0) = w by omega, cpy_gn (by omega)]
      iterate 6 rw [ds_gn (by omega)]
    · iterate 2 rw [cpy_gn (by omega)]
      rw [cpy_ge (by omega), show (0 : Int) + (s - 0) = s by omega]
      iterate 2 rw [cpy_gn (by omega)]
      iterate 6 rw [ds_gn (by omega)]
    · rw [cpy_gn (by omega), cpy_ge (by omega), show (0 : Int) + (s - 0) = s by omega]
      iterate 3 rw [cpy_gn (by omega)]
      iterate 6 rw [ds_gn (by omega)]
    · rw [cpy_ge (by omega), show (0 : Int) + (s - 0) = s by omega]
      iterate 4 rw [cpy_gn (by omega)]
      iterate 6 rw [ds_gn (by omega)]
    · iterate 5 rw [cpy_gn (by omega)]
      iterate 6 rw [ds_gn (by omega)]
  · obtain ⟨B, hB, hE, hF⟩ := r1
    intro Q1 hQ1
    refine evtb_ct (E := wT W) (CEv_e h5 (fun b j q1 q2 => ?_)) (by omega) (by omega) Q1 (fun M2 r => hQ1 M2 ⟨r.1, Fr_mono (fun a j w => by omega) r.2⟩)
    rw [hF _ _ (by omega)]; exact hB.2.2.2 _ _ (by omega)
  · obtain ⟨B, hB, hE, hF⟩ := r1
    intro Q1 hQ1
    refine evtc_ct (E := wA W) (CEv_e h6 (fun b j q1 q2 => ?_)) (by omega) (by omega) Q1 (fun M2 r => hQ1 M2 ⟨r.1, Fr_mono (fun a j w => by omega) r.2⟩)
    rw [r2.2 _ _ (by omega), hF _ _ (by omega)]; exact hB.2.2.2 _ _ (by omega)
  · obtain ⟨B, hB, hE, hF⟩ := r1
    have eB : ∀ a j, a ≤ x0 + 5 ∨ x0 + 20 < a → M3 a j = B a j := fun a j q => by rw [r3.2 _ _ (by omega), r2.2 _ _ (by omega)]; exact hF _ _ (by omega)
    refine hQ M3 ⟨⟨?_, fun w w0 w1 => ?_, fun s s0 s1 => ?_, ?_, ?_, r3.1⟩, fun a j q => ?_⟩
    · iterate 6 rw [eB _ _ (by omega)]
      rw [hB.1 0 (by omega) (by omega), hB.1 1 (by omega) (by omega), hB.1 2 (by omega) (by omega), hB.1 3 (by omega) (by omega), hB.1 4 (by omega) (by omega), hB.1 5 (by omega) (by omega)]; exact h1
    · rw [eB _ _ (by omega), eB _ _ (by omega), (hB.2.1 w w0 (by omega)).1, (hB.2.1 w w0 (by omega)).2]; exact h2 w w0 w1
    · have := hB.2.2.1 s s0 (by omega)
      rw [eB _ _ (by omega), eB _ _ (by omega), eB _ _ (by omega), this.1, this.2.1, this.2.2]; exact h3 s s0 s1
    · exact CEv_e hE (fun b j q1 q2 => by rw [r3.2 _ _ (by omega)]; exact r2.2 _ _ (by omega))
    · exact CEv_e r2.1 (fun b j q1 q2 => r3.2 _ _ (by omega))
    · rw [eB _ _ (by omega)]; exact hB.2.2.2 _ _ (by omega)
abbrev imT := Int → Int × dsW
def CIm (M : dsMem) (S : slT) (I : imT) : Prop :=
  (∀ k, 0 ≤ k → k < 3 → ((I k).1 = 0 ∧ M 45 k = -1) ∨ ((I k).1 = 1 ∧ WOK (I k).2 ∧ 115 ≤ M 45 k ∧ CWd M (M 45 k) (I k).2)) ∧
  (∀ k l, 0 ≤ k → k < 3 → 0 ≤ l → l < 3 → k ≠ l → (I k).1 = 1 → (I l).1 = 1 → M 45 k + 20 < M 45 l ∨ M 45 l + 20 < M 45 k) ∧
  (∀ k t, 0 ≤ k → k < 3 → 0 ≤ t → t < 4 → (I k).1 = 1 → 0 ≤ slN S t → M 45 k + 20 < M 46 t ∨ M 46 t + 1 < M 45 k)
def RIm (M : dsMem) (I : imT) : Prop := ∀ k, 0 ≤ k → k < 3 → ((I k).1 = 0 ∧ M 87 k = 0) ∨ ((I k).1 = 1 ∧ M 87 k = 1 ∧ WOK (I k).2 ∧ RWd (fun j => M 86 (105 * k + j)) (I k).2)
theorem RWd_c {f g : Int → Int} {W : dsW} (hW : WOK W) (h : RWd f W) (e : ∀ j, 0 ≤ j → j < 105 → g j = f j) : RWd g W := by
  obtain ⟨a, b, c, d, f', i⟩ := h
  have hw := hW.1
  refine ⟨?_, fun w w0 w1 => ?_, fun s s0 s1 => ?_, fun j j0 j1 => ?_, fun j j0 j1 => ?_, fun j j0 j1 => ?_⟩
  · rw [e 0 (by omega) (by omega), e 1 (by omega) (by omega), e 2 (by omega) (by omega), e 3 (by omega) (by omega), e 4 (by omega) (by omega), e 5 (by omega) (by omega), e 6 (by omega) (by omega), e 7 (by omega) (by omega), e 8 (by omega) (by omega)]; exact a
  · rw [e _ (by omega) (by omega), e _ (by omega) (by omega)]; exact b w w0 w1
  · rw [e _ (by omega) (by omega), e _ (by omega) (by omega), e _ (by omega) (by omega)]; exact c s s0 s1
  · rw [e _ (by omega) (by omega), e _ (by omega) (by omega), e _ (by omega) (by omega)]; exact d j j0 j1
  · rw [e _ (by omega) (by omega), e _ (by omega) (by omega), e _ (by omega) (by omega)]; exact f' j j0 j1
  · rw [e _ (by omega) (by omega)]; exact i j j0 j1
theorem CIm_e {M M' : dsMem} {S : slT} {I : imT} (h : CIm M S I) (e : ∀ a j, a = 45 ∨ a = 46 ∨ 115 ≤ a → M' a j = M a j) : CIm M' S I := by
  refine ⟨fun k k0 k1 => ?_, fun k l k0 k1 l0 l1 q i1 i2 => ?_, fun k t k0 k1 t0 t1 i1 i2 => ?_⟩
  · rw [e 45 k (by omega)]
    rcases h.1 k k0 k1 with a | a
    · exact Or.inl a
    · exact Or.inr ⟨a.1, a.2.1, a.2.2.1, CWd_e a.2.2.2 (fun b j q1 q2 => e b j (by omega))⟩
  · rw [e 45 k (by omega), e 45 l (by omega)]; exact h.2.1 k l k0 k1 l0 l1 q i1 i2
  · rw [e 45 k (by omega), e 46 t (by omega)]; exact h.2.2 k t k0 k1 t0 t1 i1 i2
theorem RIm_e {M M' : dsMem} {I : imT} (h : RIm M I) (e : ∀ a j, a = 86 ∨ a = 87 → M' a j = M a j) : RIm M' I := by
  intro k k0 k1
  rw [e 87 k (by omega)]
  rcases h k k0 k1 with a | a
  · exact Or.inl a
  · exact Or.inr ⟨a.1, a.2.1, a.2.2.1, RWd_c a.2.2.1 a.2.2.2 (fun j _ _ => e _ _ (by omega))⟩
def aBk (I : imT) (k : Int) : Int := if 0 ≤ k ∧ k ≤ 2 then (if (I k).1 = 0 then -6 else 0) else -2
def nBk (W : dsW) (I : imT) (k : Int) : dsW := if (0 ≤ k ∧ k ≤ 2) ∧ ¬ (I k).1 = 0 then (I k).2 else W
theorem cq140 {M : dsMem} {W : dsW} {S : slT} {I : imT} {k : Int} (h : CI M W) (hi : CIm M S I) : bCt 140 [uR 10 0, uI k, uX 0] M (fun _ => [uI (aBk I k)]) (fun M' => CI M' (nBk W I k) ∧ Fr CQ4 M M') := by
  intro Q hQ
  have hat : (0 ≤ k ∧ k ≤ 2) → ¬ M 45 k < 0 → (I k).1 = 1 ∧ WOK (I k).2 ∧ 115 ≤ M 45 k ∧ CWd M (M 45 k) (I k).2 := fun q q2 => by
    rcases hi.1 k q.1 (by omega) with a | a
    · omega
    · exact a
  refine r140_0 (s1 := fun q => by omega) (hA1 := fun q q2 => taken_ct (hat q q2).2.1 (hat q q2).2.2.2 (by omega) (by have := (hat q q2).2.2.1; omega)) (hA2 := fun q q2 M1 r1 => forget_ct) (k1 := fun q q2 M1 r1 M2 r2 => ?_) (k2 := fun q q2 => ?_) (k3 := fun q => ?_)
  · have a := hat q q2
    have eN : nBk W I k = (I k).2 := by unfold nBk; rw [if_pos ⟨q, by omega⟩]
    refine q_eq ?_ (hQ M2 ⟨?_, ?_⟩)
    · unfold aBk; rw [if_pos q, if_neg (by omega)]
    · rw [eN]
      exact CI_fg a.2.1 (C24_iff.1 r1.1) (Dfl_e h.2.2.1 (fun j => r1.2 _ _ (by omega))) r2
    · subst r2
      exact Fr_trans (Fr_mono (fun a j w => Or.inr (by omega)) r1.2) (CQ_4 Fr_fg)
  · have e : (I k).1 = 0 := by
      rcases hi.1 k q.1 (by omega) with a | a
      · exact a.1
      · omega
    refine q_eq ?_ (hQ M ⟨by unfold nBk; rw [if_neg (fun u => u.2 e)]; exact h, Fr_refl⟩)
    unfold aBk; rw [if_pos q, if_pos e]
  · refine q_eq ?_ (hQ M ⟨by unfold nBk; rw [if_neg (fun u => q u.1)]; exact h, Fr_refl⟩)
    unfold aBk; rw [if_neg q]
theorem rq181 {M : dsMem} {W : dsW} {I : imT} {k : Int} (h : RI0 M W) (hi : RIm M I) : bCt 181 [uR 11 84, uI k, uX 0] M (fun _ => [uI (aBk I k)]) (fun M' => RI0 M' (nBk W I k) ∧ Fr RQ4 M M') := by
  intro Q hQ
  refine r181_0 (s1 := fun q => by omega) (k1 := fun q q2 => ?_) (k2 := fun q q2 => ?_) (k3 := fun q => ?_)
  · have a : (I k).1 = 1 ∧ WOK (I k).2 ∧ RWd (fun j => M 86 (105 * k + j)) (I k).2 := by
      rcases hi k q.1 (by omega) with a | a
      · exact absurd a.2 q2
      · exact ⟨a.1, a.2.2⟩
    refine b_loop (fun (x : Int) => [uR 11 84, uI k, uI x]) (fun x M' => (0 ≤ x ∧ x ≤ 105) ∧ (∀ j, 0 ≤ j → j < x → M' 85 j = M 86 (105 * k + j)) ∧ Fr (fun a _ => a = 85) M M') (fun x => (105 - x).toNat) ?_ 0 M ⟨by omega, fun j j0 j1 => by omega, Fr_refl⟩
    rintro x M1 ⟨hx, hj, hF⟩ ih
    refine r181_29 (k1 := fun p => ?_) (s1 := fun p => by omega) (s2 := fun p => by omega) (s3 := fun p => by omega) (k2 := fun p => ?_)
    · have eN : nBk W I k = (I k).2 := by unfold nBk; rw [if_pos ⟨q, by omega⟩]
      refine q_eq ?_ (hQ M1 ⟨?_, Fr_mono (fun a j w => Or.inr w) hF⟩)
      · unfold aBk; rw [if_pos q, if_neg (by omega)]
      · rw [eN]; exact ⟨a.2.1, RWd_c a.2.1 a.2.2 (fun j j0 j1 => hj j j0 (by omega))⟩
    · refine ih (x + 1) _ (by show (105 - (x + 1)).toNat < (105 - x).toNat; omega) ⟨by omega, fun j j0 j1 => ?_, Fr_set hF rfl⟩
      by_cases e : j = x
      · subst e; rw [ds_ge ⟨rfl, rfl⟩]; exact hF _ _ (by omega)
      · rw [ds_gn (by omega)]; exact hj j j0 (by omega)
  · have e : (I k).1 = 0 := by
      rcases hi k q.1 (by omega) with a | a
      · exact a.1
      · omega
    refine q_eq ?_ (hQ M ⟨by unfold nBk; rw [if_neg (fun u => u.2 e)]; exact h, Fr_refl⟩)
    unfold aBk; rw [if_pos q, if_pos e]
  · refine q_eq ?_ (hQ M ⟨by unfold nBk; rw [if_neg (fun u => q u.1)]; exact h, Fr_refl⟩)
    unfold aBk; rw [if_neg q]
def aIm (k : Int) : Int := if 0 ≤ k ∧ k ≤ 2 then 0 else -2
def nIm (W : dsW) (I : imT) (k : Int) : imT := if 0 ≤ k ∧ k ≤ 2 then dsUpd I k (1, W) else I
def RIQ : Int → Int → Prop := fun a _ => a = 86 ∨ a = 87
theorem rq180 {M : dsMem} {W : dsW} {I : imT} {k : Int} (h : RI0 M W) (hi : RIm M I) : bCt 180 [uR 11 84, uI k, uX 0] M (fun _ => [uI (aIm k)]) (fun M' => RIm M' (nIm W I k) ∧ Fr RIQ M M') := by
  intro Q hQ
  refine r180_0 (k1 := fun q => ?_) (k2 := fun q => ?_)
  · refine b_loop (fun (x : Int) => [uR 11 84, uI k, uI x]) (fun x M' => (0 ≤ x ∧ x ≤ 105) ∧ (∀ j, 0 ≤ j → j < x → M' 86 (105 * k + j) = M 85 j) ∧ Fr (fun a j => a = 86 ∧ 105 * k ≤ j ∧ j < 105 * k + 105) M M') (fun x => (105 - x).toNat) ?_ 0 M ⟨by omega, fun j j0 j1 => by omega, Fr_refl⟩
    rintro x M1 ⟨hx, hj, hF⟩ ih
    refine r180_17 (s1 := fun p => by omega) (k1 := fun p => ?_) (s2 := fun p => by omega) (s3 := fun p => by omega) (s4 := fun p => by omega) (k2 := fun p => ?_)
    · refine q_eq ?_ (hQ _ ⟨?_, Fr_set (Fr_mono (fun a j w => Or.inl w.1) hF) (Or.inr rfl)⟩)
      · unfold aIm; rw [if_pos q]
      · unfold nIm; rw [if_pos q]
        intro l l0 l1
        by_cases e : l = k
        · subst e
          rw [upd_e]
          refine Or.inr ⟨rfl, by rw [ds_ge ⟨rfl, rfl⟩], h.1, RWd_c h.1 h.2 (fun j j0 j1 => ?_)⟩
          rw [ds_gn (by omega)]; exact hj j j0 (by omega)
        · rw [upd_n _ _ e, ds_gn (by omega), hF _ _ (by omega)]
          rcases hi l l0 l1 with a | a
          · exact Or.inl a
          · refine Or.inr ⟨a.1, a.2.1, a.2.2.1, RWd_c a.2.2.1 a.2.2.2 (fun j j0 j1 => ?_)⟩
            rw [ds_gn (by omega)]; exact hF _ _ (by omega)
    · refine ih (x + 1) _ (by show (105 - (x + 1)).toNat < (105 - x).toNat; omega) ⟨by omega, fun j j0 j1 => ?_, Fr_set hF (by omega)⟩
      by_cases e : j = x
      · subst e; rw [ds_ge ⟨rfl, rfl⟩]; exact hF _ _ (by omega)
      · rw [ds_gn (by omega)]; exact hj j j0 (by omega)
  · refine q_eq ?_ (hQ M ⟨by unfold nIm; rw [if_neg q]; exact hi, Fr_refl⟩)
    unfold aIm; rw [if_neg q]
