/-! the other side's stones: what is put on, what is let out -/
def RC (M : dsMem) (s : Int) (l : dsL) : Prop := M 95 s = (l.length : Int) ∧ M 96 s = dySum l ∧ dyRp M 93 94 (60 * s) l
def GC (s : Int) : Int → Int → Prop := fun a j => ((a = 93 ∨ a = 94) ∧ 60 * s ≤ j ∧ j < 60 * s + 60) ∨ ((a = 95 ∨ a = 96) ∧ j = s)
theorem RC_fr {M M' : dsMem} {s : Int} {l : dsL} (h : RC M s l) (hl : (l.length : Int) ≤ 60) (hf : ∀ a j, GC s a j → M' a j = M a j) : RC M' s l := by
  obtain ⟨h1, h2, h3⟩ := h
  refine ⟨?_, ?_, dyRp_congr ?_ h3⟩
  · rw [hf _ _ (by unfold GC; omega)]; exact h1
  · rw [hf _ _ (by unfold GC; omega)]; exact h2
  · intro j j1 j2
    exact ⟨hf _ _ (by unfold GC; omega), hf _ _ (by unfold GC; omega)⟩
theorem RC_ne {M M' : dsMem} {s : Int} {l : dsL} (h : RC M s l) (hf : ∀ a j, a = 93 ∨ a = 94 ∨ a = 95 ∨ a = 96 → M' a j = M a j) : RC M' s l := by
  obtain ⟨h1, h2, h3⟩ := h
  refine ⟨?_, ?_, dyRp_congr ?_ h3⟩
  · rw [hf _ _ (by omega)]; exact h1
  · rw [hf _ _ (by omega)]; exact h2
  · intro j j1 j2
    exact ⟨hf _ _ (by omega), hf _ _ (by omega)⟩
theorem putOn_ct {s k n : Int} {M : dsMem} {l : dsL} (hs : 0 ≤ s ∧ s < 6) (hC : RC M s l) (hw : dyWl l) (hn : 1 ≤ n) (hb : dySum l + n ≤ 60) :
    bCt 222 [uR 11 84, uI s, uI n, uI k, uX 0, uX 0] M (fun _ => []) (fun M' => RC M' s (dyLay l k n) ∧ M' 98 s = dsw (M 98 s + n) ∧ Fr (fun a j => GC s a j ∨ (a = 98 ∧ j = s)) M M') := by
  intro Q hQ
  obtain ⟨h1, h2, h3⟩ := hC
  have hlen := dySum_len hw
  rcases List.eq_nil_or_concat l with e | ⟨l0, p, e⟩
  · subst e
    simp only [List.length_nil, dySum] at h1 h2 hb
    refine r222_0 (k1 := fun q1 q2 => hQ _ ⟨⟨?_, ?_, ⟨?_, ?_⟩, trivial⟩, ?_, ?_⟩) (k2 := fun q1 q2 q3 => ?_) (k3 := fun q1 q2 q3 => ?_) (k4 := fun q1 => ?_)
    · simp only [dyLay, List.length_cons, List.length_nil]
      simp (disch := omega) only [ds_gn, ds_ge]; omega
    · simp only [dyLay, dySum]
      simp (disch := omega) only [ds_gn, ds_ge]; omega
    · simp (disch := omega) only [ds_gn, ds_ge]
    · simp (disch := omega) only [ds_gn, ds_ge]
    · simp (disch := omega) only [ds_gn, ds_ge]
    · refine Fr_set (Fr_set (Fr_set (Fr_set (Fr_set Fr_refl ?_) ?_) ?_) ?_) ?_ <;> unfold GC <;> omega
    · omega
    · omega
    · omega
  · subst e
    rw [List.concat_eq_append] at h1 h2 h3 hw hb hlen hQ
    have h4 := (dyRp_app.1 h3).1
    have h5 := (dyRp_app.1 h3).2.1
    have hp := (dyWl_head (dyWl_app.1 hw).2).1
    have hl0 := dySum_nn (dyWl_app.1 hw).1
    have hl1 := dySum_len (dyWl_app.1 hw).1
    rw [List.length_append] at h1 hlen
    rw [dySum_app] at h2 hb hlen
    simp only [List.length_cons, List.length_nil, dySum] at h1 h2 hb hlen
    have e1 : 60 * s + M 95 s - 1 = 60 * s + l0.length := by omega
    rw [dyLay_snoc] at hQ
    refine r222_0 (k1 := fun q1 q2 => ?_) (k2 := fun q1 q2 q3 => hQ _ ⟨⟨?_, ?_, ?_⟩, ?_, ?_⟩) (k3 := fun q1 q2 q3 => hQ _ ⟨⟨?_, ?_, ?_⟩, ?_, ?_⟩) (k4 := fun q1 => ?_) (s10 := fun q1 q2 q3 => by rw [e1, h5.2]; omega)
    · omega
    · rw [e1, h5.1] at q3
      rw [if_neg q3]
      simp only [List.length_append, List.length_cons, List.length_nil]
      simp (disch := omega) only [ds_gn, ds_ge]; omega
    · rw [e1, h5.1] at q3
      rw [if_neg q3, dySum_app]
      simp only [dySum]
      simp (disch := omega) only [ds_gn, ds_ge]; omega
    · rw [e1, h5.1] at q3
      rw [if_neg q3]
      refine dyRp_app.2 ⟨dyRp_congr ?_ h4, ⟨?_, ?_⟩, ⟨?_, ?_⟩, trivial⟩
      · intro j j1 j2
        refine ⟨?_, ?_⟩ <;> simp (disch := omega) only [ds_gn, ds_ge]
      · simp (disch := omega) only [ds_gn, ds_ge]
        exact h5.1
      · simp (disch := omega) only [ds_gn, ds_ge]
        exact h5.2
      · simp (disch := omega) only [ds_gn, ds_ge]
      · simp (disch := omega) only [ds_gn, ds_ge]
    · simp (disch := omega) only [ds_gn, ds_ge]
    · refine Fr_set (Fr_set (Fr_set (Fr_set (Fr_set Fr_refl ?_) ?_) ?_) ?_) ?_ <;> unfold GC <;> omega
    · rw [e1, h5.1] at q3
      rw [if_pos q3]
      simp only [List.length_append, List.length_cons, List.length_nil]
      simp (disch := omega) only [ds_gn, ds_ge]; omega
    · rw [e1, h5.1] at q3
      rw [if_pos q3, dySum_app]
      simp only [dySum]
      simp (disch := omega) only [ds_gn, ds_ge]; omega
    · rw [e1, h5.1] at q3
      rw [if_pos q3]
      refine dyRp_app.2 ⟨dyRp_congr ?_ h4, ⟨?_, ?_⟩, trivial⟩
      · intro j j1 j2
        refine ⟨?_, ?_⟩ <;> simp (disch := omega) only [ds_gn, ds_ge]
      · simp (disch := omega) only [ds_gn, ds_ge]
        exact h5.1
      · simp (disch := omega) only [ds_gn, ds_ge]; rw [e1, h5.2]
    · simp (disch := omega) only [ds_gn, ds_ge]
    · refine Fr_set (Fr_set (Fr_set Fr_refl ?_) ?_) ?_ <;> unfold GC <;> omega
    · omega
theorem putOn_0 {s k : Int} {M : dsMem} {R : dsMem → Prop} (h : R M) : bCt 222 [uR 11 84, uI s, uI 0, uI k, uX 0, uX 0] M (fun _ => []) R := by
  intro Q hQ
  exact r222_0 (k1 := fun q1 => absurd rfl q1) (k2 := fun q1 => absurd rfl q1) (k3 := fun q1 => absurd rfl q1) (k4 := fun _ => hQ M h) (s1 := fun q1 => absurd rfl q1) (s2 := fun q1 => absurd rfl q1) (s3 := fun q1 => absurd rfl q1) (s4 := fun q1 => absurd rfl q1) (s5 := fun q1 => absurd rfl q1) (s6 := fun q1 => absurd rfl q1) (s7 := fun q1 => absurd rfl q1) (s8 := fun q1 => absurd rfl q1) (s9 := fun q1 => absurd rfl q1) (s10 := fun q1 => absurd rfl q1)
theorem letOut_1 {s h x5 : Int} {Q : bQT} (hs : 0 ≤ s ∧ s < 6) (hh : h = 0 ∨ h = 1) : ∀ (l : dsL) (i left : Int) (M : dsMem), dyWl l → 0 ≤ i → i + dySum l ≤ 60 → 0 ≤ left → left ≤ dySum l →
    dyRp M 93 94 (60 * s + i) l →
    (∀ M' : dsMem, (∀ k, 1 ≤ k → k ≤ 5 → M' 99 (6 * s + k) = if h = 0 then M 99 (6 * s + k) else dsw (M 99 (6 * s + k) + dyDrs l left k)) →
      dyRp M' 93 94 (60 * s + (i + (l.length - (dyDr l left).length))) (dyDr l left) →
      Fr (fun a j => (a = 99 ∧ h = 1 ∧ 6 * s < j ∧ j < 6 * s + 6) ∨ (a = 94 ∧ 60 * s + i ≤ j ∧ j < 60 * s + 60)) M M' →
      bB 223 112 [uR 11 84, uI s, uX 0, uX 0, uX 0, uI x5, uI (i + (l.length - (dyDr l left).length)), uI (i + (l.length - (dyDr l left).length)), uX 0] [] M' Q) →
    (∀ k, 1 ≤ k → k ≤ 5 → dsw (M 99 (6 * s + k)) = M 99 (6 * s + k)) →
    bB 223 19 [uR 11 84, uI s, uX 0, uI h, uI left, uI x5, uI i, uX 0, uX 0] [] M Q
  | [], i, left, M, hw, hi, hb, hl0, hl1, hr, K, hz => by
    have e0 : left = 0 := by simp only [dySum] at hl1; omega
    subst e0
    have K' := K M ?_ trivial Fr_refl
    · simp only [dyDr, List.length_nil] at K'
      rw [show i + (((0 : Nat) : Int) - ((0 : Nat) : Int)) = i by omega] at K'
      exact r223_19 (k1 := fun _ => K') (k2 := fun q1 => by omega) (k3 := fun q1 => by omega) (k4 := fun q1 => by omega) (k5 := fun q1 => by omega)
    · intro k k0 k1
      split
      · rfl
      · rw [dyDrs, Int.add_zero, hz k k0 k1]
  | p :: l, i, left, M, hw, hi, hb, hl0, hl1, hr, K, hz => by
    have hp := dyWl_head hw
    have hln := dySum_len (dyWl_tail hw)
    have hnn := dySum_nn (dyWl_tail hw)
    have hb' : i + (p.2 + dySum l) ≤ 60 := hb
    have hl1' : left ≤ p.2 + dySum l := hl1
    have e2 := hr.1.1
    have e3 := hr.1.2
    by_cases hl : left ≤ 0
    · have e0 : left = 0 := by omega
      subst e0
      have K' := K M ?_ (by rw [dyDr_0 hl, show i + (((p :: l).length : Int) - ((p :: l).length : Int)) = i by omega]; exact hr) Fr_refl
      · rw [dyDr_0 hl, show i + (((p :: l).length : Int) - ((p :: l).length : Int)) = i by omega] at K'
        exact r223_19 (k1 := fun _ => K') (k2 := fun q1 => by omega) (k3 := fun q1 => by omega) (k4 := fun q1 => by omega) (k5 := fun q1 => by omega)
      · intro k k0 k1
        split
        · rfl
        · rw [dyDrs, if_pos hl, Int.add_zero, hz k k0 k1]
    · have el : ((p :: l).length : Int) = l.length + 1 := by simp only [List.length_cons]; omega
      by_cases hm : p.2 ≤ left
      · have ed : dyDr (p :: l) left = dyDr l (left - p.2) := by rw [dyDr, if_neg hl, if_pos hm]
        have ep : (if M 94 (60 * s + i) < left then M 94 (60 * s + i) else left) = p.2 := by
          rw [e3]; split <;> omega
        have main : ∀ M1 : dsMem, (∀ k, 1 ≤ k → k ≤ 5 → M1 99 (6 * s + k) = if h = 0 then M 99 (6 * s + k) else dsw (M 99 (6 * s + k) + (if p.1 = k then p.2 else 0))) →
            Fr (fun a j => (a = 99 ∧ h = 1 ∧ 6 * s < j ∧ j < 6 * s + 6) ∨ (a = 94 ∧ j = 60 * s + i)) M M1 →
            bB 223 19 [uR 11 84, uI s, uX 0, uI h, uI (left - p.2), uI x5, uI (i + 1), uX 0, uX 0] [] M1 Q := by
          intro M1 g1 g2
          refine letOut_1 hs hh l (i + 1) (left - p.2) M1 (dyWl_tail hw) (by omega) (by omega) (by omega) (by omega) ?_ ?_ ?_
          · rw [show 60 * s + (i + 1) = 60 * s + i + 1 by omega]
            refine dyRp_congr ?_ hr.2
            intro j j1 j2
            exact ⟨g2 _ _ (by omega), g2 _ _ (by omega)⟩
          · intro M' t1 t2 t3
            have K' := K M' ?_ ?_ ?_
            · rw [ed, el] at K'
              rw [show i + 1 + ((l.length : Int) - ((dyDr l (left - p.2)).length : Int)) = i + ((l.length : Int) + 1 - ((dyDr l (left - p.2)).length : Int)) by omega]
              exact K'
            · intro k k0 k1
              rw [t1 k k0 k1, g1 k k0 k1]
              split
              · rfl
              · rw [dyDrs, if_neg hl, if_pos hm, dyw_add]
                congr 1; omega
            · rw [ed, el]
              rw [show i + ((l.length : Int) + 1 - ((dyDr l (left - p.2)).length : Int)) = i + 1 + ((l.length : Int) - ((dyDr l (left - p.2)).length : Int)) by omega]
              exact t2
            · refine Fr_trans (Fr_mono ?_ g2) (Fr_mono ?_ t3)
              · intro a j q; omega
              · intro a j q; omega
          · intro k k0 k1
            rw [g1 k k0 k1]
            split
            · exact hz k k0 k1
            · exact dsw_dsw _
        refine r223_19 (k1 := fun q1 => by omega) (k2 := fun q1 q2 q3 => ?_) (k3 := fun q1 q2 q3 => ?_) (k4 := fun q1 q2 q3 => ?_) (k5 := fun q1 q2 q3 => ?_) (s3 := fun q1 q2 => by rw [ep]; omega) (s4 := fun q1 q2 => by rw [ep]; omega) (s6 := fun q1 q2 => by rw [e2]; omega) (s7 := fun q1 q2 => by rw [ep]; omega) (s8 := fun q1 q2 => by rw [ep]; omega)
        · rw [ep] at q3; omega
        · rw [ep]
          refine main _ ?_ (Fr_set Fr_refl (by omega))
          intro k k0 k1
          rw [if_pos q2, ds_get_ne (by omega)]
        · rw [ep] at q3; omega
        · rw [ep, e2]
          refine main _ ?_ (Fr_set (Fr_set Fr_refl (by omega)) (by omega))
          intro k k0 k1
          rw [if_neg q2, ds_get_ne (by omega)]
          by_cases hk : p.1 = k
          · rw [if_pos hk, ← hk]; simp (disch := omega) only [ds_gn, ds_ge]
          · rw [if_neg hk, Int.add_zero, hz k k0 k1]; simp (disch := omega) only [ds_gn, ds_ge]
      · have ed : dyDr (p :: l) left = (p.1, p.2 - left) :: l := by rw [dyDr, if_neg hl, if_neg hm]
        have el2 : (((p.1, p.2 - left) :: l).length : Int) = l.length + 1 := by simp only [List.length_cons]; omega
        have ep : (if M 94 (60 * s + i) < left then M 94 (60 * s + i) else left) = left := by
          rw [e3]; split <;> omega
        have main : ∀ M1 : dsMem, (∀ k, 1 ≤ k → k ≤ 5 → M1 99 (6 * s + k) = if h = 0 then M 99 (6 * s + k) else dsw (M 99 (6 * s + k) + (if p.1 = k then left else 0))) → M1 94 (60 * s + i) = p.2 - left →
            Fr (fun a j => (a = 99 ∧ h = 1 ∧ 6 * s < j ∧ j < 6 * s + 6) ∨ (a = 94 ∧ j = 60 * s + i)) M M1 →
            bB 223 19 [uR 11 84, uI s, uX 0, uI h, uI (left - left), uI x5, uI i, uX 0, uX 0] [] M1 Q := by
          intro M1 g1 g0 g2
          have K' := K M1 ?_ ?_ ?_
          · rw [ed, el, el2, show i + ((l.length : Int) + 1 - ((l.length : Int) + 1)) = i by omega] at K'
            exact r223_19 (k1 := fun _ => K') (k2 := fun q1 => by omega) (k3 := fun q1 => by omega) (k4 := fun q1 => by omega) (k5 := fun q1 => by omega)
          · intro k k0 k1
            rw [g1 k k0 k1]
            split
            · rfl
            · rw [dyDrs, if_neg hl, if_neg hm]
              have ez : dyDrs l (left - p.2) k = 0 := by
                cases l with
                | nil => rfl
                | cons q l => rw [dyDrs, if_pos (by omega)]
              rw [ez, Int.add_zero]
          · rw [ed, el, el2, show i + ((l.length : Int) + 1 - ((l.length : Int) + 1)) = i by omega]
            refine ⟨⟨?_, g0⟩, dyRp_congr ?_ hr.2⟩
            · rw [g2 _ _ (by omega)]; exact e2
            · intro j j1 j2
              exact ⟨g2 _ _ (by omega), g2 _ _ (by omega)⟩
          · refine Fr_mono ?_ g2
            intro a j q; omega
        refine r223_19 (k1 := fun q1 => by omega) (k2 := fun q1 q2 q3 => ?_) (k3 := fun q1 q2 q3 => ?_) (k4 := fun q1 q2 q3 => ?_) (k5 := fun q1 q2 q3 => ?_) (s3 := fun q1 q2 => by rw [ep]; omega) (s4 := fun q1 q2 => by rw [ep]; omega) (s6 := fun q1 q2 => by rw [e2]; omega) (s7 := fun q1 q2 => by rw [ep]; omega) (s8 := fun q1 q2 => by rw [ep]; omega)
        · rw [ep]
          refine main _ ?_ (by simp (disch := omega) only [ds_gn, ds_ge]; rw [e3]) (Fr_set Fr_refl (by omega))
          intro k k0 k1
          rw [if_pos q2, ds_get_ne (by omega)]
        · rw [ep] at q3; omega
        · rw [ep, e2]
          refine main _ ?_ (by simp (disch := omega) only [ds_gn, ds_ge]; rw [e3]) (Fr_set (Fr_set Fr_refl (by omega)) (by omega))
          intro k k0 k1
          rw [if_neg q2, ds_get_ne (by omega)]
          by_cases hk : p.1 = k
          · rw [if_pos hk, ← hk]; simp (disch := omega) only [ds_gn, ds_ge]
          · rw [if_neg hk, Int.add_zero, hz k k0 k1]; simp (disch := omega) only [ds_gn, ds_ge]
        · rw [ep] at q3; omega
theorem letOut_2 {s x5 e : Int} {Q : bQT} {l : dsL} (hs : 0 ≤ s ∧ s < 6) (he : 0 < e) (hl : e + l.length ≤ 60) :
    ∀ (r : dsL) (i : Int) (M : dsMem), e ≤ i → i + r.length = e + l.length → M 95 s = e + l.length → -2147483648 ≤ M 96 s - x5 ∧ M 96 s - x5 < 2147483648 → dyRp M 93 94 (60 * s + i) r →
    (∀ M' : dsMem, dyRp M' 93 94 (60 * s + i - e) r → Fr (fun a j => (a = 93 ∨ a = 94) ∧ 60 * s + i - e ≤ j ∧ j < 60 * s + 60 - e) M M' → Q [uI x5] (dsSet (dsSet M' 95 s (l.length : Int)) 96 s (M' 96 s - x5))) →
    bB 223 112 [uR 11 84, uI s, uX 0, uX 0, uX 0, uI x5, uI e, uI i, uX 0] [] M Q
  | [], i, M, h0, h1, h4, h6, hr, K => by
    simp only [List.length_nil] at h1
    have K' := K M trivial Fr_refl
    refine r223_112 (k1 := fun q1 => ?_) (k2 := fun q1 q2 => by omega) (k3 := fun q1 q2 => by omega)
    rw [h4, show e + (l.length : Int) - e = l.length by omega]; exact K'
  | p :: r, i, M, h0, h1, h4, h6, hr, K => by
    simp only [List.length_cons] at h1
    refine r223_112 (k1 := fun q1 => by omega) (k2 := fun q1 q2 => by omega) (k3 := fun q1 q2 => ?_)
    refine letOut_2 hs he hl r (i + 1) _ (by omega) (by omega) ?_ ?_ ?_ ?_
    · simp (disch := omega) only [ds_gn, ds_ge]
      exact h4
    · simp (disch := omega) only [ds_gn, ds_ge]
      exact h6
    · rw [show 60 * s + (i + 1) = 60 * s + i + 1 by omega]
      refine dyRp_congr ?_ hr.2
      intro j j1 j2
      refine ⟨?_, ?_⟩ <;> simp (disch := omega) only [ds_gn, ds_ge]
    · intro M' g1 g2
      refine K M' ⟨⟨?_, ?_⟩, ?_⟩ ?_
      · rw [g2 _ _ (by omega)]
        simp (disch := omega) only [ds_gn, ds_ge]
        exact hr.1.1
      · rw [g2 _ _ (by omega)]
        simp (disch := omega) only [ds_gn, ds_ge]
        exact hr.1.2
      · rw [show 60 * s + i - e + 1 = 60 * s + (i + 1) - e by omega]
        exact g1
      · refine Fr_trans (Fr_set (Fr_set Fr_refl ?_) ?_) (Fr_mono ?_ g2)
        · omega
        · omega
        · intro a j h; omega
def GD (s h : Int) : Int → Int → Prop := fun a j => GC s a j ∨ (a = 99 ∧ h = 1 ∧ 6 * s < j ∧ j < 6 * s + 6)
theorem letOut_ct {s n h : Int} {M : dsMem} {l : dsL} (hs : 0 ≤ s ∧ s < 6) (hh : h = 0 ∨ h = 1) (hC : RC M s l) (hw : dyWl l) (hb : dySum l ≤ 60) (hn : 0 ≤ n) (hz : ∀ k, 1 ≤ k → k ≤ 5 → dsw (M 99 (6 * s + k)) = M 99 (6 * s + k)) :
    bCt 223 [uR 11 84, uI s, uI n, uI h, uX 0, uX 0, uX 0, uX 0, uX 0] M (fun _ => [uI (dyAm l n)])
      (fun M' => RC M' s (dyDr l n) ∧ (∀ k, 1 ≤ k → k ≤ 5 → M' 99 (6 * s + k) = if h = 0 then M 99 (6 * s + k) else dsw (M 99 (6 * s + k) + dyDrs l n k)) ∧ Fr (GD s h) M M') := by
  intro Q hQ
  obtain ⟨h1, h2, h3⟩ := hC
  have hlen := dySum_len hw
  have hnn := dySum_nn hw
  have ham := dyAm_nn (n := n) hw
  have ea : (if M 96 s < n then M 96 s else n) = dyAm l n := by
    rw [h2]; unfold dyAm; (repeat' split) <;> omega
  have ed : dyDr l (dyAm l n) = dyDr l n := by
    unfold dyAm
    split
    · rw [dyDr_0 (by omega), dyDr_0 (by omega)]
    · split
      · exact (dyDr_am hw (by omega)).symm
      · rfl
  have es : ∀ k, dyDrs l (dyAm l n) k = dyDrs l n k := by
    intro k
    unfold dyAm
    split
    · rename_i hq
      have z : ∀ m, m ≤ 0 → dyDrs l m k = 0 := by
        intro m hm
        cases l with
        | nil => rfl
        | cons p l => rw [dyDrs, if_pos hm]
      rw [z _ (by omega), z _ hq]
    · split
      · exact (dyDrs_am hw (by omega)).symm
      · rfl
  have hdl := @dyDr_len l n
  have hds := dyDr_sum (n := n) hw
  refine r223_0 (k1 := ?_)
  rw [ea]
  refine letOut_1 hs hh l 0 (dyAm l n) M hw (by omega) (by omega) ham.1 ham.2 ?_ ?_ hz
  · rw [show 60 * s + 0 = 60 * s by omega]; exact h3
  · intro M2 t1 t2 t3
    rw [ed] at t2 ⊢
    rw [show (0 : Int) + ((l.length : Int) - ((dyDr l n).length : Int)) = (l.length : Int) - ((dyDr l n).length : Int) by omega] at t2 ⊢
    have t4 : M2 95 s = M 95 s := t3 _ _ (by omega)
    have t5 : M2 96 s = M 96 s := t3 _ _ (by omega)
    have fin : ∀ M3 : dsMem, dyRp M3 93 94 (60 * s) (dyDr l n) → M3 96 s = M 96 s → (∀ k, 1 ≤ k → k ≤ 5 → M3 99 (6 * s + k) = M2 99 (6 * s + k)) → Fr (GD s h) M M3 → Q [uI (dyAm l n)] (dsSet (dsSet M3 95 s ((dyDr l n).length : Int)) 96 s (M3 96 s - dyAm l n)) := by
      intro M3 v1 v2 v3 v4
      refine hQ _ ⟨⟨?_, ?_, ?_⟩, ?_, ?_⟩
      · simp (disch := omega) only [ds_gn, ds_ge]
      · simp (disch := omega) only [ds_gn, ds_ge]; rw [v2, hds]; omega
      · refine dyRp_congr ?_ v1
        intro j _ _
        refine ⟨?_, ?_⟩ <;> simp (disch := omega) only [ds_gn, ds_ge]
      · intro k k0 k1
        simp (disch := omega) only [ds_gn, ds_ge]
        rw [v3 k k0 k1, t1 k k0 k1, es]
      · refine Fr_set (Fr_set v4 ?_) ?_ <;> unfold GD GC <;> omega
    have f2 : Fr (GD s h) M M2 := by
      refine Fr_mono ?_ t3
      intro a j q; unfold GD GC; omega
    by_cases he : (l.length : Int) - ((dyDr l n).length : Int) ≤ 0
    · rw [show 60 * s + ((l.length : Int) - ((dyDr l n).length : Int)) = 60 * s by omega] at t2
      have F := fin M2 t2 t5 (fun k _ _ => rfl) f2
      have e9 : M2 95 s - ((l.length : Int) - ((dyDr l n).length : Int)) = ((dyDr l n).length : Int) := by omega
      refine r223_112 (k1 := fun q1 => ?_) (k2 := fun q1 q2 => ?_) (k3 := fun q1 q2 => by omega)
      · rw [e9]; exact F
      · rw [e9]; exact F
    · refine letOut_2 (l := dyDr l n) hs (by omega) (by omega) (dyDr l n) _ M2 (by omega) (by omega) (by omega) (by omega) t2 ?_
      intro M3 w1 w2
      refine fin M3 ?_ ?_ ?_ (Fr_trans f2 (Fr_mono ?_ w2))
      · rw [show 60 * s + ((l.length : Int) - ((dyDr l n).length : Int)) - ((l.length : Int) - ((dyDr l n).length : Int)) = 60 * s by omega] at w1
        exact w1
      · rw [w2 _ _ (by omega)]; exact t5
      · intro k k0 k6
        rw [w2 _ _ (by omega)]
      · intro a j q; unfold GD GC; omega
