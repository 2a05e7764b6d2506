/-! the flow's cells: what is laid on, what is let out -/
theorem b_loop {α : Type} {m pc : Nat} {Q : bQT} (ls : α → List dsU) (I : α → dsMem → Prop) (μ : α → Nat)
    (hs : ∀ a M, I a M → (∀ a' M', μ a' < μ a → I a' M' → bB m pc (ls a') [] M' Q) → bB m pc (ls a) [] M Q) : ∀ a M, I a M → bB m pc (ls a) [] M Q := by
  have key : ∀ (k : Nat) a M, μ a = k → I a M → bB m pc (ls a) [] M Q := by
    intro k
    induction k using Nat.strongRecOn with
    | ind k ih =>
      intro a M e h
      refine hs a M h (fun a' M' hlt h' => ih (μ a') (by omega) a' M' rfl h')
  intro a M h
  exact key _ a M rfl h
/-- a counted loop that writes -/
theorem b_forM {m pc : Nat} {Q : bQT} (n : Int) (ls : Int → List dsU) (I : Int → dsMem → Prop)
    (hs : ∀ i M, I i M → i < n → (∀ M', I (i + 1) M' → bB m pc (ls (i + 1)) [] M' Q) → bB m pc (ls i) [] M Q)
    (he : ∀ i M, I i M → ¬ i < n → bB m pc (ls i) [] M Q) (i : Int) (M : dsMem) (h : I i M) : bB m pc (ls i) [] M Q := by
  refine b_loop ls I (fun i => (n - i).toNat) ?_ i M h
  intro a M hI ih
  by_cases hn : a < n
  · exact hs a M hI hn (fun M' h' => ih (a + 1) M' (by show (n - (a + 1)).toNat < (n - a).toNat; omega) h')
  · exact he a M hI hn
def dyCell (M : dsMem) (x0 c : Int) (l : dsL) : Prop := M (x0 + 4) c = (l.length : Int) ∧ M (x0 + 5) c = dySum l ∧ dyRp M (x0 + 2) (x0 + 3) (c * 60) l
def FC (x0 c : Int) : Int → Int → Prop := fun a j => ((a = x0 + 2 ∨ a = x0 + 3) ∧ c * 60 ≤ j ∧ j < c * 60 + 60) ∨ ((a = x0 + 4 ∨ a = x0 + 5) ∧ j = c)
theorem lay_ct {x0 c k n : Int} {M : dsMem} {l : dsL} (hc : 0 ≤ c ∧ c < 78) (hC : dyCell M x0 c l) (hw : dyWl l) (hn : 1 ≤ n) (hb : dySum l + n ≤ 60) :
    bCt 17 [uR 5 x0, uI c, uI k, uI n, uX 0] M (fun _ => []) (fun M' => dyCell M' x0 c (dyLay l k n) ∧ Fr (FC x0 c) M M') := by
  intro Q hQ
  obtain ⟨h1, h2, h3⟩ := hC
  have hlen := dySum_len hw
  rcases List.eq_nil_or_concat l with e | ⟨l0, p, e⟩
  · subst e
    simp only [List.length_nil, dySum] at h1 h2 hb
    refine r17_0 (k1 := fun q1 q2 => ?_) (k2 := fun q1 q2 => hQ _ ⟨⟨?_, ?_, ⟨?_, ?_⟩, trivial⟩, ?_⟩) (k3 := fun q1 q2 q3 => ?_) (k4 := fun q1 q2 q3 => ?_) (k5 := fun q1 q2 => ?_)
    · omega
    · simp only [dyLay, List.length_cons, List.length_nil]
      simp (disch := omega) only [ds_gn, ds_ge]; omega
    · simp only [dyLay, dySum]
      simp (disch := omega) only [ds_gn, ds_ge]; omega
    · simp (disch := omega) only [ds_gn, ds_ge]
    · simp (disch := omega) only [ds_gn, ds_ge]
    · refine Fr_set (Fr_set (Fr_set (Fr_set Fr_refl ?_) ?_) ?_) ?_ <;> unfold FC <;> omega
    · omega
    · omega
    · omega
  · subst e
    rw [List.concat_eq_append] at h1 h2 h3 hw hb hlen hQ
    have h4 := (dyRp_app.1 h3).1
    have h5 := (dyRp_app.1 h3).2.1
    have hp := (dyWl_head (dyWl_app.1 hw).2).1
    have hl0 := dySum_nn (dyWl_app.1 hw).1
    have hl1 := dySum_len (dyWl_app.1 hw).1
    rw [List.length_append] at h1 hlen
    rw [dySum_app] at h2 hb hlen
    simp only [List.length_cons, List.length_nil, dySum] at h1 h2 hb hlen
    have e1 : c * 60 + M (x0 + 4) c - 1 = c * 60 + l0.length := by omega
    rw [dyLay_snoc] at hQ
    refine r17_0 (k1 := fun q1 q2 => ?_) (k2 := fun q1 q2 => ?_) (k3 := fun q1 q2 q3 => ?_) (k4 := fun q1 q2 q3 => hQ _ ⟨⟨?_, ?_, ?_⟩, ?_⟩) (k5 := fun q1 q2 => hQ _ ⟨⟨?_, ?_, ?_⟩, ?_⟩) (s12 := fun q1 q2 => by rw [e1, h5.2]; omega)
    · omega
    · omega
    · omega
    · rw [e1, h5.1] at q2
      rw [if_neg q2]
      simp only [List.length_append, List.length_cons, List.length_nil]
      simp (disch := omega) only [ds_gn, ds_ge]; omega
    · rw [e1, h5.1] at q2
      rw [if_neg q2, dySum_app]
      simp only [dySum]
      simp (disch := omega) only [ds_gn, ds_ge]; omega
    · rw [e1, h5.1] at q2
      rw [if_neg q2]
      refine dyRp_app.2 ⟨dyRp_congr ?_ h4, ⟨?_, ?_⟩, ⟨?_, ?_⟩, trivial⟩
      · intro j j1 j2
        refine ⟨?_, ?_⟩ <;> simp (disch := omega) only [ds_gn, ds_ge]
      · simp (disch := omega) only [ds_gn, ds_ge]
        exact h5.1
      · simp (disch := omega) only [ds_gn, ds_ge]
        exact h5.2
      · simp (disch := omega) only [ds_gn, ds_ge]
      · simp (disch := omega) only [ds_gn, ds_ge]
    · refine Fr_set (Fr_set (Fr_set (Fr_set Fr_refl ?_) ?_) ?_) ?_ <;> unfold FC <;> omega
    · rw [e1, h5.1] at q2
      rw [if_pos q2]
      simp only [List.length_append, List.length_cons, List.length_nil]
      simp (disch := omega) only [ds_gn, ds_ge]; omega
    · rw [e1, h5.1] at q2
      rw [if_pos q2, dySum_app]
      simp only [dySum]
      simp (disch := omega) only [ds_gn, ds_ge]; omega
    · rw [e1, h5.1] at q2
      rw [if_pos q2]
      refine dyRp_app.2 ⟨dyRp_congr ?_ h4, ⟨?_, ?_⟩, trivial⟩
      · intro j j1 j2
        refine ⟨?_, ?_⟩ <;> simp (disch := omega) only [ds_gn, ds_ge]
      · simp (disch := omega) only [ds_gn, ds_ge]
        exact h5.1
      · simp (disch := omega) only [ds_gn, ds_ge]; rw [e1, h5.2]
    · refine Fr_set (Fr_set Fr_refl ?_) ?_ <;> unfold FC <;> omega
theorem drain_0 {x0 c n x3 x4 x5 x6 : Int} {M : dsMem} {Q : bQT} (hc : 0 ≤ c ∧ c < 78) (h : x4 ≤ 0) (K : bB 18 156 [uR 5 x0, uI c, uI n, uI x3, uI x4, uI x5, uI x5, uX 0] [] M Q) :
    bB 18 34 [uR 5 x0, uI c, uI n, uI x3, uI x4, uI x5, uI x6, uX 0] [] M Q := by
  refine r18_34 (k1 := fun _ => K) (k2 := fun _ _ => K) (k3 := fun q1 q2 => ?_) (k4 := fun q1 q2 => ?_) (k5 := fun q1 q2 => ?_) (k6 := fun q1 q2 => ?_) <;> omega
/-- the layers gone through from the lowest -/
theorem drain_1 {x0 c n : Int} {Q : bQT} (hc : 0 ≤ c ∧ c < 78) : ∀ (l : dsL) (i rest : Int) (M : dsMem), dyWl l → 0 ≤ i → M (x0 + 4) c = i + l.length → i + dySum l ≤ 60 →
    dyRp M (x0 + 2) (x0 + 3) (c * 60 + i) l → M (x0 + 5) c = dySum l → 0 ≤ rest ∧ rest < 2147483648 → (∀ k, 0 ≤ k → k < 6 → 0 ≤ M (x0 + 13) k ∧ M (x0 + 13) k + dySum l ≤ 60) →
    (∀ M' : dsMem, M' (x0 + 4) c = M (x0 + 4) c → M' (x0 + 5) c = dySum (dyDr l rest) → (∀ k, 0 ≤ k → k < 6 → M' (x0 + 13) k = M (x0 + 13) k + dyDrs l rest k) →
      dyRp M' (x0 + 2) (x0 + 3) (c * 60 + (i + (l.length - (dyDr l rest).length))) (dyDr l rest) →
      Fr (fun a j => a = x0 + 13 ∨ (a = x0 + 5 ∧ j = c) ∨ (a = x0 + 3 ∧ c * 60 + i ≤ j ∧ j < c * 60 + 60)) M M' →
      bB 18 156 [uR 5 x0, uI c, uI n, uI (c * 60), uI (rest - dyAm l rest), uI (i + (l.length - (dyDr l rest).length)), uI (i + (l.length - (dyDr l rest).length)), uX 0] [] M' Q) →
    bB 18 34 [uR 5 x0, uI c, uI n, uI (c * 60), uI rest, uI i, uI i, uX 0] [] M Q
  | [], i, rest, M, hw, hi, h1, hs, h3, h2, hr, hl, K => by
    simp only [List.length_nil] at h1
    have K' := K M rfl h2 (fun k _ _ => by simp [dyDrs]) trivial Fr_refl
    have e : rest - dyAm [] rest = rest := by rw [dyAm_nil]; omega
    rw [e] at K'
    simp only [dyDr, List.length_nil] at K'
    rw [show i + (((0 : Nat) : Int) - ((0 : Nat) : Int)) = i by omega] at K'
    refine r18_34 (k1 := fun _ => K') (k2 := fun q1 q2 => ?_) (k3 := fun q1 => ?_) (k4 := fun q1 => ?_) (k5 := fun q1 => ?_) (k6 := fun q1 => ?_) <;> omega
  | p :: l, i, rest, M, hw, hi, h1, hs, h3, h2, hr, hl, K => by
    have hp := dyWl_head hw
    have hln := dySum_len (dyWl_tail hw)
    have hnn := dySum_nn (dyWl_tail hw)
    simp only [List.length_cons, dySum] at h1 hs h2
    have e2 := h3.1.1
    have e3 := h3.1.2
    have hlp := hl p.1 (by omega) (by omega)
    simp only [dySum] at hlp hl
    by_cases hr0 : rest ≤ 0
    · have K' := K M rfl (by rw [dyDr_0 hr0]; exact h2) (fun k _ _ => by rw [dyDrs, if_pos hr0]; omega) (by rw [dyDr_0 hr0]; rw [show i + (((p :: l).length : Int) - ((p :: l).length : Int)) = i by omega]; exact h3) Fr_refl
      rw [dyDr_0 hr0, show i + (((p :: l).length : Int) - ((p :: l).length : Int)) = i by omega] at K'
      have e : rest - dyAm (p :: l) rest = rest := by unfold dyAm; rw [if_pos hr0]; omega
      rw [e] at K'
      refine r18_34 (k1 := fun q1 => ?_) (k2 := fun _ _ => K') (k3 := fun q1 q2 => ?_) (k4 := fun q1 q2 => ?_) (k5 := fun q1 q2 => ?_) (k6 := fun q1 q2 => ?_) <;> omega
    · by_cases hm : p.2 ≤ rest
      · refine r18_34 (k1 := fun q1 => ?_) (k2 := fun q1 q2 => ?_) (k3 := fun q1 q2 q3 q4 => ?_) (k4 := fun q1 q2 q3 q4 => ?_) (k5 := fun q1 q2 q3 => ?_) (k6 := fun q1 q2 q3 => ?_) (s4 := fun q1 q2 q3 => by rw [e2]; omega) (s5 := fun q1 q2 q3 => by rw [e2, e3]; omega) (s12 := fun q1 q2 q3 => by rw [e2]; omega) (s13 := fun q1 q2 q3 => by rw [e2]; omega)
        · omega
        · omega
        · omega
        · rw [e3, e2]
          refine drain_1 hc l (i + 1) (rest - p.2) _ (dyWl_tail hw) (by omega) ?_ (by omega) ?_ ?_ (by omega) ?_ ?_
          · simp (disch := omega) only [ds_gn, ds_ge]
            omega
          · rw [show c * 60 + (i + 1) = c * 60 + i + 1 by omega]
            refine dyRp_congr ?_ h3.2
            intro j j1 j2
            refine ⟨?_, ?_⟩ <;> simp (disch := omega) only [ds_gn, ds_ge]
          · simp (disch := omega) only [ds_gn, ds_ge]; rw [h2]; omega
          · intro k k0 k6
            have := hl k k0 k6
            by_cases hk : k = p.1
            · simp (disch := omega) only [ds_gn, ds_ge]; omega
            · simp (disch := omega) only [ds_gn, ds_ge]; omega
          · intro M' q4 q5 qk qr qf
            have ed : dyDr (p :: l) rest = dyDr l (rest - p.2) := by rw [dyDr, if_neg hr0, if_pos hm]
            have el : ((p :: l).length : Int) = l.length + 1 := by simp only [List.length_cons]; omega
            have K' := K M' ?_ ?_ ?_ ?_ ?_
            · rw [ed, el] at K'
              rw [show i + 1 + ((l.length : Int) - ((dyDr l (rest - p.2)).length : Int)) = i + ((l.length : Int) + 1 - ((dyDr l (rest - p.2)).length : Int)) by omega]
              have ea : rest - p.2 - dyAm l (rest - p.2) = rest - dyAm (p :: l) rest := by
                rw [dyAm_cons]; unfold dyAm; (repeat' split) <;> omega
              rw [ea]
              exact K'
            · rw [q4]
              simp (disch := omega) only [ds_gn, ds_ge]
            · rw [ed]; exact q5
            · intro k k0 k6
              rw [qk k k0 k6, dyDrs, if_neg hr0]
              by_cases hk : p.1 = k
              · rw [if_pos hk, if_pos hm, ← hk]; simp (disch := omega) only [ds_gn, ds_ge]; omega
              · rw [if_neg hk]; simp (disch := omega) only [ds_gn, ds_ge]; omega
            · rw [ed, el]
              rw [show i + ((l.length : Int) + 1 - ((dyDr l (rest - p.2)).length : Int)) = i + 1 + ((l.length : Int) - ((dyDr l (rest - p.2)).length : Int)) by omega]
              exact qr
            · refine Fr_trans (Fr_set (Fr_set (Fr_set Fr_refl ?_) ?_) ?_) (Fr_mono ?_ qf)
              · omega
              · omega
              · omega
              · intro a j h; omega
        · omega
        · omega
      · have ed : dyDr (p :: l) rest = (p.1, p.2 - rest) :: l := by rw [dyDr, if_neg hr0, if_neg hm]
        have ea : dyAm (p :: l) rest = rest := by rw [dyAm_cons]; (repeat' split) <;> omega
        refine r18_34 (k1 := fun q1 => ?_) (k2 := fun q1 q2 => ?_) (k3 := fun q1 q2 q3 q4 => ?_) (k4 := fun q1 q2 q3 q4 => ?_) (k5 := fun q1 q2 q3 q4 => ?_) (k6 := fun q1 q2 q3 q4 => ?_) (s4 := fun q1 q2 q3 => by rw [e2]; omega) (s5 := fun q1 q2 q3 => by rw [e2, e3]; omega) (s12 := fun q1 q2 q3 => by rw [e2]; omega) (s13 := fun q1 q2 q3 => by rw [e2]; omega)
        · omega
        · omega
        · omega
        · omega
        · rw [e3, e2]
          have el : ((p :: l).length : Int) = l.length + 1 := by simp only [List.length_cons]; omega
          have el2 : (((p.1, p.2 - rest) :: l).length : Int) = l.length + 1 := by simp only [List.length_cons]; omega
          have K' := K (dsSet (dsSet (dsSet M (x0 + 3) (c * 60 + i) (p.2 - rest)) (x0 + 13) p.1 (M (x0 + 13) p.1 + rest)) (x0 + 5) c (M (x0 + 5) c - rest)) ?_ ?_ ?_ ?_ ?_
          · rw [ea, ed, el, el2, show i + ((l.length : Int) + 1 - ((l.length : Int) + 1)) = i by omega] at K'
            exact drain_0 hc (by omega) K'
          · simp (disch := omega) only [ds_gn, ds_ge]
          · rw [ed]
            simp only [dySum]
            simp (disch := omega) only [ds_gn, ds_ge]; omega
          · intro k k0 k6
            rw [dyDrs, if_neg hr0]
            have ez : dyDrs l (rest - p.2) k = 0 := by
              cases l with
              | nil => rfl
              | cons q l => rw [dyDrs, if_pos (by omega)]
            rw [ez]
            by_cases hk : p.1 = k
            · rw [if_pos hk, if_neg hm, ← hk]; simp (disch := omega) only [ds_gn, ds_ge]; omega
            · rw [if_neg hk]; simp (disch := omega) only [ds_gn, ds_ge]; omega
          · rw [ed, el, el2, show i + ((l.length : Int) + 1 - ((l.length : Int) + 1)) = i by omega]
            refine ⟨⟨?_, ?_⟩, dyRp_congr ?_ h3.2⟩
            · simp (disch := omega) only [ds_gn, ds_ge]
              exact e2
            · simp (disch := omega) only [ds_gn, ds_ge]
            · intro j j1 j2
              refine ⟨?_, ?_⟩ <;> simp (disch := omega) only [ds_gn, ds_ge]
          · refine Fr_set (Fr_set (Fr_set Fr_refl ?_) ?_) ?_ <;> omega
        · omega
/-- the layers that are left move down -/
theorem drain_2 {x0 c n x4 e : Int} {Q : bQT} {l : dsL} (hc : 0 ≤ c ∧ c < 78) (he : 0 < e) (hn : -2147483648 ≤ n - x4 ∧ n - x4 < 2147483648) (hl : e + l.length ≤ 60) :
    ∀ (r : dsL) (i : Int) (M : dsMem), e ≤ i → i + r.length = e + l.length → M (x0 + 4) c = e + l.length → dyRp M (x0 + 2) (x0 + 3) (c * 60 + i) r →
    (∀ M' : dsMem, dyRp M' (x0 + 2) (x0 + 3) (c * 60 + i - e) r → Fr (fun a j => (a = x0 + 2 ∨ a = x0 + 3) ∧ c * 60 + i - e ≤ j ∧ j < c * 60 + 60 - e) M M' → Q [uI (n - x4)] (dsSet M' (x0 + 4) c (l.length : Int))) →
    bB 18 156 [uR 5 x0, uI c, uI n, uI (c * 60), uI x4, uI e, uI i, uX 0] [] M Q
  | [], i, M, h0, h1, h4, hr, K => by
    simp only [List.length_nil] at h1
    have K' := K M trivial Fr_refl
    refine r18_156 (k1 := fun q1 => ?_) (k2 := fun q1 q2 => ?_) (k3 := fun q1 q2 => ?_)
    · omega
    · rw [h4, show e + (l.length : Int) - e = l.length by omega]; exact K'
    · omega
  | p :: r, i, M, h0, h1, h4, hr, K => by
    simp only [List.length_cons] at h1
    refine r18_156 (k1 := fun q1 => ?_) (k2 := fun q1 q2 => ?_) (k3 := fun q1 q2 => ?_)
    · omega
    · omega
    · refine drain_2 hc he hn hl r (i + 1) _ (by omega) (by omega) ?_ ?_ ?_
      · simp (disch := omega) only [ds_gn, ds_ge]
        exact h4
      · rw [show c * 60 + (i + 1) = c * 60 + i + 1 by omega]
        refine dyRp_congr ?_ hr.2
        intro j j1 j2
        refine ⟨?_, ?_⟩ <;> simp (disch := omega) only [ds_gn, ds_ge]
      · intro M' g1 g2
        refine K M' ⟨⟨?_, ?_⟩, ?_⟩ ?_
        · rw [g2 _ _ (by omega)]
          simp (disch := omega) only [ds_gn, ds_ge]
          exact hr.1.1
        · rw [g2 _ _ (by omega)]
          simp (disch := omega) only [ds_gn, ds_ge]
          exact hr.1.2
        · rw [show c * 60 + i - e + 1 = c * 60 + (i + 1) - e by omega]
          exact g1
        · refine Fr_trans (Fr_set (Fr_set Fr_refl ?_) ?_) (Fr_mono ?_ g2)
          · omega
          · omega
          · intro a j h; omega
def FD (x0 c : Int) : Int → Int → Prop := fun a j => FC x0 c a j ∨ a = x0 + 13
theorem drain_ct {x0 c n : Int} {M : dsMem} {l : dsL} (hc : 0 ≤ c ∧ c < 78) (hC : dyCell M x0 c l) (hw : dyWl l) (hb : dySum l ≤ 60) (hn : 0 ≤ n ∧ n < 2147483648) :
    bCt 18 [uR 5 x0, uI c, uI n, uX 0, uX 0, uX 0, uX 0, uX 0] M (fun _ => [uI (dyAm l n)])
      (fun M' => dyCell M' x0 c (dyDr l n) ∧ (∀ k, 0 ≤ k → k < 6 → M' (x0 + 13) k = dyDrs l n k) ∧ Fr (FD x0 c) M M') := by
  intro Q hQ
  obtain ⟨h1, h2, h3⟩ := hC
  have hlen := dySum_len hw
  have hdl := @dyDr_len l n
  have ham := dyAm_nn (n := n) hw
  refine r18_0 ?_
  refine b_forM 6 (fun i => [uR 5 x0, uI c, uI n, uI i, uX 0, uX 0, uX 0, uX 0]) (fun i M1 => 0 ≤ i ∧ i ≤ 6 ∧ (∀ k, 0 ≤ k → k < i → M1 (x0 + 13) k = 0) ∧ Fr (fun a _ => a = x0 + 13) M M1) ?_ ?_ 0 M ⟨by omega, by omega, fun k _ _ => by omega, Fr_refl⟩
  · rintro i M1 ⟨i0, i6, hz, hf⟩ hi ih
    refine r18_2 (k1 := fun q1 => ?_) (k2 := fun q1 => ih _ ⟨by omega, by omega, ?_, Fr_set hf rfl⟩)
    · omega
    · intro k k0 k1
      by_cases hk : k = i
      · simp (disch := omega) only [ds_gn, ds_ge]
      · simp (disch := omega) only [ds_gn, ds_ge]; exact hz k k0 (by omega)
  · rintro i M1 ⟨i0, i6, hz, hf⟩ hi
    have g4 : M1 (x0 + 4) c = M (x0 + 4) c := hf _ _ (by omega)
    have g5 : M1 (x0 + 5) c = M (x0 + 5) c := hf _ _ (by omega)
    refine r18_2 (k1 := fun q1 => ?_) (k2 := fun q1 => ?_)
    · refine drain_1 hc l 0 n M1 hw (by omega) (by omega) (by omega) ?_ (by omega) hn ?_ ?_
      · rw [show c * 60 + 0 = c * 60 by omega]
        refine dyRp_congr ?_ h3
        intro j _ _
        exact ⟨hf _ _ (by omega), hf _ _ (by omega)⟩
      · intro k k0 k6
        rw [hz k k0 (by omega)]; omega
      · intro M2 t4 t5 tk tr tf
        rw [show (0 : Int) + ((l.length : Int) - ((dyDr l n).length : Int)) = (l.length : Int) - ((dyDr l n).length : Int) by omega] at tr ⊢
        have fin : ∀ M3 : dsMem, dyRp M3 (x0 + 2) (x0 + 3) (c * 60) (dyDr l n) → M3 (x0 + 5) c = dySum (dyDr l n) → (∀ k, 0 ≤ k → k < 6 → M3 (x0 + 13) k = dyDrs l n k) → Fr (FD x0 c) M M3 → Q [uI (dyAm l n)] (dsSet M3 (x0 + 4) c ((dyDr l n).length : Int)) := by
          intro M3 v1 v2 v3 v4
          refine hQ _ ⟨⟨?_, ?_, ?_⟩, ?_, ?_⟩
          · simp (disch := omega) only [ds_gn, ds_ge]
          · simp (disch := omega) only [ds_gn, ds_ge]; exact v2
          · refine dyRp_congr ?_ v1
            intro j _ _
            refine ⟨?_, ?_⟩ <;> simp (disch := omega) only [ds_gn, ds_ge]
          · intro k k0 k6
            simp (disch := omega) only [ds_gn, ds_ge]; exact v3 k k0 k6
          · exact Fr_set v4 (Or.inl (Or.inr ⟨Or.inl rfl, rfl⟩))
        have f2 : Fr (FD x0 c) M M2 := by
          refine Fr_trans (Fr_mono ?_ hf) (Fr_mono ?_ tf)
          · intro a j h; exact Or.inr h
          · intro a j h; unfold FD FC; omega
        have v3 : ∀ k, 0 ≤ k → k < 6 → M2 (x0 + 13) k = dyDrs l n k := by
          intro k k0 k6
          rw [tk k k0 k6, hz k k0 (by omega)]; omega
        have er : n - (n - dyAm l n) = dyAm l n := by omega
        by_cases he : (l.length : Int) - ((dyDr l n).length : Int) ≤ 0
        · rw [show c * 60 + ((l.length : Int) - ((dyDr l n).length : Int)) = c * 60 by omega] at tr
          refine r18_156 (k1 := fun q1 => ?_) (k2 := fun q1 q2 => ?_) (k3 := fun q1 q2 => ?_)
          · rw [er, show M2 (x0 + 4) c - ((l.length : Int) - ((dyDr l n).length : Int)) = ((dyDr l n).length : Int) by omega]
            exact fin M2 tr t5 v3 f2
          · omega
          · omega
        · refine drain_2 (l := dyDr l n) hc (by omega) (by omega) (by omega) (dyDr l n) _ M2 (by omega) (by omega) (by omega) tr ?_
          intro M3 w1 w2
          rw [er]
          refine fin M3 ?_ ?_ ?_ (Fr_trans f2 (Fr_mono ?_ w2))
          · rw [show c * 60 + ((l.length : Int) - ((dyDr l n).length : Int)) - ((l.length : Int) - ((dyDr l n).length : Int)) = c * 60 by omega] at w1
            exact w1
          · rw [w2 _ _ (by omega)]; exact t5
          · intro k k0 k6
            rw [w2 _ _ (by omega)]; exact v3 k k0 k6
          · intro a j h; unfold FD FC; omega
    · omega
