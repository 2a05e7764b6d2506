/-! what the law's loop keeps -/
abbrev gST := dsW × slT × imT × (Int × (Int → Int)) × (Int × Int)
abbrev gW (s : gST) : dsW := s.1
abbrev gS (s : gST) : slT := s.2.1
abbrev gI (s : gST) : imT := s.2.2.1
abbrev gNn (s : gST) : Int := s.2.2.2.1.1
abbrev gB (s : gST) : Int → Int := s.2.2.2.1.2
abbrev gFl (s : gST) : Int := s.2.2.2.2.1
abbrev gPl (s : gST) : Int := s.2.2.2.2.2
/-- the cells made later lie behind all others -/
def AL (G : Int → Nat) (M : dsMem) (S : slT) (I : imT) : Prop :=
  115 ≤ M (-1) 0 ∧ (∀ a, M (-1) 0 ≤ a → G a = 99) ∧ G 0 = 10 ∧ G 84 = 11 ∧
  (∀ t, 0 ≤ t → t < 4 → 0 ≤ slN S t → M 46 t + 1 < M (-1) 0) ∧ (∀ k, 0 ≤ k → k < 3 → (I k).1 = 1 → M 45 k + 20 < M (-1) 0)
def INV (G : Int → Nat) (M : dsMem) (s : gST) : Prop :=
  Lay G M ∧ AL G M (gS s) (gI s) ∧ (CI M (gW s) ∧ CSl M (gS s) ∧ CIm M (gS s) (gI s) ∧ CTt M (gNn s) (gB s) (gFl s) (gPl s)) ∧
  (RI0 M (gW s) ∧ RSl M (gS s) ∧ RIm M (gI s) ∧ RTt M (gNn s) (gB s) (gFl s) (gPl s))
theorem AL_e {G : Int → Nat} {M M' : dsMem} {S : slT} {I : imT} (h : AL G M S I) (e : ∀ a j, a = -1 ∨ a = 45 ∨ a = 46 → M' a j = M a j) : AL G M' S I := by
  obtain ⟨a, b, c, d, f, g⟩ := h
  refine ⟨by rw [e _ _ (by omega)]; exact a, fun x hx => b x (by rw [e _ _ (by omega)] at hx; exact hx), c, d, fun t t0 t1 n0 => ?_, fun k k0 k1 i0 => ?_⟩
  · rw [e _ _ (by omega), e (-1) _ (by omega)]; exact f t t0 t1 n0
  · rw [e _ _ (by omega), e (-1) _ (by omega)]; exact g k k0 k1 i0
theorem CTt_e {M M' : dsMem} {n flt plc : Int} {b : Int → Int} (h : CTt M n b flt plc) (e : ∀ a j, a = 1 ∨ a = 2 → M' a j = M a j) : CTt M' n b flt plc :=
  ⟨CTp_e h.1 (fun a j q => e a j (by omega)), by rw [e _ _ (by omega)]; exact h.2.1, by rw [e _ _ (by omega)]; exact h.2.2⟩
theorem RTt_e {M M' : dsMem} {n flt plc : Int} {b : Int → Int} (h : RTt M n b flt plc) (e : ∀ a j, (a = 84 ∧ (j = 5 ∨ j = 12 ∨ j = 13)) ∨ a = 88 → M' a j = M a j) : RTt M' n b flt plc :=
  ⟨by rw [e _ _ (by omega)]; exact h.1, h.2.1, fun i i0 i1 => by rw [e _ _ (by omega)]; exact h.2.2.1 i i0 i1, by rw [e _ _ (by omega)]; exact h.2.2.2.1, by rw [e _ _ (by omega)]; exact h.2.2.2.2⟩
/-- the class's side was touched alone -/
theorem RS_e {M M' : dsMem} {s : gST} (h : RI0 M (gW s) ∧ RSl M (gS s) ∧ RIm M (gI s) ∧ RTt M (gNn s) (gB s) (gFl s) (gPl s)) (e : ∀ a j, 84 ≤ a → a ≤ 114 → M' a j = M a j) : RI0 M' (gW s) ∧ RSl M' (gS s) ∧ RIm M' (gI s) ∧ RTt M' (gNn s) (gB s) (gFl s) (gPl s) :=
  ⟨RI0_e h.1 (fun j => e _ _ (by omega) (by omega)), RSl_e h.2.1 (fun a j q1 q2 => e _ _ (by omega) (by omega)), RIm_e h.2.2.1 (fun a j q => e _ _ (by omega) (by omega)), RTt_e h.2.2.2 (fun a j q => e _ _ (by omega) (by omega))⟩
/-- the reference's side was touched alone -/
theorem CS_e {M M' : dsMem} {s : gST} (h : CI M (gW s) ∧ CSl M (gS s) ∧ CIm M (gS s) (gI s) ∧ CTt M (gNn s) (gB s) (gFl s) (gPl s)) (e : ∀ a j, (0 ≤ a ∧ a ≤ 83) ∨ 115 ≤ a → M' a j = M a j) : CI M' (gW s) ∧ CSl M' (gS s) ∧ CIm M' (gS s) (gI s) ∧ CTt M' (gNn s) (gB s) (gFl s) (gPl s) :=
  ⟨CI_e h.1 (fun a j q1 q2 => e _ _ (by omega)), CSl_e h.2.1 (fun a j q => e _ _ (by omega)), CIm_e h.2.2.1 (fun a j q => e _ _ (by omega)), CTt_e h.2.2.2 (fun a j q => e _ _ (by omega))⟩
theorem INV_c {G : Int → Nat} {M M' : dsMem} {s : gST} (h : INV G M s) (hL : Lay G M') (r : CI M' (gW s) ∧ Fr CQ M M') : INV G M' s := by
  obtain ⟨_, a, c, d⟩ := h
  have e : ∀ x j, (x < 0 ∨ (1 ≤ x ∧ x ≤ 46) ∨ 84 ≤ x) → M' x j = M x j := fun x j q => r.2 x j (by unfold CQ; omega)
  exact ⟨hL, AL_e a (fun x j q => e x j (by omega)), ⟨r.1, CSl_e c.2.1 (fun x j q => e x j (by omega)), CIm_e c.2.2.1 (fun x j q => e x j (by omega)), CTt_e c.2.2.2 (fun x j q => e x j (by omega))⟩, RS_e d (fun x j q1 q2 => e x j (by omega))⟩
theorem INV_r {G : Int → Nat} {M M' : dsMem} {s : gST} (h : INV G M s) (hL : Lay G M') (r : RI0 M' (gW s) ∧ Fr RQ M M') : INV G M' s := by
  obtain ⟨_, a, c, d⟩ := h
  have e : ∀ x j, (x ≤ 83 ∨ (85 ≤ x ∧ x ≤ 90) ∨ 111 ≤ x ∨ (x = 84 ∧ j ≤ 16)) → M' x j = M x j := fun x j q => r.2 x j (by unfold RQ; omega)
  exact ⟨hL, AL_e a (fun x j q => e x j (by omega)), CS_e c (fun x j q => e x j (by omega)), ⟨r.1, RSl_e d.2.1 (fun x j q1 q2 => e x j (by omega)), RIm_e d.2.2.1 (fun x j q => e x j (by omega)), RTt_e d.2.2.2 (fun x j q => e x j (by omega))⟩⟩
