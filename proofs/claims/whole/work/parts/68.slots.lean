/-! slots: write, paste, count; the reference's row -/
def RSQ : Int → Int → Prop := fun a _ => 111 ≤ a ∧ a ≤ 114
theorem shl8 {w : Int} (h : 0 ≤ w ∧ w ≤ 3) : 8 ≤ dsShl 8 w ∧ dsShl 8 w ≤ 64 := by
  obtain ⟨w, rfl⟩ : ∃ m : Nat, w = m := ⟨w.toNat, by omega⟩
  have : ∀ u : Fin 4, 8 ≤ dsShl 8 ((u.val : Nat) : Int) ∧ dsShl 8 ((u.val : Nat) : Int) ≤ 64 := by decide +kernel
  exact this ⟨w, by omega⟩
def cutV (w v : Int) : Int := dsLsr (dsLsl v (64 - dsShl 8 w)) (64 - dsShl 8 w)
abbrev okWr (S : slT) (t i : Int) : Prop := (0 ≤ t ∧ t ≤ 3) ∧ ¬ slN S t = -1 ∧ 0 ≤ i ∧ i ≤ slN S t - 1
def aWr (S : slT) (t i : Int) : Int := if 0 ≤ t ∧ t ≤ 3 then (if slN S t = -1 then -6 else if 0 ≤ i ∧ i ≤ slN S t - 1 then 0 else -7) else -2
def nWr (S : slT) (t i v : Int) : slT := if okWr S t i then dsUpd S t (slN S t, slW S t, dsUpd (slF S t) i (cutV (slW S t) v)) else S
theorem CSl_at {M : dsMem} {S : slT} {t : Int} (h : CSl M S) (ht : 0 ≤ t ∧ t ≤ 3) (hn : ¬ M 46 t < 0) : 0 ≤ slN S t ∧ slN S t ≤ 60 ∧ 0 ≤ slW S t ∧ slW S t ≤ 3 ∧ 115 ≤ M 46 t ∧ M (M 46 t) 0 = slW S t ∧ M (M 46 t) 1 = slN S t ∧ ∀ j, 0 ≤ j → j < 60 → M (M 46 t + 1) j = slF S t j := by
  rcases h.1 t ht.1 (by omega) with a | a
  · omega
  · exact a
theorem CSl_no {M : dsMem} {S : slT} {t : Int} (h : CSl M S) (ht : 0 ≤ t ∧ t ≤ 3) (hn : M 46 t < 0) : slN S t = -1 := by
  rcases h.1 t ht.1 (by omega) with a | ⟨a, b, c, d, e, _⟩
  · exact a.1
  · omega
theorem RSl_at {M : dsMem} {S : slT} {t : Int} (h : RSl M S) (ht : 0 ≤ t ∧ t ≤ 3) (hn : ¬ M 111 t = -1) : 0 ≤ slN S t ∧ slN S t ≤ 60 ∧ 0 ≤ slW S t ∧ slW S t ≤ 3 ∧ M 111 t = slN S t ∧ M 112 t = slW S t ∧ ∀ j, 0 ≤ j → j < 60 → M 113 (60 * t + j) = slF S t j := by
  rcases h t ht.1 (by omega) with a | a
  · exact absurd a.2 hn
  · exact a
theorem RSl_no {M : dsMem} {S : slT} {t : Int} (h : RSl M S) (ht : 0 ≤ t ∧ t ≤ 3) (hn : M 111 t = -1) : slN S t = -1 := by
  rcases h t ht.1 (by omega) with a | ⟨a, b, c, d, e, _⟩
  · exact a.1
  · omega
/-- one slot's numbers change -/
theorem CSl_num {M M' : dsMem} {S : slT} {t : Int} {f : Int → Int} (h : CSl M S) (ht : 0 ≤ t ∧ t ≤ 3) (hn : ¬ M 46 t < 0) (e : ∀ a j, a ≠ M 46 t + 1 → M' a j = M a j) (hf : ∀ j, 0 ≤ j → j < 60 → M' (M 46 t + 1) j = f j) : CSl M' (dsUpd S t (slN S t, slW S t, f)) := by
  have at1 := CSl_at h ht hn
  have hN : ∀ u, slN (dsUpd S t (slN S t, slW S t, f)) u = slN S u := fun u => by
    by_cases hu : u = t
    · subst hu; show (dsUpd S u _ u).1 = _; rw [upd_e]
    · show (dsUpd S t _ u).1 = _; rw [upd_n _ _ hu]
  have hW : ∀ u, slW (dsUpd S t (slN S t, slW S t, f)) u = slW S u := fun u => by
    by_cases hu : u = t
    · subst hu; show (dsUpd S u _ u).2.1 = _; rw [upd_e]
    · show (dsUpd S t _ u).2.1 = _; rw [upd_n _ _ hu]
  have hFt : slF (dsUpd S t (slN S t, slW S t, f)) t = f := by show (dsUpd S t _ t).2.2 = _; rw [upd_e]
  have hFu : ∀ u, u ≠ t → slF (dsUpd S t (slN S t, slW S t, f)) u = slF S u := fun u hu => by show (dsUpd S t _ u).2.2 = _; rw [upd_n _ _ hu]
  have e46 : ∀ u, M' 46 u = M 46 u := fun u => e 46 u (by omega)
  refine ⟨fun u u0 u1 => ?_, fun u v u0 u1 v0 v1 q n1 n2 => ?_⟩
  · rw [hN, hW, e46]
    by_cases hu : u = t
    · subst hu
      refine Or.inr ⟨at1.1, at1.2.1, at1.2.2.1, at1.2.2.2.1, at1.2.2.2.2.1, by rw [e _ _ (by omega)]; exact at1.2.2.2.2.2.1, by rw [e _ _ (by omega)]; exact at1.2.2.2.2.2.2.1, fun j j0 j1 => by rw [hFt]; exact hf j j0 j1⟩
    · rcases h.1 u u0 u1 with a | ⟨a, b, c, d, f', g, i, k⟩
      · exact Or.inl a
      · have d1 := h.2 u t u0 u1 ht.1 (by omega) hu a at1.1
        have d2 := h.2 t u ht.1 (by omega) u0 u1 (fun q => hu q.symm) at1.1 a
        refine Or.inr ⟨a, b, c, d, f', by rw [e _ _ (by omega)]; exact g, by rw [e _ _ (by omega)]; exact i, fun j j0 j1 => ?_⟩
        rw [hFu u hu, e _ _ (by omega)]; exact k j j0 j1
  · rw [e46, e46]
    rw [hN] at n1 n2
    exact h.2 u v u0 u1 v0 v1 q n1 n2
theorem RSl_upd {M M' : dsMem} {S : slT} {t n w : Int} {f : Int → Int} (h : RSl M S) (ht : 0 ≤ t ∧ t ≤ 3) (hn : 0 ≤ n ∧ n ≤ 60) (hw : 0 ≤ w ∧ w ≤ 3) (e1 : ∀ u, u ≠ t → M' 111 u = M 111 u) (e2 : ∀ u, u ≠ t → M' 112 u = M 112 u) (e3 : ∀ j, j < 60 * t ∨ 60 * t + 60 ≤ j → M' 113 j = M 113 j) (f1 : M' 111 t = n) (f2 : M' 112 t = w) (hf : ∀ j, 0 ≤ j → j < 60 → M' 113 (60 * t + j) = f j) : RSl M' (dsUpd S t (n, w, f)) := by
  intro u u0 u1
  by_cases hu : u = t
  · subst hu
    have eN : slN (dsUpd S u (n, w, f)) u = n := by show (dsUpd S u _ u).1 = _; rw [upd_e]
    have eW : slW (dsUpd S u (n, w, f)) u = w := by show (dsUpd S u _ u).2.1 = _; rw [upd_e]
    have eF : slF (dsUpd S u (n, w, f)) u = f := by show (dsUpd S u _ u).2.2 = _; rw [upd_e]
    rw [eN, eW, eF]
    exact Or.inr ⟨hn.1, hn.2, hw.1, hw.2, f1, f2, hf⟩
  · have eS : dsUpd S t (n, w, f) u = S u := upd_n _ _ hu
    show ((dsUpd S t (n, w, f) u).1 = -1 ∧ _) ∨ (0 ≤ (dsUpd S t (n, w, f) u).1 ∧ (dsUpd S t (n, w, f) u).1 ≤ 60 ∧ 0 ≤ (dsUpd S t (n, w, f) u).2.1 ∧ (dsUpd S t (n, w, f) u).2.1 ≤ 3 ∧ M' 111 u = (dsUpd S t (n, w, f) u).1 ∧ M' 112 u = (dsUpd S t (n, w, f) u).2.1 ∧ ∀ j, 0 ≤ j → j < 60 → M' 113 (60 * u + j) = (dsUpd S t (n, w, f) u).2.2 j)
    rw [eS, e1 u hu, e2 u hu]
    rcases h u u0 u1 with a | ⟨a, b, c, d, x, y, i⟩
    · exact Or.inl a
    · exact Or.inr ⟨a, b, c, d, x, y, fun j j0 j1 => by rw [e3 _ (by omega)]; exact i j j0 j1⟩
theorem cq142 {M : dsMem} {S : slT} {t i v : Int} (hs : CSl M S) : bCt 142 [uR 10 0, uI t, uI i, uJ v, uX 0, uX 0] M (fun _ => [uI (aWr S t i)]) (fun M' => CSl M' (nWr S t i v) ∧ Fr (fun a _ => 115 ≤ a ∧ a = M 46 t + 1) M M') := by
  intro Q hQ
  refine r142_0 (s1 := fun q => by omega) (s2 := fun q q2 => by omega) (s3 := fun q q2 => by have := CSl_at hs q q2; omega) (s4 := fun q q2 q3 => by have a := CSl_at hs q q2; rw [a.2.2.2.2.2.1]; have := shl8 ⟨a.2.2.1, a.2.2.2.1⟩; omega) (s5 := fun q q2 q3 => by have := CSl_at hs q q2; omega) (k1 := fun q q2 q3 => ?_) (k2 := fun q q2 q3 => ?_) (k3 := fun q q2 => ?_) (k4 := fun q => ?_)
  · have a := CSl_at hs q q2
    have ok : okWr S t i := ⟨q, by omega, by omega⟩
    refine q_eq ?_ (hQ _ ⟨?_, Fr_set Fr_refl (by omega)⟩)
    · unfold aWr; rw [if_pos q, if_neg (by omega), if_pos (by omega)]
    · unfold nWr; rw [if_pos ok]
      refine CSl_num hs q q2 (fun a j u => by rw [ds_gn (by omega)]) (fun j j0 j1 => ?_)
      by_cases hj : j = i
      · subst hj; rw [ds_ge ⟨rfl, rfl⟩, upd_e]; unfold v41 cutV; rw [a.2.2.2.2.2.1]
      · rw [ds_gn (Or.inr hj), upd_n _ _ hj]; exact a.2.2.2.2.2.2.2 j j0 j1
  · have a := CSl_at hs q q2
    refine q_eq ?_ (hQ M ⟨by unfold nWr; rw [if_neg (fun u => by have := u.2.2; omega)]; exact hs, Fr_refl⟩)
    unfold aWr; rw [if_pos q, if_neg (by omega), if_neg (by omega)]
  · have a := CSl_no hs q q2
    refine q_eq ?_ (hQ M ⟨by unfold nWr; rw [if_neg (fun u => u.2.1 a)]; exact hs, Fr_refl⟩)
    unfold aWr; rw [if_pos q, if_pos a]
  · refine q_eq ?_ (hQ M ⟨by unfold nWr; rw [if_neg (fun u => q u.1)]; exact hs, Fr_refl⟩)
    unfold aWr; rw [if_neg q]
theorem rq331 {M : dsMem} {S : slT} {t i v : Int} (hs : RSl M S) : bCt 331 [uR 11 84, uI t, uI i, uJ v, uX 0] M (fun _ => [uI (aWr S t i)]) (fun M' => RSl M' (nWr S t i v) ∧ Fr RSQ M M') := by
  intro Q hQ
  refine r331_0 (s1 := fun q => by omega) (s2 := fun q q2 => by have := RSl_at hs q q2; omega) (s3 := fun q q2 q3 => by have a := RSl_at hs q q2; rw [a.2.2.2.2.2.1]; have := shl8 ⟨a.2.2.1, a.2.2.2.1⟩; omega) (s4 := fun q q2 q3 => by have := RSl_at hs q q2; omega) (k1 := fun q q2 q3 => ?_) (k2 := fun q q2 q3 => ?_) (k3 := fun q q2 => ?_) (k4 := fun q => ?_)
  · have a := RSl_at hs q q2
    have ok : okWr S t i := ⟨q, by omega, by omega⟩
    refine q_eq ?_ (hQ _ ⟨?_, Fr_set Fr_refl (by unfold RSQ; omega)⟩)
    · unfold aWr; rw [if_pos q, if_neg (by omega), if_pos (by omega)]
    · unfold nWr; rw [if_pos ok]
      refine RSl_upd hs q ⟨a.1, a.2.1⟩ ⟨a.2.2.1, a.2.2.2.1⟩ (fun u _ => ds_gn (by omega)) (fun u _ => ds_gn (by omega)) (fun j hj => ds_gn (by omega)) (by rw [ds_gn (by omega)]; exact a.2.2.2.2.1) (by rw [ds_gn (by omega)]; exact a.2.2.2.2.2.1) (fun j j0 j1 => ?_)
      by_cases hj : j = i
      · subst hj; rw [ds_ge ⟨rfl, rfl⟩, upd_e]; unfold v329 cutV; rw [a.2.2.2.2.2.1]
      · rw [ds_gn (by omega), upd_n _ _ hj]; exact a.2.2.2.2.2.2 j j0 j1
  · have a := RSl_at hs q q2
    refine q_eq ?_ (hQ M ⟨by unfold nWr; rw [if_neg (fun u => by have := u.2.2; omega)]; exact hs, Fr_refl⟩)
    unfold aWr; rw [if_pos q, if_neg (by omega), if_neg (by omega)]
  · have a := RSl_no hs q q2
    refine q_eq ?_ (hQ M ⟨by unfold nWr; rw [if_neg (fun u => u.2.1 a)]; exact hs, Fr_refl⟩)
    unfold aWr; rw [if_pos q, if_pos a]
  · refine q_eq ?_ (hQ M ⟨by unfold nWr; rw [if_neg (fun u => q u.1)]; exact hs, Fr_refl⟩)
    unfold aWr; rw [if_neg q]
-- paste
abbrev okH (n i m : Int) : Prop := 0 ≤ i ∧ 0 ≤ m ∧ i + m ≤ n
abbrev okPa (S : slT) (t i u k n : Int) : Prop := ((0 ≤ t ∧ t ≤ 3) ∧ 0 ≤ u ∧ u ≤ 3) ∧ (¬ slN S t = -1 ∧ ¬ slN S u = -1) ∧ slW S t = slW S u ∧ okH (slN S t) i n ∧ okH (slN S u) k n
def aPa (S : slT) (t i u k n : Int) : Int := if (0 ≤ t ∧ t ≤ 3) ∧ 0 ≤ u ∧ u ≤ 3 then (if slN S t = -1 ∨ slN S u = -1 then -6 else if slW S t = slW S u then (if okH (slN S t) i n ∧ okH (slN S u) k n then 0 else -7) else -8) else -2
def pasF (S : slT) (t i u k n : Int) : Int → Int := fun j => if k ≤ j ∧ j < k + n then slF S t (i + (j - k)) else slF S u j
def nPa (S : slT) (t i u k n : Int) : slT := if okPa S t i u k n then dsUpd S u (slN S u, slW S u, pasF S t i u k n) else S
theorem cq143 {M : dsMem} {S : slT} {t i u k n : Int} (hs : CSl M S) (hr : -2147483648 ≤ n ∧ n < 2147483648) : bCt 143 [uR 10 0, uI t, uI i, uI u, uI k, uI n, uX 0, uX 0] M (fun _ => [uI (aPa S t i u k n)]) (fun M' => CSl M' (nPa S t i u k n) ∧ Fr (fun a _ => 115 ≤ a ∧ a = M 46 u + 1) M M') := by
  intro Q hQ
  have no : ¬ okPa S t i u k n → ∀ v, aPa S t i u k n = v → Q [uI v] M := fun q v e => q_eq e.symm (hQ M ⟨by unfold nPa; rw [if_neg q]; exact hs, Fr_refl⟩)
  refine r143_0 (k1 := fun q => no (fun w => q w.1.1) _ (by unfold aPa; rw [if_neg (fun w => q w.1)])) (s1 := fun q q2 => by omega) (s2 := fun q q2 => by omega) (k2 := fun q q2 q3 => ?_) (s3 := fun q q2 q3 q4 => by omega) (s4 := fun q q2 q3 q4 => by omega) (s5 := fun q q2 q3 q4 q5 q6 q7 q8 => by have := CSl_at hs q q3; omega) (k3 := fun q q2 q3 q4 q5 q6 => ?_) (s6 := fun q q2 q3 q4 q5 q6 q7 q8 q9 => by have := CSl_at hs q2 q4; omega) (s7 := fun q q2 q3 q4 q5 q6 q7 => by have := CSl_at hs q q3; have := CSl_at hs q2 q4; omega) (k4 := fun q q2 q3 q4 q5 q6 q7 => ?_) (k5 := fun q q2 q3 q4 q5 q6 q7 => ?_) (k6 := fun q q2 q3 q4 q5 => ?_) (k7 := fun q q2 q3 q4 => ?_) (k8 := fun q q2 => no (fun w => q2 w.1.2) _ (by unfold aPa; rw [if_neg (fun w => q2 w.2)]))
  · have a := CSl_no hs q q3
    exact no (fun w => w.2.1.1 a) _ (by unfold aPa; rw [if_pos ⟨q, q2⟩, if_pos (Or.inl a)])
  · have a := CSl_at hs q q3
    have b := CSl_at hs q2 q4
    exact no (fun w => by have := w.2.2.2; omega) _ (by unfold aPa; rw [if_pos ⟨q, q2⟩, if_neg (by omega), if_pos (by omega), if_neg (by omega)])
  · have a := CSl_at hs q q3
    have b := CSl_at hs q2 q4
    have ok : okPa S t i u k n := ⟨⟨q, q2⟩, ⟨by omega, by omega⟩, by omega, by omega, by omega⟩
    refine q_eq ?_ (hQ _ ⟨?_, ?_⟩)
    · unfold aPa; rw [if_pos ⟨q, q2⟩, if_neg (by omega), if_pos (by omega), if_pos (by omega)]
    · unfold nPa; rw [if_pos ok]
      refine CSl_num hs q2 q4 (fun c j w => by rw [dsCpy_ne w]) (fun j j0 j1 => ?_)
      rw [dsCpy_at]
      unfold pasF
      by_cases hj : k ≤ j ∧ j < k + n
      · rw [if_pos hj, if_pos hj]; exact a.2.2.2.2.2.2.2 _ (by omega) (by omega)
      · rw [if_neg hj, if_neg hj]; exact b.2.2.2.2.2.2.2 _ (by omega) (by omega)
    · intro c j w
      rw [dsCpy_ne (by omega)]
  · have a := CSl_at hs q q3
    have b := CSl_at hs q2 q4
    exact no (fun w => by have := w.2.2.2; omega) _ (by unfold aPa; rw [if_pos ⟨q, q2⟩, if_neg (by omega), if_pos (by omega), if_neg (by omega)])
  · have a := CSl_at hs q q3
    have b := CSl_at hs q2 q4
    exact no (fun w => by have := w.2.2.1; omega) _ (by unfold aPa; rw [if_pos ⟨q, q2⟩, if_neg (by omega), if_neg (by omega)])
  · have a := CSl_no hs q2 q4
    exact no (fun w => w.2.1.2 a) _ (by unfold aPa; rw [if_pos ⟨q, q2⟩, if_pos (Or.inr a)])
theorem rq332 {M : dsMem} {S : slT} {t i u k n : Int} (hs : RSl M S) (hr : (-2147483648 ≤ n ∧ n < 2147483648) ∧ (-2147483648 ≤ i ∧ i < 2147483648) ∧ (-2147483648 ≤ k ∧ k < 2147483648)) : bCt 332 [uR 11 84, uI t, uI i, uI u, uI k, uI n, uX 0] M (fun _ => [uI (aPa S t i u k n)]) (fun M' => RSl M' (nPa S t i u k n) ∧ Fr RSQ M M') := by
  intro Q hQ
  have no : ¬ okPa S t i u k n → ∀ v, aPa S t i u k n = v → Q [uI v] M := fun q v e => q_eq e.symm (hQ M ⟨by unfold nPa; rw [if_neg q]; exact hs, Fr_refl⟩)
  have n7 : (0 ≤ t ∧ t ≤ 3) → (0 ≤ u ∧ u ≤ 3) → ¬ M 111 t = -1 → ¬ M 111 u = -1 → M 112 t = M 112 u → (i < 0 ∨ k < 0 ∨ n < 0 ∨ M 111 t < i + n ∨ M 111 u < k + n) → Q [uI (-7)] M := fun q q2 q3 q4 q5 q6 => by
    have a := RSl_at hs q q3
    have b := RSl_at hs q2 q4
    exact no (fun w => by have := w.2.2.2; omega) _ (by unfold aPa; rw [if_pos ⟨q, q2⟩, if_neg (by omega), if_pos (by omega), if_neg (by omega)])
  refine r332_0 (k1 := fun q => no (fun w => q w.1.1) _ (by unfold aPa; rw [if_neg (fun w => q w.1)])) (s1 := fun q q2 => by omega) (k2 := fun q q2 q3 => ?_) (s2 := fun q q2 q3 => by omega) (k3 := fun q q2 q3 q4 q5 q6 => n7 q q2 q3 q4 q5 (by omega)) (k4 := fun q q2 q3 q4 q5 q6 q7 => n7 q q2 q3 q4 q5 (by omega)) (k5 := fun q q2 q3 q4 q5 q6 q7 q8 => n7 q q2 q3 q4 q5 (by omega)) (s3 := fun q q2 q3 q4 q5 q6 q7 q8 => by omega) (k6 := fun q q2 q3 q4 q5 q6 q7 q8 q9 => n7 q q2 q3 q4 q5 (by omega)) (s4 := fun q q2 q3 q4 q5 q6 q7 q8 q9 => by omega) (k7 := fun q q2 q3 q4 q5 q6 q7 q8 q9 q10 => ?_) (k8 := fun q q2 q3 q4 q5 q6 q7 q8 q9 q10 => n7 q q2 q3 q4 q5 (by omega)) (k9 := fun q q2 q3 q4 q5 => ?_) (k10 := fun q q2 q3 q4 => ?_) (k11 := fun q q2 => no (fun w => q2 w.1.2) _ (by unfold aPa; rw [if_neg (fun w => q2 w.2)]))
  · have a := RSl_no hs q q3
    exact no (fun w => w.2.1.1 a) _ (by unfold aPa; rw [if_pos ⟨q, q2⟩, if_pos (Or.inl a)])
  · have a := RSl_at hs q q3
    have b := RSl_at hs q2 q4
    have ok : okPa S t i u k n := ⟨⟨q, q2⟩, ⟨by omega, by omega⟩, by omega, by omega, by omega⟩
    refine b_loop (fun (x : Int) => [uR 11 84, uI t, uI i, uI u, uI k, uI n, uI x]) (fun x M' => (0 ≤ x ∧ x ≤ n) ∧ (∀ j, 0 ≤ j → j < x → M' 114 j = slF S t (i + j)) ∧ Fr (fun a _ => a = 114) M M') (fun x => (n - x).toNat) ?_ 0 M ⟨by omega, fun j j0 j1 => by omega, Fr_refl⟩
    rintro x M1 ⟨hx, hm, hF⟩ ih
    refine r332_113 (k1 := fun p => ?_) (s1 := fun p => by omega) (s2 := fun p => by omega) (s3 := fun p => by omega) (k2 := fun p => ?_)
    · have ex : x = n := by omega
      subst ex
      refine b_loop (fun (z : Int) => [uR 11 84, uX 0, uX 0, uI u, uI k, uI x, uI z]) (fun z M' => (0 ≤ z ∧ z ≤ x) ∧ (∀ j, 0 ≤ j → j < z → M' 113 (60 * u + k + j) = slF S t (i + j)) ∧ Fr (fun a j => a = 113 ∧ 60 * u + k ≤ j ∧ j < 60 * u + k + z) M1 M') (fun z => (x - z).toNat) ?_ 0 M1 ⟨by omega, fun j j0 j1 => by omega, Fr_refl⟩
      rintro z M2 ⟨hz, hm2, hF2⟩ ih2
      refine r332_150 (k1 := fun p2 => ?_) (s1 := fun p2 => by omega) (s2 := fun p2 => by omega) (s3 := fun p2 => by omega) (k2 := fun p2 => ?_)
      · have ez : z = x := by omega
        subst ez
        refine q_eq ?_ (hQ M2 ⟨?_, Fr_trans (Fr_mono (fun a j w => by unfold RSQ; omega) hF) (Fr_mono (fun a j w => by unfold RSQ; omega) hF2)⟩)
        · unfold aPa; rw [if_pos ⟨q, q2⟩, if_neg (by omega), if_pos (by omega), if_pos (by omega)]
        · unfold nPa; rw [if_pos ok]
          have e : ∀ a j, a ≠ 114 → ¬ (a = 113 ∧ 60 * u + k ≤ j ∧ j < 60 * u + k + z) → M2 a j = M a j := fun a j w1 w2 => by rw [hF2 a j w2]; exact hF a j w1
          refine RSl_upd hs q2 ⟨b.1, b.2.1⟩ ⟨b.2.2.1, b.2.2.2.1⟩ (fun v _ => e _ _ (by omega) (by omega)) (fun v _ => e _ _ (by omega) (by omega)) (fun j hj => e _ _ (by omega) (by omega)) (by rw [e _ _ (by omega) (by omega)]; exact b.2.2.2.2.1) (by rw [e _ _ (by omega) (by omega)]; exact b.2.2.2.2.2.1) (fun j j0 j1 => ?_)
          unfold pasF
          by_cases hj : k ≤ j ∧ j < k + z
          · rw [if_pos hj]
            have := hm2 (j - k) (by omega) (by omega)
            rw [show 60 * u + k + (j - k) = 60 * u + j by omega] at this
            exact this
          · rw [if_neg hj, e _ _ (by omega) (by omega)]; exact b.2.2.2.2.2.2 j j0 j1
      · refine ih2 (z + 1) _ (by show (x - (z + 1)).toNat < (x - z).toNat; omega) ⟨by omega, fun j j0 j1 => ?_, Fr_set (Fr_mono (fun a j w => by omega) hF2) (by omega)⟩
        by_cases hj : j = z
        · subst hj
          rw [ds_ge ⟨rfl, rfl⟩, hF2 _ _ (by omega)]; exact hm j j0 (by omega)
        · rw [ds_gn (by omega)]; exact hm2 j j0 (by omega)
    · refine ih (x + 1) _ (by show (n - (x + 1)).toNat < (n - x).toNat; omega) ⟨by omega, fun j j0 j1 => ?_, Fr_set hF rfl⟩
      by_cases hj : j = x
      · subst hj
        rw [ds_ge ⟨rfl, rfl⟩, hF _ _ (by omega), show 60 * t + i + j = 60 * t + (i + j) by omega]
        exact a.2.2.2.2.2.2 _ (by omega) (by omega)
      · rw [ds_gn (by omega)]; exact hm j j0 (by omega)
  · have a := RSl_at hs q q3
    have b := RSl_at hs q2 q4
    exact no (fun w => by have := w.2.2.1; omega) _ (by unfold aPa; rw [if_pos ⟨q, q2⟩, if_neg (by omega), if_neg (by omega)])
  · have a := RSl_no hs q2 q4
    exact no (fun w => w.2.1.2 a) _ (by unfold aPa; rw [if_pos ⟨q, q2⟩, if_pos (Or.inr a)])
-- row
abbrev okRw (t w n : Int) : Prop := (0 ≤ t ∧ t ≤ 3) ∧ (0 ≤ w ∧ w ≤ 3) ∧ 0 ≤ n ∧ n ≤ 60
def aRw (t w n : Int) : Int := if (0 ≤ t ∧ t ≤ 3) ∧ (0 ≤ w ∧ w ≤ 3) ∧ n ≤ 60 then (if 0 ≤ n then 0 else -3) else -2
def nRw (S : slT) (t w n : Int) : slT := if okRw t w n then dsUpd S t (n, w, fun _ => 0) else S
theorem rq330 {M : dsMem} {S : slT} {t w n : Int} (hs : RSl M S) : bCt 330 [uR 11 84, uI t, uI w, uI n, uX 0] M (fun _ => [uI (aRw t w n)]) (fun M' => RSl M' (nRw S t w n) ∧ Fr RSQ M M') := by
  intro Q hQ
  have no : ¬ okRw t w n → ∀ v, aRw t w n = v → Q [uI v] M := fun q v e => q_eq e.symm (hQ M ⟨by unfold nRw; rw [if_neg q]; exact hs, Fr_refl⟩)
  refine r330_0 (k1 := fun q => no (fun x => q x.1) _ (by unfold aRw; rw [if_neg (fun x => q x.1)])) (k2 := fun q q2 => no (fun x => q2 x.2.1) _ (by unfold aRw; rw [if_neg (fun x => q2 x.2.1)])) (s1 := fun q q2 q3 q4 => by omega) (k3 := fun q q2 q3 q4 => ?_) (k4 := fun q q2 q3 q4 => no (fun x => by omega) _ (by unfold aRw; rw [if_pos (by omega), if_neg q4])) (k5 := fun q q2 q3 => no (fun x => by omega) _ (by unfold aRw; rw [if_neg (by omega)]))
  refine b_loop (fun (x : Int) => [uR 11 84, uI t, uX 0, uX 0, uI x]) (fun x M' => (0 ≤ x ∧ x ≤ 60) ∧ (∀ j, 0 ≤ j → j < x → M' 113 (60 * t + j) = 0) ∧ M' 111 t = n ∧ M' 112 t = w ∧ Fr (fun a j => (a = 111 ∧ j = t) ∨ (a = 112 ∧ j = t) ∨ (a = 113 ∧ 60 * t ≤ j ∧ j < 60 * t + 60)) M M') (fun x => (60 - x).toNat) ?_ 0 _ ⟨by omega, fun j j0 j1 => by omega, by rw [ds_gn (by omega), ds_ge ⟨rfl, rfl⟩], by rw [ds_ge ⟨rfl, rfl⟩], Fr_set (Fr_set Fr_refl (by omega)) (by omega)⟩
  rintro x M1 ⟨hx, hz, h1, h2, hF⟩ ih
  refine r330_52 (k1 := fun p => ?_) (s1 := fun p => by omega) (s2 := fun p => by omega) (k2 := fun p => ?_)
  · refine q_eq ?_ (hQ M1 ⟨?_, Fr_mono (fun a j u => by unfold RSQ; omega) hF⟩)
    · unfold aRw; rw [if_pos (by omega), if_pos q4]
    · unfold nRw; rw [if_pos (by omega)]
      exact RSl_upd hs q ⟨q4, q3⟩ q2 (fun u hu => hF _ _ (by omega)) (fun u hu => hF _ _ (by omega)) (fun j hj => hF _ _ (by omega)) h1 h2 (fun j j0 j1 => hz j j0 (by omega))
  · refine ih (x + 1) _ (by show (60 - (x + 1)).toNat < (60 - x).toNat; omega) ⟨by omega, fun j j0 j1 => ?_, by rw [ds_gn (by omega)]; exact h1, by rw [ds_gn (by omega)]; exact h2, Fr_set hF (by omega)⟩
    by_cases hj : j = x
    · subst hj; rw [ds_ge ⟨rfl, rfl⟩]
    · rw [ds_gn (by omega)]; exact hz j j0 (by omega)
-- count
def cSl (S : slT) : Int := dsIter (fun t a => if slN S t = -1 then a else a + 1) 0 4 0
def aCnt (W : dsW) (S : slT) (ts x : Int) : Int := if x = 0 then wY W else if x = 1 then wLw W else if x = 2 then wOd W else if x = 3 then wW W else if x = 4 then wN W else if x = 5 then evN (wR W) else if x = 6 then evN (wT W) else if x = 7 then evN (wA W) else if x = 8 then wLn W else if x = 9 then ts else if x = 10 then cSl S else -1
theorem cq155 {M : dsMem} {S : slT} (hs : CSl M S) : bCt 155 [uR 10 0, uX 0, uX 0] M (fun _ => [uI (cSl S)]) (fun M' => M' = M) := by
  intro Q hQ
  refine r155n_0 (k1 := ?_)
  refine b_loop (fun (a : Int × Int) => [uR 10 0, uI a.1, uI a.2]) (fun a M' => M' = M ∧ (0 ≤ a.2 ∧ a.2 ≤ 4) ∧ (0 ≤ a.1 ∧ a.1 ≤ a.2) ∧ dsIter (fun t a => if slN S t = -1 then a else a + 1) a.2 4 a.1 = cSl S) (fun a => (4 - a.2).toNat) ?_ (0, 0) M ⟨rfl, by show (0 : Int) ≤ 0 ∧ (0 : Int) ≤ 4; omega, by show (0 : Int) ≤ 0 ∧ (0 : Int) ≤ 0; omega, rfl⟩
  rintro ⟨x1, x2⟩ M' ⟨hM, h2, h1, e⟩ ih
  subst hM
  simp only at h1 h2 e
  show bB 155 4 [uR 10 0, uI x1, uI x2] [] M' Q
  refine r155n_4 (k1 := fun q => ?_) (s1 := fun q => by omega) (s2 := fun q q2 => by omega) (k2 := fun q q2 => ?_) (s3 := fun q q2 => by omega) (s4 := fun q q2 => by omega) (k3 := fun q q2 => ?_)
  · rw [dsIter_end (by omega)] at e
    exact q_eq e (hQ M' rfl)
  · have := CSl_no hs (t := x2) (by omega) q2
    rw [dsIter_step (by omega), if_pos this] at e
    exact ih (x1, x2 + 1) M' (by show (4 - (x2 + 1)).toNat < (4 - x2).toNat; omega) ⟨rfl, by show 0 ≤ x2 + 1 ∧ x2 + 1 ≤ 4; omega, by show 0 ≤ x1 ∧ x1 ≤ x2 + 1; omega, e⟩
  · have := CSl_at hs (t := x2) (by omega) q2
    rw [dsIter_step (by omega), if_neg (by omega)] at e
    exact ih (x1 + 1, x2 + 1) M' (by show (4 - (x2 + 1)).toNat < (4 - x2).toNat; omega) ⟨rfl, by show 0 ≤ x2 + 1 ∧ x2 + 1 ≤ 4; omega, by show 0 ≤ x1 + 1 ∧ x1 + 1 ≤ x2 + 1; omega, e⟩
theorem cq138 {M : dsMem} {W : dsW} {S : slT} {ts x : Int} (h : CI M W) (hs : CSl M S) (ht : M 1 0 = ts) : bCt 138 [uR 10 0, uI x] M (fun _ => [uI (aCnt W S ts x)]) (fun M' => M' = M) := by
  intro Q hQ
  have b := CI_b h
  have go : ∀ v, aCnt W S ts x = v → Q [uI v] M := fun v e => q_eq e.symm (hQ M rfl)
  refine r138n_0 (k1 := fun q => go _ (by subst q; show wY W = _; omega)) (k2 := fun q => go _ (by subst q; show wLw W = _; omega)) (k3 := fun q => go _ (by subst q; show wOd W = _; omega)) (k4 := fun q => go _ (by subst q; show wW W = _; omega)) (k5 := fun q => go _ (by subst q; show wN W = _; omega)) (k6 := fun q => go _ (by subst q; show evN (wR W) = _; omega)) (k7 := fun q => go _ (by subst q; show evN (wT W) = _; omega)) (k8 := fun q => go _ (by subst q; show evN (wA W) = _; omega)) (k9 := fun q => go _ (by subst q; show wLn W = _; omega)) (k10 := fun q => go _ (by subst q; show ts = _; omega)) (hA1 := fun q => cq155 hs) (k11 := fun q M1 r => ?_) (k12 := fun q => go _ ?_)
  · subst r; subst q; exact hQ M1 rfl
  · unfold aCnt
    rw [if_neg (by omega), if_neg (by omega), if_neg (by omega), if_neg (by omega), if_neg (by omega), if_neg (by omega), if_neg (by omega), if_neg (by omega), if_neg (by omega), if_neg (by omega), if_neg (by omega)]
theorem rq327 {M : dsMem} {W : dsW} {S : slT} {ts x : Int} (h : RI0 M W) (hs : RSl M S) (ht : M 84 5 = ts) : bCt 327 [uR 11 84, uI x, uX 0, uX 0] M (fun _ => [uI (aCnt W S ts x)]) (fun M' => M' = M) := by
  intro Q hQ
  have b := RI_b h
  have go : ∀ v, aCnt W S ts x = v → Q [uI v] M := fun v e => q_eq e.symm (hQ M rfl)
  refine r327_0 (s1 := fun _ _ _ i a i0 i1 => by omega) (s2 := fun _ _ _ i a i0 i1 => by omega) (k1 := fun q1 q2 q3 => go _ ?_) (k2 := fun q1 q2 q3 => go _ ?_) (k3 := fun q1 q2 => go _ (by subst q2; show ts = _; omega)) (s3 := fun q => by omega) (k4 := fun q => go _ ?_)
  · subst q3
    show cSl S = _
    unfold cSl
    refine Eq.symm (dsIter_congrI (fun j a => 0 ≤ a ∧ a ≤ j) 0 0 ⟨Int.le_refl _, Int.le_refl _⟩ (fun j a j0 j1 ha => ?_))
    by_cases hj : M 111 j = -1
    · rw [if_pos hj, if_pos (RSl_no hs (by omega) hj), dsw_id (by omega) (by omega)]; exact ⟨by omega, by omega, by omega⟩
    · have := RSl_at hs (t := j) (by omega) hj
      rw [if_neg hj, if_neg (by omega), dsw_id (by omega) (by omega)]; exact ⟨by omega, by omega, by omega⟩
  · unfold aCnt
    rw [if_neg (by omega), if_neg (by omega), if_neg (by omega), if_neg (by omega), if_neg (by omega), if_neg (by omega), if_neg (by omega), if_neg (by omega), if_neg (by omega), if_neg (by omega), if_neg (by omega)]
  · have hx : x = 0 ∨ x = 1 ∨ x = 2 ∨ x = 3 ∨ x = 4 ∨ x = 5 ∨ x = 6 ∨ x = 7 ∨ x = 8 := by omega
    rcases hx with e | e | e | e | e | e | e | e | e
    · subst e; show wY W = _; omega
    · subst e; show wLw W = _; omega
    · subst e; show wOd W = _; omega
    · subst e; show wW W = _; omega
    · subst e; show wN W = _; omega
    · subst e; show evN (wR W) = _; omega
    · subst e; show evN (wT W) = _; omega
    · subst e; show evN (wA W) = _; omega
    · subst e; show wLn W = _; omega
