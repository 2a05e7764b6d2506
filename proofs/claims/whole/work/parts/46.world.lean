/-! worlds: as told, on both sides; the years that belong to them -/
abbrev wEv := Int × (Int → Int) × (Int → Int) × (Int → Int) × (Int → Int)
abbrev evN (E : wEv) : Int := E.1
abbrev evK (E : wEv) : Int → Int := E.2.1
abbrev evO (E : wEv) : Int → Int := E.2.2.1
abbrev evM (E : wEv) : Int → Int := E.2.2.2.1
abbrev evY (E : wEv) : Int → Int := E.2.2.2.2
abbrev dsW := (Int × Int × Int × Int × Int × Int) × ((Int → Int) × (Int → Int)) × ((Int → Int) × (Int → Int) × (Int → Int)) × wEv × wEv × wEv
abbrev wLn (W : dsW) : Int := W.1.1
abbrev wY (W : dsW) : Int := W.1.2.1
abbrev wLw (W : dsW) : Int := W.1.2.2.1
abbrev wOd (W : dsW) : Int := W.1.2.2.2.1
abbrev wW (W : dsW) : Int := W.1.2.2.2.2.1
abbrev wN (W : dsW) : Int := W.1.2.2.2.2.2
abbrev wBe (W : dsW) : Int → Int := W.2.1.1
abbrev wGi (W : dsW) : Int → Int := W.2.1.2
abbrev wRo (W : dsW) : Int → Int := W.2.2.1.1
abbrev wWi (W : dsW) : Int → Int := W.2.2.1.2.1
abbrev wOn (W : dsW) : Int → Int := W.2.2.1.2.2
abbrev wR (W : dsW) : wEv := W.2.2.2.1
abbrev wT (W : dsW) : wEv := W.2.2.2.2.1
abbrev wA (W : dsW) : wEv := W.2.2.2.2.2
def CEv (M : dsMem) (a : Int) (E : wEv) : Prop := M a 0 = evN E ∧ ∀ i, 0 ≤ i → i < evN E → M (a + 1) i = evK E i ∧ M (a + 2) i = evO E i ∧ M (a + 3) i = evM E i ∧ M (a + 4) i = evY E i
def CWd (M : dsMem) (a : Int) (W : dsW) : Prop :=
  (M a 0 = wLn W ∧ M a 1 = wY W ∧ M a 2 = wLw W ∧ M a 3 = wOd W ∧ M a 4 = wW W ∧ M a 5 = wN W) ∧
  (∀ w, 0 ≤ w → w < wW W → M (a + 1) w = wBe W w ∧ M (a + 2) w = wGi W w) ∧
  (∀ s, 0 ≤ s → s < wN W → M (a + 3) s = wRo W s ∧ M (a + 4) s = wWi W s ∧ M (a + 5) s = wOn W s) ∧
  CEv M (a + 6) (wR W) ∧ CEv M (a + 11) (wT W) ∧ CEv M (a + 16) (wA W)
def C24 (M : dsMem) (W : dsW) : Prop :=
  (M 24 0 = wLn W ∧ M 24 1 = wY W ∧ M 24 2 = wLw W ∧ M 24 3 = wOd W ∧ M 24 4 = wW W ∧ M 24 5 = wN W) ∧
  (∀ w, 0 ≤ w → w < wW W → M 25 w = wBe W w ∧ M 26 w = wGi W w) ∧
  (∀ s, 0 ≤ s → s < wN W → M 27 s = wRo W s ∧ M 28 s = wWi W s ∧ M 29 s = wOn W s) ∧
  (M 30 0 = evN (wR W) ∧ ∀ i, 0 ≤ i → i < evN (wR W) → M 31 i = evK (wR W) i ∧ M 32 i = evO (wR W) i ∧ M 33 i = evM (wR W) i ∧ M 34 i = evY (wR W) i) ∧
  (M 35 0 = evN (wT W) ∧ ∀ i, 0 ≤ i → i < evN (wT W) → M 36 i = evK (wT W) i ∧ M 37 i = evO (wT W) i ∧ M 38 i = evM (wT W) i ∧ M 39 i = evY (wT W) i) ∧
  (M 40 0 = evN (wA W) ∧ ∀ i, 0 ≤ i → i < evN (wA W) → M 41 i = evK (wA W) i ∧ M 42 i = evO (wA W) i ∧ M 43 i = evM (wA W) i ∧ M 44 i = evY (wA W) i)
theorem C24_iff {M : dsMem} {W : dsW} : CWd M 24 W ↔ C24 M W := Iff.rfl
def actC (E : wEv) (i : Int) : Int := (if evK E i = 0 then 0 else 10000000) + 100000 * evM E i + 1000 * evO E i + evY E i
def RWd (f : Int → Int) (W : dsW) : Prop :=
  (f 0 = wY W ∧ f 1 = wLw W ∧ f 2 = wOd W ∧ f 3 = wW W ∧ f 4 = wN W ∧ f 5 = evN (wR W) ∧ f 6 = evN (wT W) ∧ f 7 = evN (wA W) ∧ f 8 = wLn W) ∧
  (∀ w, 0 ≤ w → w < wW W → f (9 + 2 * w) = wBe W w ∧ f (9 + 2 * w + 1) = wGi W w) ∧
  (∀ s, 0 ≤ s → s < wN W → f (15 + 3 * s) = wRo W s ∧ f (15 + 3 * s + 1) = wWi W s ∧ f (15 + 3 * s + 2) = wOn W s) ∧
  (∀ i, 0 ≤ i → i < evN (wR W) → f (33 + 3 * i) = evM (wR W) i ∧ f (33 + 3 * i + 1) = evO (wR W) i ∧ f (33 + 3 * i + 2) = evY (wR W) i) ∧
  (∀ i, 0 ≤ i → i < evN (wT W) → f (57 + 3 * i) = evO (wT W) i ∧ f (57 + 3 * i + 1) = evM (wT W) i ∧ f (57 + 3 * i + 2) = evY (wT W) i) ∧
  (∀ i, 0 ≤ i → i < evN (wA W) → f (75 + i) = actC (wA W) i)
def WOK (W : dsW) : Prop :=
  (0 ≤ wLn W ∧ wLn W ≤ 1000 ∧ 0 ≤ wY W ∧ wY W ≤ 12 ∧ 0 ≤ wLw W ∧ wLw W ≤ 3 ∧ 0 ≤ wOd W ∧ wOd W ≤ 10 ∧ 0 ≤ wW W ∧ wW W ≤ 3 ∧ 0 ≤ wN W ∧ wN W ≤ 6 ∧
    0 ≤ evN (wR W) ∧ evN (wR W) ≤ 8 ∧ 0 ≤ evN (wT W) ∧ evN (wT W) ≤ 6 ∧ 0 ≤ evN (wA W) ∧ evN (wA W) ≤ 30 ∧
    (wLn W = 0 → wY W = 0 ∧ wW W = 0 ∧ wN W = 0 ∧ evN (wR W) = 0 ∧ evN (wT W) = 0 ∧ evN (wA W) = 0) ∧ (0 < wLn W → 1 ≤ wY W)) ∧
  (∀ w, 0 ≤ w → w < wW W → 0 ≤ wBe W w ∧ wBe W w ≤ 300 ∧ 1 ≤ wGi W w ∧ wGi W w ≤ 60) ∧
  (∀ s, 0 ≤ s → s < wN W → 1 ≤ wRo W s ∧ wRo W s ≤ 60 ∧ 1 ≤ wWi W s ∧ wWi W s ≤ 4 ∧ 0 ≤ wOn W s ∧ wOn W s < wW W) ∧
  (∀ i, 0 ≤ i → i < evN (wR W) → 1 ≤ evO (wR W) i ∧ evO (wR W) i ≤ 5 ∧ 1 ≤ evM (wR W) i ∧ evM (wR W) i ≤ 20 ∧ 0 ≤ evY (wR W) i ∧ evY (wR W) i ≤ 11) ∧
  (∀ i, 0 ≤ i → i < evN (wT W) → 0 ≤ evO (wT W) i ∧ evO (wT W) i < wN W ∧ 1 ≤ evM (wT W) i ∧ evM (wT W) i ≤ 60 ∧ 0 ≤ evY (wT W) i ∧ evY (wT W) i ≤ 11) ∧
  (∀ i, 0 ≤ i → i < evN (wA W) → (0 ≤ evY (wA W) i ∧ evY (wA W) i < 12) ∧ ((evK (wA W) i = 0 ∧ 1 ≤ evO (wA W) i ∧ evO (wA W) i ≤ 5 ∧ 1 ≤ evM (wA W) i ∧ evM (wA W) i ≤ 20) ∨ (evK (wA W) i = 1 ∧ 0 ≤ evO (wA W) i ∧ evO (wA W) i < wN W ∧ 1 ≤ evM (wA W) i ∧ evM (wA W) i ≤ 60)))
def wEf (E A : wEv) (kd : Int) (c : Int → Bool) : Int → Int → Option (Int × Int) := fun y i =>
  if 0 ≤ i ∧ i < evN E then (if c i = true ∧ evY E i = y then some (evO E i, evM E i) else none)
  else if evN E ≤ i ∧ i < evN E + evN A then (if evK A (i - evN E) = kd ∧ evY A (i - evN E) = y then some (evO A (i - evN E), evM A (i - evN E)) else none)
  else none
def mkP (W : dsW) (law : Int) (room bears : Int → Int) (al rs ts : Int → Bool) (sv : Int → Int → Bool) : dsP :=
  (wN W, wW W, wY W, law, room, wWi W, wOn W, bears, wGi W, al, (evN (wR W) + evN (wA W), wEf (wR W) (wA W) 0 rs), (evN (wT W) + evN (wA W), wEf (wT W) (wA W) 1 ts), sv)
theorem wEf_in {E A : wEv} {kd : Int} {c : Int → Bool} {y i : Int} {q : Int × Int} (h : wEf E A kd c y i = some q) :
    (0 ≤ i ∧ i < evN E ∧ evY E i = y ∧ q = (evO E i, evM E i)) ∨ (0 ≤ i - evN E ∧ i - evN E < evN A ∧ evK A (i - evN E) = kd ∧ q = (evO A (i - evN E), evM A (i - evN E))) := by
  unfold wEf at h
  split at h
  · rename_i hi
    split at h
    · rename_i hc
      cases h
      exact Or.inl ⟨hi.1, hi.2, hc.2, rfl⟩
    · cases h
  · split at h
    · rename_i hi
      split at h
      · rename_i hc
        cases h
        exact Or.inr ⟨by omega, by omega, hc.1, rfl⟩
      · cases h
    · cases h
theorem POK_mk {W : dsW} {law : Int} {room bears : Int → Int} {al rs ts : Int → Bool} {sv : Int → Int → Bool} (hW : WOK W) (hr : ∀ s, 0 ≤ s → s < wN W → 0 ≤ room s ∧ room s ≤ 60) (hb : ∀ w, 0 ≤ w → w < wW W → 0 ≤ bears w ∧ bears w ≤ 300) : POK (mkP W law room bears al rs ts sv) := by
  obtain ⟨a, b, c, d, e, f⟩ := hW
  refine ⟨⟨by show 0 ≤ wN W; omega, by show wN W ≤ 6; omega, by show 0 ≤ wW W; omega, by show wW W ≤ 3; omega, by show 0 ≤ wY W; omega, by show wY W ≤ 12; omega⟩, ?_, ?_, ?_, ?_⟩
  · intro s s0 s1
    have := c s s0 s1
    have := hr s s0 s1
    exact ⟨by show 0 ≤ room s; omega, by show room s ≤ 60; omega, by show 1 ≤ wWi W s; omega, by show wWi W s ≤ 4; omega, by show 0 ≤ wOn W s; omega, by show wOn W s < wW W; omega⟩
  · intro w w0 w1
    have := b w w0 w1
    have := hb w w0 w1
    exact ⟨by show 0 ≤ wGi W w; omega, by show 0 ≤ bears w; omega, by show bears w ≤ 300; omega⟩
  · intro y i q hq
    rcases wEf_in hq with ⟨h1, h2, h3, h4⟩ | ⟨h1, h2, h3, h4⟩
    · have := d i h1 h2
      subst h4
      exact ⟨this.1, this.2.1, this.2.2.1, this.2.2.2.1⟩
    · have := f _ h1 h2
      subst h4
      rcases this.2 with g | g
      · exact g.2
      · omega
  · intro y i q hq
    rcases wEf_in hq with ⟨h1, h2, h3, h4⟩ | ⟨h1, h2, h3, h4⟩
    · have := e i h1 h2
      subst h4
      exact ⟨this.1, this.2.1, this.2.2.1, this.2.2.2.1⟩
    · have := f _ h1 h2
      subst h4
      rcases this.2 with g | g
      · omega
      · exact g.2
theorem wEf_1 {E A : wEv} {kd : Int} {c : Int → Bool} {y i : Int} (h0 : 0 ≤ i) (h1 : i < evN E) : wEf E A kd c y i = if c i = true ∧ evY E i = y then some (evO E i, evM E i) else none := by
  unfold wEf; rw [if_pos ⟨h0, h1⟩]
theorem wEf_2 {E A : wEv} {kd : Int} {c : Int → Bool} {y i : Int} (h0 : 0 ≤ i) (h1 : i < evN A) : wEf E A kd c y (evN E + i) = if evK A i = kd ∧ evY A i = y then some (evO A i, evM A i) else none := by
  unfold wEf; rw [if_neg (by omega), if_pos (by omega), show evN E + i - evN E = i by omega]
theorem if_iff {α : Type} {p q : Prop} [Decidable p] [Decidable q] {a b : α} (h : p ↔ q) : (if p then a else b) = if q then a else b := by
  by_cases hp : p
  · rw [if_pos hp, if_pos (h.1 hp)]
  · rw [if_neg hp, if_neg (fun hq => hp (h.2 hq))]
/-- the class's side of a run -/
theorem CP_mk {M : dsMem} {x0 : Int} {W : dsW} {law : Int} {room bears : Int → Int} {al rs ts : Int → Bool} {sv : Int → Int → Bool} (hK : WOK W) (h : C24 M W)
    (hl : (if M (x0 + 1) 0 = -1 then wLw W else M (x0 + 1) 0) = law)
    (hr : ∀ s, 0 ≤ s → s < wN W → (if dsBit (M (x0 + 1) 3) s then 0 else if s = M (x0 + 1) 5 then M (x0 + 1) 6 else wRo W s) = room s)
    (ha : ∀ s, 0 ≤ s → s < wN W → (dsBit (M (x0 + 1) 4) s ↔ al s = true))
    (hb : ∀ w, 0 ≤ w → w < wW W → (if w = M (x0 + 1) 7 then M (x0 + 1) 8 else wBe W w) = bears w)
    (hrs : ∀ i, 0 ≤ i → i < evN (wR W) → (dsBit (M (x0 + 1) 1) i ↔ rs i = true)) (hts : ∀ i, 0 ≤ i → i < evN (wT W) → (dsBit (M (x0 + 1) 2) i ↔ ts i = true)) :
    CWp M x0 (mkP W law room bears al rs ts sv) ∧ CE M x0 (mkP W law room bears al rs ts sv) := by
  obtain ⟨a, b, c, d, e, f⟩ := h
  have k := hK.1
  refine ⟨⟨⟨a.2.2.2.2.2, a.2.2.2.2.1, a.2.1, ?_⟩, ?_, ?_⟩, ?_, ?_, ?_, ?_, ?_, ?_, ?_⟩
  · rw [a.2.2.1]; exact hl
  · intro s s0 s1
    have := c s s0 s1
    exact ⟨by rw [this.1]; exact hr s s0 s1, this.2.1, this.2.2, ha s s0 s1⟩
  · intro w w0 w1
    have := b w w0 w1
    exact ⟨this.2, by rw [this.1]; exact hb w w0 w1⟩
  · rw [d.1, e.1, f.1]; omega
  · rw [d.1, f.1]; rfl
  · rw [e.1, f.1]; rfl
  · intro y i i0 i1
    rw [d.1] at i1
    have := d.2 i i0 i1
    refine (wEf_1 i0 i1).trans ?_
    rw [this.2.1, this.2.2.1, this.2.2.2]
    exact if_iff ⟨fun q => ⟨(hrs i i0 i1).2 q.1, q.2⟩, fun q => ⟨(hrs i i0 i1).1 q.1, q.2⟩⟩
  · intro y i i0 i1
    rw [d.1] at i0 i1 ⊢
    rw [f.1] at i1
    have := f.2 (i - evN (wR W)) (by omega) (by omega)
    have e2 := wEf_2 (E := wR W) (A := wA W) (kd := 0) (c := rs) (y := y) (i := i - evN (wR W)) (by omega) (by omega)
    rw [show evN (wR W) + (i - evN (wR W)) = i by omega] at e2
    refine e2.trans ?_
    rw [this.1, this.2.1, this.2.2.1, this.2.2.2]
  · intro y i i0 i1
    rw [e.1] at i1
    have := e.2 i i0 i1
    refine (wEf_1 i0 i1).trans ?_
    rw [this.2.1, this.2.2.1, this.2.2.2]
    exact if_iff ⟨fun q => ⟨(hts i i0 i1).2 q.1, q.2⟩, fun q => ⟨(hts i i0 i1).1 q.1, q.2⟩⟩
  · intro y i i0 i1
    rw [e.1] at i0 i1 ⊢
    rw [f.1] at i1
    have := f.2 (i - evN (wT W)) (by omega) (by omega)
    have e2 := wEf_2 (E := wT W) (A := wA W) (kd := 1) (c := ts) (y := y) (i := i - evN (wT W)) (by omega) (by omega)
    rw [show evN (wT W) + (i - evN (wT W)) = i by omega] at e2
    refine e2.trans ?_
    rw [this.1, this.2.1, this.2.2.1, this.2.2.2]
theorem actC_0 {E : wEv} {i : Int} {n : Int} (hn : n ≤ 6) (h : (0 ≤ evY E i ∧ evY E i < 12) ∧ ((evK E i = 0 ∧ 1 ≤ evO E i ∧ evO E i ≤ 5 ∧ 1 ≤ evM E i ∧ evM E i ≤ 20) ∨ (evK E i = 1 ∧ 0 ≤ evO E i ∧ evO E i < n ∧ 1 ≤ evM E i ∧ evM E i ≤ 60))) :
    (0 ≤ actC E i ∧ actC E i < 100000000) ∧ (evK E i = 0 → actC E i < 10000000 ∧ actC E i % 1000 = evY E i ∧ actC E i / 1000 % 100 = evO E i ∧ actC E i / 100000 = evM E i) ∧
    (evK E i = 1 → 10000000 ≤ actC E i ∧ (actC E i - 10000000) % 1000 = evY E i ∧ (actC E i - 10000000) / 1000 % 100 = evO E i ∧ (actC E i - 10000000) / 100000 = evM E i) := by
  unfold actC
  rcases h with ⟨h1, h2 | h2⟩
  · rw [if_pos h2.1]
    refine ⟨by omega, fun _ => ?_, fun q => by omega⟩
    refine ⟨by omega, by omega, by omega, by omega⟩
  · rw [if_neg (by omega)]
    refine ⟨by omega, fun q => by omega, fun _ => ?_⟩
    refine ⟨by omega, by omega, by omega, by omega⟩
/-- the other side's of it -/
theorem RP_mk {M : dsMem} {W : dsW} {law : Int} {room bears : Int → Int} {al rs ts : Int → Bool} {sv : Int → Int → Bool} (hK : WOK W) (h : RWd (M 85) W)
    (hl : M 84 17 = law)
    (hr : ∀ s, 0 ≤ s → s < wN W → (if dsAnd (dsShr (M 84 21) s) 1 = 1 then 0 else M 91 s) = room s ∧ 0 ≤ M 91 s ∧ M 91 s ≤ 60)
    (ha : ∀ s, 0 ≤ s → s < wN W → (¬ dsAnd (dsShr (M 84 20) s) 1 = 0 ↔ al s = true))
    (hb : ∀ w, 0 ≤ w → w < wW W → M 92 w = bears w)
    (hrs : ∀ i, 0 ≤ i → i < evN (wR W) → (dsBit (M 84 18) i ↔ rs i = true)) (hts : ∀ i, 0 ≤ i → i < evN (wT W) → (dsBit (M 84 19) i ↔ ts i = true))
    (hsv : ∀ y s, 0 ≤ y → 0 ≤ s → s < wN W → (sv y s = true ↔ y = M 84 23 ∧ dsBit (M 84 22) s)) :
    RW M (mkP W law room bears al rs ts sv) ∧ REv M (mkP W law room bears al rs ts sv) := by
  obtain ⟨a, b, c, d, e, f⟩ := h
  have k := hK.1
  have ka := hK.2.2.2.2.2
  refine ⟨⟨⟨a.2.2.2.2.1, a.2.2.2.1, a.1, hl⟩, ?_, ?_⟩, ?_, ?_, ?_, ?_, ?_, ?_, ?_, ?_, ?_⟩
  · intro s s0 s1
    have := c s s0 s1
    have h2 := hr s s0 s1
    exact ⟨h2.1, this.2.1, this.2.2, ha s s0 s1, h2.2⟩
  · intro w w0 w1
    exact ⟨(b w w0 w1).2, hb w w0 w1⟩
  · rw [a.2.2.2.2.2.1, a.2.2.2.2.2.2.1, a.2.2.2.2.2.2.2.1]; omega
  · rw [a.2.2.2.2.2.1, a.2.2.2.2.2.2.2.1]; rfl
  · rw [a.2.2.2.2.2.2.1, a.2.2.2.2.2.2.2.1]; rfl
  · intro y i i0 i1
    rw [a.2.2.2.2.2.1] at i1
    have := d i i0 i1
    refine (wEf_1 i0 i1).trans ?_
    rw [this.1, this.2.1, this.2.2]
    exact if_iff ⟨fun q => ⟨(hrs i i0 i1).2 q.1, q.2⟩, fun q => ⟨(hrs i i0 i1).1 q.1, q.2⟩⟩
  · intro y i i0 i1
    rw [a.2.2.2.2.2.2.2.1] at i1
    rw [a.2.2.2.2.2.1]
    have := f i i0 i1
    have q := ka i i0 i1
    have z := actC_0 (by omega) q
    refine (wEf_2 i0 i1).trans ?_
    rw [this]
    rcases q.2 with q1 | q1
    · have z1 := z.2.1 q1.1
      rw [z1.2.1, z1.2.2.1, z1.2.2.2]
      exact if_iff ⟨fun q => ⟨z1.1, q.2⟩, fun q => ⟨q1.1, q.2⟩⟩
    · have z1 := z.2.2 q1.1
      rw [if_neg (by omega), if_neg (by omega)]
  · intro y i i0 i1
    rw [a.2.2.2.2.2.2.1] at i1
    have := e i i0 i1
    refine (wEf_1 i0 i1).trans ?_
    rw [this.1, this.2.1, this.2.2]
    exact if_iff ⟨fun q => ⟨(hts i i0 i1).2 q.1, q.2⟩, fun q => ⟨(hts i i0 i1).1 q.1, q.2⟩⟩
  · intro y i i0 i1
    rw [a.2.2.2.2.2.2.2.1] at i1
    rw [a.2.2.2.2.2.2.1]
    have := f i i0 i1
    have q := ka i i0 i1
    have z := actC_0 (by omega) q
    refine (wEf_2 i0 i1).trans ?_
    rw [this]
    rcases q.2 with q1 | q1
    · have z1 := z.2.1 q1.1
      rw [if_neg (by omega), if_neg (by omega)]
    · have z1 := z.2.2 q1.1
      rw [z1.2.1, z1.2.2.1, z1.2.2.2]
      exact if_iff ⟨fun q => ⟨z1.1, q.2⟩, fun q => ⟨q1.1, q.2⟩⟩
  · intro i i0 i1
    rw [a.2.2.2.2.2.2.2.1] at i1
    rw [f i i0 i1]
    exact (actC_0 (by omega) (ka i i0 i1)).1
  · intro y s y0 s0 s1
    exact hsv y s y0 s0 s1
