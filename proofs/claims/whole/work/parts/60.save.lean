/-! a set of stones lets out all in one year -/
def setSv (P : dsP) (g : Int → Int → Bool) : dsP := (P.1, P.2.1, P.2.2.1, P.2.2.2.1, P.2.2.2.2.1, P.2.2.2.2.2.1, P.2.2.2.2.2.2.1, P.2.2.2.2.2.2.2.1, P.2.2.2.2.2.2.2.2.1, P.2.2.2.2.2.2.2.2.2.1, P.2.2.2.2.2.2.2.2.2.2.1, P.2.2.2.2.2.2.2.2.2.2.2.1, g)
theorem drkN_sv (P : dsP) (g : Int → Int → Bool) (first k : Int) : ∀ (j : Nat) (s : Int) (S : dsS) (r : Int), dsDrkN (setSv P g) first k j s S r = dsDrkN P first k j s S r
  | 0, _, _, _ => rfl
  | j + 1, s, S, r => by
    rw [dsDrkN, dsDrkN, drkN_sv P g first k j, drkN_sv P g first k j]
    rfl
theorem rains_sv (P : dsP) (g : Int → Int → Bool) (y : Int) (S : dsS) : dsRains (setSv P g) y S = dsRains P y S := by
  unfold dsRains
  refine dsIter_congr _ _ (fun j b j0 j1 => ?_)
  show (match pRf P y j with | some q => dsRain (setSv P g) q.1 q.2 b | none => b) = _
  cases pRf P y j with
  | none => rfl
  | some q =>
    show dsRain (setSv P g) q.1 q.2 b = dsRain P q.1 q.2 b
    unfold dsRain
    refine dsIter_congr _ _ (fun j b _ _ => ?_)
    unfold dsDrink
    rw [drkN_sv]; rfl
/-- the layers, how far sunk, which stand: the same -/
def eqc (S T : dsS) : Prop := sL S = sL T ∧ sK S = sK T ∧ sU S = sU T
theorem eqc_refl (S : dsS) : eqc S S := ⟨rfl, rfl, rfl⟩
theorem pour_c {P : dsP} {S T : dsS} {s k n : Int} (h : eqc S T) : eqc (dsPour P S s k n).1 (dsPour P T s k n).1 ∧ (dsPour P S s k n).2 = (dsPour P T s k n).2 := by
  obtain ⟨h1, h2, h3⟩ := h
  have e1 : dsPour P S s k n = if dsGoes P (sL T s) s n ≤ 0 then (S, n) else (dsPourS P S s k n, n - dsGoes P (sL T s) s n) := by rw [← h1]; rfl
  have e2 : dsPour P T s k n = if dsGoes P (sL T s) s n ≤ 0 then (T, n) else (dsPourS P T s k n, n - dsGoes P (sL T s) s n) := rfl
  rw [e1, e2]
  split
  · exact ⟨⟨h1, h2, h3⟩, rfl⟩
  · refine ⟨⟨?_, h2, h3⟩, rfl⟩
    show dsUpd (sL S) s (dyLay (dyDr (sL S s) (dsOver P (sL S s) s n)) k (dsGoes P (sL S s) s n)) = dsUpd (sL T) s (dyLay (dyDr (sL T s) (dsOver P (sL T s) s n)) k (dsGoes P (sL T s) s n))
    rw [h1]
theorem drkN_c {P : dsP} {first k : Int} : ∀ (j : Nat) (s : Int) (S T : dsS) (r : Int), eqc S T → eqc (dsDrkN P first k j s S r).1 (dsDrkN P first k j s T r).1
  | 0, _, _, _, _, h => h
  | j + 1, s, S, T, r, h => by
    rw [dsDrkN, dsDrkN]
    by_cases hr : r ≤ 0
    · rw [if_pos hr, if_pos hr]; exact h
    · rw [if_neg hr, if_neg hr]
      by_cases hc : s = first ∨ dsComes P first s
      · rw [if_pos hc, if_pos hc]
        by_cases hb : dsBit (sU T) (pOn P s) ∧ pAl P s = true
        · rw [if_pos (show dsBit (sU S) (pOn P s) ∧ pAl P s = true by rw [h.2.2]; exact hb), if_pos hb]
          have hp := pour_c (P := P) (s := s) (k := k) (n := r) h
          rw [hp.2]
          exact drkN_c j _ _ _ _ hp.1
        · rw [if_neg (show ¬ (dsBit (sU S) (pOn P s) ∧ pAl P s = true) by rw [h.2.2]; exact hb), if_neg hb]; exact h
      · rw [if_neg hc, if_neg hc]
        exact drkN_c j _ _ _ _ h
theorem rains_c {P : dsP} {y : Int} {S T : dsS} (h : eqc S T) : eqc (dsRains P y S) (dsRains P y T) := by
  unfold dsRains
  refine dsIter_rel eqc 0 S T h (fun j a b _ _ hab => ?_)
  cases pRf P y j with
  | none => exact hab
  | some q =>
    show eqc (dsRain P q.1 q.2 a) (dsRain P q.1 q.2 b)
    unfold dsRain
    refine dsIter_rel eqc 0 a b hab (fun j a b _ _ hab => ?_)
    have := drkN_c (P := P) (first := j) (k := q.1) (pN P - j).toNat j a b (q.2 * pWide P j) hab
    exact this
theorem taps_c {P : dsP} {y : Int} {S T : dsS} (h : eqc S T) : eqc (dsTaps P y S) (dsTaps P y T) := by
  unfold dsTaps
  refine dsIter_rel eqc 0 S T h (fun j a b _ _ hab => ?_)
  cases pTf P y j with
  | none => exact hab
  | some q =>
    refine ⟨?_, hab.2.1, hab.2.2⟩
    show dsUpd (sL a) q.1 (dyDr (sL a q.1) q.2) = dsUpd (sL b) q.1 (dyDr (sL b q.1) q.2)
    rw [hab.1]
theorem empty_c {S T : dsS} {s n m : Int} (h : eqc S T) : eqc (dsEmpty S s n) (dsEmpty T s m) := by
  refine ⟨?_, h.2.1, h.2.2⟩
  show dsUpd (sL S) s [] = dsUpd (sL T) s []
  rw [h.1]
theorem save_c {P : dsP} {y : Int} {S T : dsS} (h : eqc S T) : eqc (dsSave P y S) (dsSave P y T) := by
  unfold dsSave
  refine dsIter_rel eqc 0 S T h (fun j a b _ _ hab => ?_)
  show eqc (if pSv P y j = true then dsEmpty a j 0 else a) (if pSv P y j = true then dsEmpty b j 0 else b)
  split
  · exact empty_c hab
  · exact hab
theorem fell_c {P : dsP} {w : Int} {S T : dsS} (h : eqc S T) : eqc (dsFell P w S) (dsFell P w T) := by
  unfold dsFell
  refine dsIter_rel eqc 0 _ _ ⟨h.1, h.2.1, ?_⟩ (fun j a b _ _ hab => ?_)
  · show dsAnd (sU S) _ = dsAnd (sU T) _
    rw [h.2.2]
  · show eqc (if pOn P j = w then dsEmpty a j (dySum (sL a j)) else a) (if pOn P j = w then dsEmpty b j (dySum (sL b j)) else b)
    split
    · exact empty_c hab
    · exact hab
theorem sink_c {P : dsP} {w : Int} {S T : dsS} (h : eqc S T) : eqc (dsSink P w S) (dsSink P w T) := by
  have el : dsLoad P S w = dsLoad P T w := by unfold dsLoad; rw [h.1]
  have hs : ∀ n, eqc (dsSunk S w n) (dsSunk T w n) := fun n => by
    refine ⟨h.1, ?_, h.2.2⟩
    show dsUpd (sK S) w (sK S w + n) = dsUpd (sK T) w (sK T w + n)
    rw [h.2.1]
  unfold dsSink
  rw [el, h.2.2, h.2.1]
  split
  · split
    · exact hs _
    · exact fell_c (hs _)
  · exact h
theorem year_c {P : dsP} {y : Int} {S T : dsS} (h : eqc S T) : eqc (dsYear P y S) (dsYear P y T) := by
  unfold dsYear dsSinks
  exact dsIter_rel eqc 0 _ _ (taps_c (rains_c (save_c (show eqc (dyNew S) (dyNew T) from h)))) (fun j a b _ _ hab => sink_c hab)
theorem stN_c {P : dsP} {y : Int} {S T : dsS} (h : eqc S T) : ∀ k : Nat, eqc (dsStN P S y k) (dsStN P T y k)
  | 0 => h
  | k + 1 => year_c (stN_c h k)
/-- walls that stand later stood before -/
theorem year_le {P : dsP} (hP : POK P) {y : Int} {S : dsS} (h : UB P S) : UB P (dsYear P y S) ∧ sU (dsYear P y S) ≤ sU S := by
  have hp := hP.1
  have hw := @shl_w (pW P) (by omega)
  have h0 : sU (dsTaps P y (dsRains P y (dsSave P y (dyNew S)))) = sU S := by rw [taps_U, rains_U, save_U]; rfl
  have key := dsIter_all (fun T : dsS => UB P T ∧ sU T ≤ sU S) (f := fun w S => dsSink P w S) (n := pW P) 0 (dsTaps P y (dsRains P y (dsSave P y (dyNew S)))) ⟨by unfold UB at h ⊢; rw [h0]; exact h, by rw [h0]; exact Int.le_refl _⟩ (fun j b j0 j1 hb => by
    refine ⟨sink_U hP ⟨j0, j1⟩ hb.1, ?_⟩
    have hU := hb.1
    unfold UB at hU
    show sU (dsSink P j b) ≤ sU S
    unfold dsSink
    split
    · split
      · exact hb.2
      · rw [fell_U]
        have := @down_b (sU b) j (by omega) (by omega)
        exact Int.le_trans this.2 hb.2
    · exact hb.2)
  exact key
theorem stN_le {P : dsP} (hP : POK P) {y : Int} {S : dsS} (h : UB P S) : ∀ k : Nat, UB P (dsStN P S y k) ∧ sU (dsStN P S y k) ≤ sU S
  | 0 => ⟨h, Int.le_refl _⟩
  | k + 1 => by
    have ih := stN_le hP (y := y) h k
    have := year_le hP (y := y + k) ih.1
    exact ⟨this.1, Int.le_trans this.2 ih.2⟩
theorem stN_add (P : dsP) (S : dsS) (y : Int) (i : Nat) : ∀ k : Nat, dsStN P S y (i + k) = dsStN P (dsStN P S y i) (y + i) k
  | 0 => rfl
  | k + 1 => by
    show dsYear P (y + ((i + k : Nat) : Int)) (dsStN P S y (i + k)) = dsYear P (y + i + k) (dsStN P (dsStN P S y i) (y + i) k)
    rw [stN_add P S y i k, show y + ((i + k : Nat) : Int) = y + i + k by omega]
-- the runs
theorem taps_sv (P : dsP) (g : Int → Int → Bool) (y : Int) (S : dsS) : dsTaps (setSv P g) y S = dsTaps P y S := rfl
theorem sink_sv (P : dsP) (g : Int → Int → Bool) (w : Int) (S : dsS) : dsSink (setSv P g) w S = dsSink P w S := rfl
theorem sinks_sv (P : dsP) (g : Int → Int → Bool) (S : dsS) : dsSinks (setSv P g) S = dsSinks P S := by
  unfold dsSinks
  exact dsIter_congr _ _ (fun j b _ _ => sink_sv P g j b)
theorem init_sv (P : dsP) (g : Int → Int → Bool) : dyInit (setSv P g) = dyInit P := rfl
theorem year_sv (P : dsP) (g : Int → Int → Bool) (y : Int) (S : dsS) : dsYear (setSv P g) y S = dsSinks P (dsTaps P y (dsRains P y (dsSave (setSv P g) y (dyNew S)))) := by
  unfold dsYear
  rw [sinks_sv, taps_sv, rains_sv]
theorem stN_s (P : dsP) (S : dsS) (y : Int) (k : Nat) : dsStN P S y (k + 1) = dsYear P (y + k) (dsStN P S y k) := rfl
def svG (y set : Int) : Int → Int → Bool := fun y' s => decide (y' = y ∧ dsBit set s)
theorem gS_year {P : dsP} (h0 : ∀ y s, pSv P y s = false) {y set y' : Int} (h : ¬ y' = y) (S : dsS) : dsYear (setSv P (svG y set)) y' S = dsYear P y' S := by
  have e1 : dsSave (setSv P (svG y set)) y' (dyNew S) = dyNew S := save_no2 (fun s _ _ => decide_eq_false (fun q => h q.1)) _
  have e2 : dsSave P y' (dyNew S) = dyNew S := save_no (fun s => h0 y' s)
  rw [year_sv, e1]
  unfold dsYear
  rw [e2]
theorem gS_before {P : dsP} (h0 : ∀ y s, pSv P y s = false) {y set : Int} : ∀ k : Nat, (k : Int) ≤ y → dsStN (setSv P (svG y set)) (dyInit P) 0 k = dsStN P (dyInit P) 0 k := by
  intro k
  induction k with
  | zero => intro _; rfl
  | succ k ih =>
    intro h
    rw [stN_s, stN_s, ih (by omega), gS_year h0 (by omega)]
def gsS (P : dsP) (y set : Int) : dsS := dsSave (setSv P (svG y set)) y (stP P y)
theorem gS_after {P : dsP} (h0 : ∀ y s, pSv P y s = false) {y set : Int} (hy : 0 ≤ y) : ∀ k : Nat, eqc (dsStN (setSv P (svG y set)) (dyInit P) 0 (y.toNat + (k + 1))) (dsStN P (gsS P y set) y (k + 1)) := by
  intro k
  induction k with
  | zero =>
    rw [show y.toNat + (0 + 1) = y.toNat + 1 by omega, stN_s, stN_s, gS_before h0 y.toNat (by omega), show (0 : Int) + ((y.toNat : Nat) : Int) = y by omega, show y + ((0 : Nat) : Int) = y by omega]
    have e4 : dsStN P (dyInit P) 0 y.toNat = stP P y := rfl
    have e5 : dsStN P (gsS P y set) y 0 = gsS P y set := rfl
    rw [e4, e5, year_sv]
    unfold dsYear
    rw [save_no (fun s => h0 y s)]
    unfold dsSinks
    refine dsIter_rel eqc 0 _ _ (taps_c (rains_c ?_)) (fun j a b _ _ hab => sink_c hab)
    have h1 : eqc (dsSave (setSv P (svG y set)) y (dyNew (stP P y))) (gsS P y set) := save_c (show eqc (dyNew (stP P y)) (stP P y) from eqc_refl _)
    exact h1
  | succ k ih =>
    rw [show y.toNat + (k + 1 + 1) = (y.toNat + (k + 1)) + 1 by omega, stN_s, stN_s P _ y (k + 1), show (0 : Int) + ((y.toNat + (k + 1) : Nat) : Int) = y + ((k + 1 : Nat) : Int) by omega, gS_year h0 (by omega)]
    exact year_c ih
def PS (W : dsW) (y set : Int) : dsP := mkP W (wLw W) (wRo W) (wBe W) (fun _ => true) (fun _ => true) (fun _ => true) (svG y set)
theorem PS_ok {W : dsW} {y set : Int} (h : WOK W) : POK (PS W y set) := by
  refine POK_mk h (fun s s0 s1 => ?_) (fun w w0 w1 => ?_)
  · have := h.2.2.1 s s0 s1; omega
  · have := h.2.1 w w0 w1; omega
theorem PS_sv (W : dsW) (y set : Int) : PS W y set = setSv (P0 W) (svG y set) := rfl
theorem P0_sv (W : dsW) : ∀ y s, pSv (P0 W) y s = false := fun _ _ => rfl
theorem PS_before {W : dsW} {y set : Int} (k : Nat) (h : (k : Int) ≤ y) : dsStN (PS W y set) (dyInit (PS W y set)) 0 k = dsStN (P0 W) (dyInit (P0 W)) 0 k := by
  rw [PS_sv, init_sv]; exact gS_before (P0_sv W) k h
/-- the year laid with a set let out -/
def svS (W : dsW) (y set : Int) : dsS := dsSave (PS W y set) y (stP (P0 W) y)
theorem PS_after {W : dsW} {y set : Int} (hy : 0 ≤ y) (k : Nat) : eqc (dsStN (PS W y set) (dyInit (PS W y set)) 0 (y.toNat + (k + 1))) (dsStN (P0 W) (svS W y set) y (k + 1)) := by
  unfold svS
  rw [PS_sv, init_sv]; exact gS_after (P0_sv W) hy k
abbrev gSv (W : dsW) (y set : Int) : Prop := sU (stP (PS W y set) (wY W)) = dsShl 1 (wW W) - 1
theorem svS_L {W : dsW} {y set s : Int} (hs : 0 ≤ s ∧ s < wN W) : sL (svS W y set) s = (if dsBit set s then [] else sL (stP (P0 W) y) s) ∧ sK (svS W y set) = sK (stP (P0 W) y) ∧ sU (svS W y set) = sU (stP (P0 W) y) := by
  refine ⟨?_, ?_, save_U _⟩
  · have key : ∀ n : Nat, (n : Int) ≤ wN W → ∀ t, (sL (dsIter (fun s S => if pSv (PS W y set) y s = true then dsEmpty S s 0 else S) 0 (n : Int) (stP (P0 W) y)) t = if 0 ≤ t ∧ t < (n : Int) ∧ dsBit set t then [] else sL (stP (P0 W) y) t) := by
      intro n
      induction n with
      | zero =>
        intro _ t
        rw [dsIter_end (by omega), if_neg (by omega)]
      | succ n ih =>
        intro hn t
        have ih := ih (by omega)
        rw [show ((n + 1 : Nat) : Int) = (n : Int) + 1 by omega, iter_last (by omega)]
        have epv : (pSv (PS W y set) y (n : Int) = true) ↔ dsBit set n := ⟨fun q => (of_decide_eq_true q).2, fun q => decide_eq_true ⟨rfl, q⟩⟩
        by_cases hb : dsBit set (n : Int)
        · rw [if_pos (epv.2 hb)]
          show dsUpd (sL _) (n : Int) [] t = _
          by_cases ht : t = n
          · subst ht; rw [dsUpd_eq, if_pos ⟨by omega, by omega, hb⟩]
          · rw [dsUpd_ne ht, ih t]; exact if_iff ⟨fun q => ⟨q.1, by omega, q.2.2⟩, fun q => ⟨q.1, by omega, q.2.2⟩⟩
        · rw [if_neg (fun q => hb (epv.1 q)), ih t]
          refine if_iff ⟨fun q => ⟨q.1, by omega, q.2.2⟩, fun q => ⟨q.1, ?_, q.2.2⟩⟩
          by_cases ht : t = n
          · subst ht; exact absurd q.2.2 hb
          · omega
    have := key (wN W).toNat (by omega) s
    rw [show (((wN W).toNat : Nat) : Int) = wN W by omega] at this
    refine Eq.trans this (if_iff ⟨fun q => q.2.2, fun q => ⟨hs.1, hs.2, q⟩⟩)
  · unfold svS dsSave
    refine dsIter_pres (g := fun S : dsS => sK S) (fun j b => ?_) _ _
    show sK (if pSv (PS W y set) y j = true then dsEmpty b j 0 else b) = sK b
    split <;> rfl
theorem gSv_iff {W : dsW} {y set : Int} (hy : 0 ≤ y ∧ y < wY W) : gSv W y set ↔ sU (dsStN (P0 W) (svS W y set) y (wY W - y).toNat) = dsShl 1 (wW W) - 1 := by
  have h := PS_after (W := W) (set := set) hy.1 ((wY W - y).toNat - 1)
  rw [show y.toNat + ((wY W - y).toNat - 1 + 1) = (wY W).toNat by omega, show (wY W - y).toNat - 1 + 1 = (wY W - y).toNat by omega] at h
  show sU (dsStN (PS W y set) (dyInit (PS W y set)) 0 (wY W).toNat) = _ ↔ _
  rw [h.2.2]
theorem gSv_no {W : dsW} {y set : Int} (hW : WOK W) (hy : 0 ≤ y ∧ y < wY W) (h : ¬ sU (stP (P0 W) y) = dsShl 1 (wW W) - 1) : ¬ gSv W y set := by
  intro q
  rw [gSv_iff hy] at q
  have hU : UB (P0 W) (svS W y set) := by
    have := stP_U (P0_ok hW) y
    unfold UB at this ⊢
    show 0 ≤ sU (dsSave _ y _) ∧ sU (dsSave _ y _) ≤ _
    rw [save_U]; exact this
  have h1 := (stN_le (P0_ok hW) (y := y) hU (wY W - y).toNat).2
  have h2 : sU (svS W y set) = sU (stP (P0 W) y) := save_U _
  have h3 := (stP_U (P0_ok hW) y).2
  have h4 : sU (stP (P0 W) y) ≤ dsShl 1 (wW W) - 1 := h3
  rw [h2, q] at h1
  omega
-- how far walls have sunk
theorem sinks_KB {P : dsP} (hP : POK P) {S : dsS} {b : Int} (hb : 0 ≤ b) (hS : WS P S) (h : KB S b) : KB (dsSinks P S) (b + 73) := by
  have hp := hP.1
  unfold dsSinks
  have key := dsIter_inv (fun w S => WS P S ∧ KW S b w) (f := fun w S => dsSink P w S) (i := 0) (n := pW P) (a := S) (by omega) ⟨hS, fun t t0 t1 => by have := h t t0 t1; omega⟩ (fun j T j0 j1 hT => by
    have hi := sink_inv hP ⟨j0, j1⟩ hT.1
    refine ⟨hi.1, fun t t0 t1 => ?_⟩
    have hk := hT.2 t t0 t1
    by_cases ht : t = j
    · subst ht
      have := hi.2.2
      omega
    · have e := hi.2.1 t ht
      show 0 ≤ sK (dsSink P j T) t ∧ sK (dsSink P j T) t ≤ b + 73 ∧ (j + 1 ≤ t → sK (dsSink P j T) t ≤ b)
      rw [e]
      omega)
  intro t t0 t1
  have := key.2 t t0 t1
  omega
theorem stN_KB {P : dsP} (hP : POK P) (hT : 0 ≤ pTn P ∧ pTn P ≤ 36) : ∀ k : Nat, KB (dsStN P (dyInit P) 0 k) (73 * k)
  | 0 => fun t _ _ => by show (0 : Int) ≤ 0 ∧ (0 : Int) ≤ 73 * ((0 : Nat) : Int); omega
  | k + 1 => by
    have ih := stN_KB hP hT k
    have hS := (stN_AB hP hT k).1
    show KB (dsYear P (0 + k) (dsStN P (dyInit P) 0 k)) (73 * ((k + 1 : Nat) : Int))
    unfold dsYear
    rw [show 73 * ((k + 1 : Nat) : Int) = 73 * (k : Int) + 73 by omega]
    have hA := stN_AB hP hT k
    have h1 : WS P (dsRains P (0 + k) (dsSave P (0 + k) (dyNew (dsStN P (dyInit P) 0 k)))) := rains_WS hP _ (save_WS hP _ (WS_new hS))
    have h2 : ABg P (2160 * k) (gAB (dsRains P (0 + k) (dsSave P (0 + k) (dyNew (dsStN P (dyInit P) 0 k))))) := by
      rw [rains_g, save_g]; exact hA.2
    refine sinks_KB hP (by omega) (taps_AB hP hT.1 (y := 0 + k) h1 h2).1 ?_
    have eK : sK (dsTaps P (0 + k) (dsRains P (0 + k) (dsSave P (0 + k) (dyNew (dsStN P (dyInit P) 0 k))))) = sK (dsStN P (dyInit P) 0 k) := by
      have k1 : ∀ S : dsS, sK (dsTaps P (0 + k) S) = sK S := fun S => by
        unfold dsTaps
        refine dsIter_pres (g := fun S : dsS => sK S) (fun j b => ?_) _ _
        cases pTf P (0 + k) j with
        | none => rfl
        | some q => rfl
      have k3 : ∀ S : dsS, sK (dsSave P (0 + k) S) = sK S := fun S => by
        unfold dsSave
        refine dsIter_pres (g := fun S : dsS => sK S) (fun j b => ?_) _ _
        show sK (if pSv P (0 + k) j = true then dsEmpty b j 0 else b) = sK b
        split <;> rfl
      have k0 : ∀ (j : Nat) (s first k : Int) (S : dsS) (r : Int), sK (dsDrkN P first k j s S r).1 = sK S := by
        intro j
        induction j with
        | zero => intro _ _ _ _ _; rfl
        | succ j ih =>
          intro s first k S r
          rw [dsDrkN]
          split
          · rfl
          · split
            · split
              · rw [ih]; unfold dsPour; split <;> rfl
              · rfl
            · exact ih _ _ _ _ _
      have k2 : ∀ S : dsS, sK (dsRains P (0 + k) S) = sK S := fun S => by
        unfold dsRains
        refine dsIter_pres (g := fun S : dsS => sK S) (fun j b => ?_) _ _
        cases pRf P (0 + k) j with
        | none => rfl
        | some q =>
          show sK (dsRain P q.1 q.2 b) = sK b
          unfold dsRain
          refine dsIter_pres (g := fun S : dsS => sK S) (fun j b => ?_) _ _
          show sK (dsDrkN P j q.1 _ j b _).1 = sK b
          exact k0 _ _ _ _ _ _
      rw [k1, k2, k3]; rfl
    intro t t0 t1
    rw [eK]; exact ih t t0 t1
-- the class's flow from a year on
theorem lay_rg {G : Int → Nat} {M : dsMem} (hL : Lay G M) (hg : dsGr M) (h : G 62 = 5) : ∀ k, 0 ≤ k → k < 6 → dsw (M 72 k) = M 72 k ∧ dsw (M 74 k) = M 74 k := by
  have f9 := (hL.1 62 (by rw [h]; omega)).2.2 9 21 false 10 (by rw [h]; rfl)
  have f11 := (hL.1 62 (by rw [h]; omega)).2.2 11 21 false 12 (by rw [h]; rfl)
  have g72 : G 72 = 21 := f9.2.1
  have g74 : G 74 = 21 := f11.2.1
  have l72 := hL.1 72 (by rw [g72]; omega)
  have l74 := hL.1 74 (by rw [g74]; omega)
  rw [g72] at l72
  rw [g74] at l74
  intro k k0 k1
  have a1 : M 72 (-2) = 6 := l72.2.1 (by decide)
  have a2 : M 74 (-2) = 6 := l74.2.1 (by decide)
  have b1 : M 72 (-1) = 100 := l72.1.1
  have b2 : M 74 (-1) = 100 := l74.1.1
  have c1 := (hg 72 k k0 (by omega)).1 b1
  have c2 := (hg 74 k k0 (by omega)).1 b2
  exact ⟨dsw_id c1.1 c1.2, dsw_id c2.1 c2.2⟩
theorem run_br {M0 : dsMem} {f : Int} {P : dsP} {S0 : dsS} {Q : bQT} (hP : POK P) (hf0 : 0 ≤ f) (hsv : ∀ y s, pSv P y s = false) (hU : UB P S0)
    (K : ∀ M' x3, Fr (fun a _ => 64 ≤ a ∧ a ≤ 75) M0 M' → (x3 = 0 ∨ x3 = 1) → (x3 = 1 ↔ sU (dsStN P S0 f (pY P - f).toNat) = dsShl 1 (pW P) - 1) → Q [uI x3] M') :
    ∀ y M x3, RI M0 62 P f S0 y M → (x3 = 0 ∨ x3 = 1) → (x3 = 1 ↔ M 69 y = dsShl 1 (pW P) - 1) → bB 7 37 [uR 5 62, uX 0, uI 1, uI x3, uI y] [] M Q := by
  have hF : ∀ y M, RI M0 62 P f S0 y M → Fr (fun a _ => 64 ≤ a ∧ a ≤ 75) M0 M := fun y M h => Fr_mono (fun a j q => by omega) h.2.2.2.2.2.2.2
  have hAt : ∀ y M, RI M0 62 P f S0 y M → M 69 y = sU (dsStN P S0 f (y - f).toNat) := fun y M h => by
    have := (h.2.1 (y - f).toNat (by have := h.1; omega)).1.2.2
    rw [show f + (((y - f).toNat : Nat) : Int) = y by have := h.1; omega] at this
    exact this
  refine ds_ind (P := fun y => ∀ M x3, RI M0 62 P f S0 y M → (x3 = 0 ∨ x3 = 1) → (x3 = 1 ↔ M 69 y = dsShl 1 (pW P) - 1) → bB 7 37 [uR 5 62, uX 0, uI 1, uI x3, uI y] [] M Q) (pY P) ?_ ?_
  · intro y hy M x3 h hx hi
    have ey : y = pY P := by have := h.1; omega
    have e1 : M 24 1 = pY P := h.2.2.2.2.2.1.1.2.2.1
    have hfin := K M x3 (hF y M h) hx (by rw [hi, hAt y M h, ey])
    exact r7_37 (R1 := fun _ => False) (R2 := fun _ _ => False) (R3 := fun _ _ _ => False) (R4 := fun _ _ _ _ => False) (R5 := fun _ => False) (R6 := fun _ _ => False) (R7 := fun _ _ _ => False) (R8 := fun _ _ _ _ => False) (k1 := fun q => hfin) (s1 := fun _ => hx) (hA1 := fun q => by omega) (hA2 := fun q => by omega) (hA3 := fun q => by omega) (hA4 := fun q => by omega) (s2 := fun q => by omega) (s3 := fun q => by omega) (s4 := fun q => by omega) (k2 := fun q => by omega) (s5 := fun q => by omega) (k3 := fun q => by omega) (k4 := fun q => by omega) (s6 := fun q => by omega) (hA5 := fun q => by omega) (hA6 := fun q => by omega) (hA7 := fun q => by omega) (hA8 := fun q => by omega) (s7 := fun q => by omega) (s8 := fun q => by omega) (s9 := fun q => by omega) (k5 := fun q => by omega) (s10 := fun q => by omega) (k6 := fun q => by omega)
  · intro y hy ih M x3 h hx hi
    by_cases hz : x3 = 0
    · have e1 : M 24 1 = pY P := h.2.2.2.2.2.1.1.2.2.1
      have hno : ¬ sU (dsStN P S0 f (pY P - f).toNat) = dsShl 1 (pW P) - 1 := by
        intro q
        have h1 := h.1
        have hUy := stN_le hP (y := f) hU (y - f).toNat
        have e2 := stN_add P S0 f (y - f).toNat (pY P - y).toNat
        rw [show (y - f).toNat + (pY P - y).toNat = (pY P - f).toNat by omega] at e2
        have h3 := (stN_le hP (y := f + ((y - f).toNat : Nat)) hUy.1 (pY P - y).toNat).2
        rw [← e2, q] at h3
        have h4 := hUy.1.2
        have h5 := hAt y M h
        have : M 69 y = dsShl 1 (pW P) - 1 := by rw [h5]; omega
        have := hi.2 this
        omega
      have hfin := K M x3 (hF y M h) hx ⟨fun q => by omega, fun q => absurd q hno⟩
      subst hz
      exact r7_37 (R1 := fun _ => False) (R2 := fun _ _ => False) (R3 := fun _ _ _ => False) (R4 := fun _ _ _ _ => False) (R5 := fun _ => False) (R6 := fun _ _ => False) (R7 := fun _ _ _ => False) (R8 := fun _ _ _ _ => False) (k1 := fun q => by omega) (s1 := fun q => by omega) (hA1 := fun _ q => absurd rfl q) (hA2 := fun _ q => absurd rfl q) (hA3 := fun _ q => absurd rfl q) (hA4 := fun _ q => absurd rfl q) (s2 := fun _ q => absurd rfl q) (s3 := fun _ q => absurd rfl q) (s4 := fun _ q => absurd rfl q) (k2 := fun _ q => absurd rfl q) (s5 := fun _ q => absurd rfl q) (k3 := fun _ q => absurd rfl q) (k4 := fun _ _ _ => hfin) (s6 := fun _ _ _ => hx) (hA5 := fun _ _ q => by omega) (hA6 := fun _ _ q => by omega) (hA7 := fun _ _ q => by omega) (hA8 := fun _ _ q => by omega) (s7 := fun _ _ q => by omega) (s8 := fun _ _ q => by omega) (s9 := fun _ _ q => by omega) (k5 := fun _ _ q => by omega) (s10 := fun _ _ q => by omega) (k6 := fun _ _ q => by omega)
    · refine run_1 hP (Or.inr rfl) hf0 hsv h hy (Or.inl hz) (fun M' h' => ?_)
      refine ih M' _ h' ?_ ?_
      · split
        · exact Or.inr rfl
        · exact Or.inl rfl
      · show (if M' (62 + 7) (y + 1) = dsShl 1 (pW P) - 1 then (1 : Int) else 0) = 1 ↔ M' (62 + 7) (y + 1) = dsShl 1 (pW P) - 1
        split
        · exact ⟨fun _ => ‹_›, fun _ => rfl⟩
        · exact ⟨fun q => by omega, fun q => absurd q ‹_›⟩
