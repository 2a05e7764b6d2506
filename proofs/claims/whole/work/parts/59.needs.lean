/-! the least that a wall must bear: one that bears more never falls sooner -/
def setBe (P : dsP) (g : Int → Int) : dsP := (P.1, P.2.1, P.2.2.1, P.2.2.2.1, P.2.2.2.2.1, P.2.2.2.2.2.1, P.2.2.2.2.2.2.1, g, P.2.2.2.2.2.2.2.2.1, P.2.2.2.2.2.2.2.2.2)
theorem drkN_be (P : dsP) (g : Int → Int) (first k : Int) : ∀ (j : Nat) (s : Int) (S : dsS) (r : Int), dsDrkN (setBe P g) first k j s S r = dsDrkN P first k j s S r
  | 0, _, _, _ => rfl
  | j + 1, s, S, r => by
    rw [dsDrkN, dsDrkN, drkN_be P g first k j, drkN_be P g first k j]
    rfl
theorem drink_be (P : dsP) (g : Int → Int) (S : dsS) (first k n : Int) : dsDrink (setBe P g) S first k n = dsDrink P S first k n := by
  unfold dsDrink
  rw [drkN_be]; rfl
theorem rain_be (P : dsP) (g : Int → Int) (k n : Int) (S : dsS) : dsRain (setBe P g) k n S = dsRain P k n S := by
  unfold dsRain
  exact dsIter_congr _ _ (fun j b _ _ => by rw [drink_be]; rfl)
theorem rains_be (P : dsP) (g : Int → Int) (y : Int) (S : dsS) : dsRains (setBe P g) y S = dsRains P y S := by
  unfold dsRains
  refine dsIter_congr _ _ (fun j b j0 j1 => ?_)
  show (match pRf P y j with | some q => dsRain (setBe P g) q.1 q.2 b | none => b) = _
  cases pRf P y j with
  | none => rfl
  | some q => exact rain_be P g q.1 q.2 b
/-- other numbers of how much walls have sunk -/
def setK (S : dsS) (f : Int → Int) : dsS := mS (sL S) f (sU S) (sX S) (sH S) (sB S) (sA S) (sF S) (sD S)
theorem pour_K {P : dsP} {S : dsS} {f : Int → Int} {s k n : Int} : dsPour P (setK S f) s k n = (setK (dsPour P S s k n).1 f, (dsPour P S s k n).2) := by
  show (if dsGoes P (sL S s) s n ≤ 0 then (setK S f, n) else (dsPourS P (setK S f) s k n, n - dsGoes P (sL S s) s n)) = (setK (if dsGoes P (sL S s) s n ≤ 0 then (S, n) else (dsPourS P S s k n, n - dsGoes P (sL S s) s n)).1 f, (if dsGoes P (sL S s) s n ≤ 0 then (S, n) else (dsPourS P S s k n, n - dsGoes P (sL S s) s n)).2)
  split <;> rfl
theorem drkN_K {P : dsP} {first k : Int} {f : Int → Int} : ∀ (j : Nat) (s : Int) (S : dsS) (r : Int), dsDrkN P first k j s (setK S f) r = (setK (dsDrkN P first k j s S r).1 f, (dsDrkN P first k j s S r).2)
  | 0, _, _, _ => rfl
  | j + 1, s, S, r => by
    rw [dsDrkN, dsDrkN]
    by_cases hr : r ≤ 0
    · rw [if_pos hr, if_pos hr]
    · rw [if_neg hr, if_neg hr]
      by_cases hc : s = first ∨ dsComes P first s
      · rw [if_pos hc, if_pos hc]
        by_cases hb : dsBit (sU S) (pOn P s) ∧ pAl P s = true
        · rw [if_pos (show dsBit (sU (setK S f)) (pOn P s) ∧ pAl P s = true from hb), if_pos hb, pour_K]
          exact drkN_K j _ _ _
        · rw [if_neg (show ¬ (dsBit (sU (setK S f)) (pOn P s) ∧ pAl P s = true) from hb), if_neg hb]
      · rw [if_neg hc, if_neg hc]
        exact drkN_K j _ _ _
theorem dsIter_K {F : Int → dsS → dsS} {f : Int → Int} {n : Int} (h : ∀ j S, F j (setK S f) = setK (F j S) f) : ∀ i S, dsIter F i n (setK S f) = setK (dsIter F i n S) f := by
  refine ds_ind n ?_ ?_
  · intro i hi S; rw [dsIter_end hi, dsIter_end hi]
  · intro i hi ih S; rw [dsIter_step hi, dsIter_step hi, h, ih]
theorem rains_K {P : dsP} {y : Int} {f : Int → Int} (S : dsS) : dsRains P y (setK S f) = setK (dsRains P y S) f := by
  unfold dsRains
  refine dsIter_K (fun j S => ?_) _ _
  cases pRf P y j with
  | none => rfl
  | some q =>
    show dsRain P q.1 q.2 (setK S f) = setK (dsRain P q.1 q.2 S) f
    unfold dsRain
    refine dsIter_K (fun j S => ?_) _ _
    show dsLose (dsDrkN P j q.1 _ j (setK S f) _).1 (dsDrkN P j q.1 _ j (setK S f) _).2 = _
    rw [drkN_K]; rfl
theorem taps_K {P : dsP} {y : Int} {f : Int → Int} (S : dsS) : dsTaps P y (setK S f) = setK (dsTaps P y S) f := by
  unfold dsTaps
  refine dsIter_K (fun j S => ?_) _ _
  cases pTf P y j with
  | none => rfl
  | some q => rfl
theorem save_K {P : dsP} {y : Int} {f : Int → Int} (S : dsS) : dsSave P y (setK S f) = setK (dsSave P y S) f := by
  unfold dsSave
  refine dsIter_K (fun j S => ?_) _ _
  show (if pSv P y j = true then dsEmpty (setK S f) j 0 else setK S f) = setK (if pSv P y j = true then dsEmpty S j 0 else S) f
  split <;> rfl
theorem fell_Kc {P : dsP} {w : Int} {f : Int → Int} (S : dsS) : dsFell P w (setK S f) = setK (dsFell P w S) f := by
  unfold dsFell
  refine (dsIter_K (F := fun s S => if pOn P s = w then dsEmpty S s (dySum (sL S s)) else S) (fun j S => ?_) 0 (dsDown S w))
  show (if pOn P j = w then dsEmpty (setK S f) j (dySum (sL S j)) else setK S f) = setK (if pOn P j = w then dsEmpty S j (dySum (sL S j)) else S) f
  split <;> rfl
theorem dsIter_rel {α β : Type} (R : α → β → Prop) {f : Int → α → α} {g : Int → β → β} {n : Int} : ∀ (i : Int) (a : α) (b : β), R a b → (∀ j a b, i ≤ j → j < n → R a b → R (f j a) (g j b)) → R (dsIter f i n a) (dsIter g i n b) := by
  refine ds_ind n ?_ ?_
  · intro i hi a b h0 _; rw [dsIter_end hi, dsIter_end hi]; exact h0
  · intro i hi ih a b h0 hs
    rw [dsIter_step hi, dsIter_step hi]
    exact ih _ _ (hs i a b (by omega) hi h0) (fun j a b h1 => hs j a b (by omega))
def relW (P : dsP) (w : Int) (S T : dsS) : Prop := UB P S ∧ (¬ dsBit (sU S) w ∨ ∃ f : Int → Int, T = setK S f ∧ (∀ t, ¬ t = w → f t = sK S t) ∧ f w ≤ sK S w)
theorem down_bit0 : ∀ u : Fin 8, ∀ t w : Fin 3, dsBit (dsAnd ((u.val : Nat) : Int) (dsXor (dsShl 1 ((t.val : Nat) : Int)) (-1))) ((w.val : Nat) : Int) → dsBit ((u.val : Nat) : Int) ((w.val : Nat) : Int) ∧ t.val ≠ w.val := by decide +kernel
theorem down_bit {u t w : Int} (hu : 0 ≤ u ∧ u < 8) (ht : 0 ≤ t ∧ t < 3) (hw : 0 ≤ w ∧ w < 3) : dsBit (dsAnd u (dsXor (dsShl 1 t) (-1))) w → dsBit u w ∧ ¬ t = w := by
  obtain ⟨u, rfl⟩ : ∃ m : Nat, u = m := ⟨u.toNat, by omega⟩
  obtain ⟨t, rfl⟩ : ∃ m : Nat, t = m := ⟨t.toNat, by omega⟩
  obtain ⟨w, rfl⟩ : ∃ m : Nat, w = m := ⟨w.toNat, by omega⟩
  intro h
  have := down_bit0 ⟨u, by omega⟩ ⟨t, by omega⟩ ⟨w, by omega⟩ h
  exact ⟨this.1, fun e => this.2 (Int.ofNat.inj e)⟩
theorem sink_bit {P : dsP} (hP : POK P) {t w : Int} {S : dsS} (ht : 0 ≤ t ∧ t < pW P) (hw : 0 ≤ w ∧ w < pW P) (hU : UB P S) (h : dsBit (sU (dsSink P t S)) w) : dsBit (sU S) w := by
  have hp := hP.1
  have hs := @shl_w (pW P) (by omega)
  unfold UB at hU
  unfold dsSink at h
  split at h
  · split at h
    · exact h
    · rw [fell_U] at h
      exact (down_bit (u := sU S) (by omega) (by omega) (by omega) h).1
  · exact h
theorem five_le {a b : Int} (ha : 0 < a) (h : b ≤ a) : (if 0 < b then b / 5 + 1 else 0) ≤ a / 5 + 1 := by
  split <;> omega
theorem sink_rel {P : dsP} {g : Int → Int} {w t : Int} {S T : dsS} (hP : POK P) (hw : 0 ≤ w ∧ w < pW P) (ht : 0 ≤ t ∧ t < pW P) (hg : ∀ v, ¬ v = w → g v = pBears P v) (hgw : pBears P w ≤ g w) (h : relW P w S T) : relW P w (dsSink P t S) (dsSink (setBe P g) t T) := by
  obtain ⟨hU, h⟩ := h
  refine ⟨sink_U hP ht hU, ?_⟩
  rcases h with h | ⟨f, rfl, hf, hfw⟩
  · exact Or.inl (fun q => h (sink_bit hP ht hw hU q))
  · have el : ∀ v, dsLoad (setBe P g) (setK S f) v = dsLoad P S v := fun _ => rfl
    by_cases hb : dsBit (sU S) t
    · by_cases htw : t = w
      · subst htw
        by_cases h1 : 0 < dsLoad P S t - pBears P t
        · have e1 : dsSink P t S = if sK S t + ((dsLoad P S t - pBears P t) / 5 + 1) < pGives P t then dsSunk S t ((dsLoad P S t - pBears P t) / 5 + 1) else dsFell P t (dsSunk S t ((dsLoad P S t - pBears P t) / 5 + 1)) := if_pos ⟨hb, h1⟩
          rw [e1]
          by_cases h2 : sK S t + ((dsLoad P S t - pBears P t) / 5 + 1) < pGives P t
          · rw [if_pos h2]
            refine Or.inr ?_
            have h5 := five_le (b := dsLoad P S t - g t) h1 (by omega)
            by_cases h3 : 0 < dsLoad P S t - g t
            · rw [if_pos h3] at h5
              have e2 : dsSink (setBe P g) t (setK S f) = if f t + ((dsLoad P S t - g t) / 5 + 1) < pGives P t then dsSunk (setK S f) t ((dsLoad P S t - g t) / 5 + 1) else dsFell (setBe P g) t (dsSunk (setK S f) t ((dsLoad P S t - g t) / 5 + 1)) := if_pos ⟨hb, h3⟩
              rw [e2, if_pos (by omega)]
              refine ⟨dsUpd f t (f t + ((dsLoad P S t - g t) / 5 + 1)), rfl, fun v hv => ?_, ?_⟩
              · show dsUpd f t _ v = dsUpd (sK S) t _ v
                rw [dsUpd_ne hv, dsUpd_ne hv]; exact hf v hv
              · show dsUpd f t _ t ≤ dsUpd (sK S) t _ t
                rw [dsUpd_eq, dsUpd_eq]; omega
            · have e2 : dsSink (setBe P g) t (setK S f) = setK S f := if_neg (fun q => h3 q.2)
              rw [e2]
              refine ⟨f, rfl, fun v hv => ?_, ?_⟩
              · show f v = dsUpd (sK S) t _ v
                rw [dsUpd_ne hv]; exact hf v hv
              · show f t ≤ dsUpd (sK S) t _ t
                rw [dsUpd_eq]; omega
          · rw [if_neg h2]
            refine Or.inl (fun q => ?_)
            rw [fell_U] at q
            have hs := @shl_w (pW P) (by have := hP.1; omega)
            unfold UB at hU
            exact (down_bit (u := sU S) (by omega) (by have := hP.1; omega) (by have := hP.1; omega) q).2 rfl
        · have e1 : dsSink P t S = S := if_neg (fun q => h1 q.2)
          have e2 : dsSink (setBe P g) t (setK S f) = setK S f := if_neg (fun q => h1 (by have : 0 < dsLoad P S t - g t := q.2; omega))
          rw [e1, e2]
          exact Or.inr ⟨f, rfl, hf, hfw⟩
      · have eg := hg t htw
        have ef := hf t htw
        by_cases h1 : 0 < dsLoad P S t - pBears P t
        · have e1 : dsSink P t S = if sK S t + ((dsLoad P S t - pBears P t) / 5 + 1) < pGives P t then dsSunk S t ((dsLoad P S t - pBears P t) / 5 + 1) else dsFell P t (dsSunk S t ((dsLoad P S t - pBears P t) / 5 + 1)) := if_pos ⟨hb, h1⟩
          have e2 : dsSink (setBe P g) t (setK S f) = if f t + ((dsLoad P S t - g t) / 5 + 1) < pGives P t then dsSunk (setK S f) t ((dsLoad P S t - g t) / 5 + 1) else dsFell P t (dsSunk (setK S f) t ((dsLoad P S t - g t) / 5 + 1)) := if_pos ⟨hb, by show 0 < dsLoad P S t - g t; omega⟩
          rw [e1, e2, eg, ef]
          have esk : ∀ n, dsSunk (setK S f) t n = setK (dsSunk S t n) (dsUpd f t (f t + n)) := fun _ => rfl
          have hnew : ∀ n, (∀ v, ¬ v = w → dsUpd f t (f t + n) v = dsUpd (sK S) t (sK S t + n) v) ∧ dsUpd f t (f t + n) w ≤ dsUpd (sK S) t (sK S t + n) w := by
            intro n
            refine ⟨fun v hv => ?_, ?_⟩
            · by_cases e : v = t
              · subst e; rw [dsUpd_eq, dsUpd_eq, ef]
              · rw [dsUpd_ne e, dsUpd_ne e]; exact hf v hv
            · rw [dsUpd_ne (fun e => htw e.symm), dsUpd_ne (fun e => htw e.symm)]; exact hfw
          by_cases h2 : sK S t + ((dsLoad P S t - pBears P t) / 5 + 1) < pGives P t
          · rw [if_pos h2, if_pos h2, esk]
            exact Or.inr ⟨_, rfl, (hnew _).1, (hnew _).2⟩
          · rw [if_neg h2, if_neg h2, esk, fell_Kc]
            refine Or.inr ⟨_, rfl, ?_, ?_⟩
            · rw [fell_K]; exact (hnew _).1
            · rw [fell_K]; exact (hnew _).2
        · have e1 : dsSink P t S = S := if_neg (fun q => h1 q.2)
          have e2 : dsSink (setBe P g) t (setK S f) = setK S f := if_neg (fun q => h1 (by have : 0 < dsLoad P S t - g t := q.2; omega))
          rw [e1, e2]
          exact Or.inr ⟨f, rfl, hf, hfw⟩
    · have e1 : dsSink P t S = S := if_neg (fun q => hb q.1)
      have e2 : dsSink (setBe P g) t (setK S f) = setK S f := if_neg (fun q => hb q.1)
      rw [e1, e2]
      exact Or.inr ⟨f, rfl, hf, hfw⟩
theorem year_rel {P : dsP} {g : Int → Int} {w y : Int} {S T : dsS} (hP : POK P) (hw : 0 ≤ w ∧ w < pW P) (hg : ∀ v, ¬ v = w → g v = pBears P v) (hgw : pBears P w ≤ g w) (h : relW P w S T) : relW P w (dsYear P y S) (dsYear (setBe P g) y T) := by
  unfold dsYear dsSinks
  refine dsIter_rel (relW P w) 0 _ _ ?_ (fun j a b j0 j1 hab => sink_rel hP hw ⟨j0, j1⟩ hg hgw hab)
  have eT : dsTaps (setBe P g) y (dsRains (setBe P g) y (dsSave (setBe P g) y (dyNew T))) = dsTaps P y (dsRains P y (dsSave P y (dyNew T))) := by
    rw [rains_be]; rfl
  rw [eT]
  obtain ⟨hU, h⟩ := h
  have eU : sU (dsTaps P y (dsRains P y (dsSave P y (dyNew S)))) = sU S := by rw [taps_U, rains_U, save_U]; rfl
  refine ⟨by unfold UB at hU ⊢; rw [eU]; exact hU, ?_⟩
  rcases h with h | ⟨f, rfl, hf, hfw⟩
  · rw [eU]; exact Or.inl h
  · have e2 : dyNew (setK S f) = setK (dyNew S) f := rfl
    have eK : sK (dsTaps P y (dsRains P y (dsSave P y (dyNew S)))) = sK S := by
      have k1 : ∀ S : dsS, sK (dsTaps P y S) = sK S := fun S => by
        unfold dsTaps
        refine dsIter_pres (g := fun S : dsS => sK S) (fun j b => ?_) _ _
        cases pTf P y j with
        | none => rfl
        | some q => rfl
      have k0 : ∀ (j : Nat) (s first k : Int) (S : dsS) (r : Int), sK (dsDrkN P first k j s S r).1 = sK S := by
        intro j
        induction j with
        | zero => intro _ _ _ _ _; rfl
        | succ j ih =>
          intro s first k S r
          rw [dsDrkN]
          split
          · rfl
          · split
            · split
              · rw [ih]; unfold dsPour; split <;> rfl
              · rfl
            · exact ih _ _ _ _ _
      have k2 : ∀ S : dsS, sK (dsRains P y S) = sK S := fun S => by
        unfold dsRains
        refine dsIter_pres (g := fun S : dsS => sK S) (fun j b => ?_) _ _
        cases pRf P y j with
        | none => rfl
        | some q =>
          show sK (dsRain P q.1 q.2 b) = sK b
          unfold dsRain
          refine dsIter_pres (g := fun S : dsS => sK S) (fun j b => ?_) _ _
          show sK (dsDrkN P j q.1 _ j b _).1 = sK b
          exact k0 _ _ _ _ _ _
      have k3 : ∀ S : dsS, sK (dsSave P y S) = sK S := fun S => by
        unfold dsSave
        refine dsIter_pres (g := fun S : dsS => sK S) (fun j b => ?_) _ _
        show sK (if pSv P y j = true then dsEmpty b j 0 else b) = sK b
        split <;> rfl
      rw [k1, k2, k3]; rfl
    rw [e2, save_K, rains_K, taps_K]
    exact Or.inr ⟨f, rfl, fun v hv => by rw [eK]; exact hf v hv, by rw [eK]; exact hfw⟩
theorem stN_rel {P : dsP} {g : Int → Int} {w : Int} (hP : POK P) (hw : 0 ≤ w ∧ w < pW P) (hg : ∀ v, ¬ v = w → g v = pBears P v) (hgw : pBears P w ≤ g w) : ∀ k : Nat, relW P w (dsStN P (dyInit P) 0 k) (dsStN (setBe P g) (dyInit P) 0 k)
  | 0 => ⟨stN_U hP 0, Or.inr ⟨sK (dyInit P), rfl, fun _ _ => rfl, Int.le_refl _⟩⟩
  | k + 1 => year_rel hP hw hg hgw (stN_rel hP hw hg hgw k)
theorem init_be (P : dsP) (g : Int → Int) : dyInit (setBe P g) = dyInit P := rfl
theorem PNd_be (W : dsW) (w n m : Int) : PNd W w m = setBe (PNd W w n) (fun v => if v = w then m else wBe W v) := rfl
theorem nd_mono {W : dsW} {w n m : Int} (h : WOK W) (hw : 0 ≤ w ∧ w < wW W) (hn : 0 ≤ n ∧ n ≤ 300) (hm : n ≤ m) (hb : dsBit (sU (stP (PNd W w n) (wY W))) w) : dsBit (sU (stP (PNd W w m) (wY W))) w := by
  have hr := stN_rel (P := PNd W w n) (g := fun v => if v = w then m else wBe W v) (w := w) (PNd_ok h hn) hw (fun v hv => by show (if v = w then m else wBe W v) = (if v = w then n else wBe W v); rw [if_neg hv, if_neg hv]) (by show (if w = w then n else wBe W w) ≤ (if w = w then m else wBe W w); rw [if_pos rfl, if_pos rfl]; exact hm) (wY W).toNat
  have e : stP (PNd W w m) (wY W) = dsStN (setBe (PNd W w n) (fun v => if v = w then m else wBe W v)) (dyInit (PNd W w n)) 0 (wY W).toNat := by
    unfold stP
    rw [PNd_be W w n m, init_be]
  rw [e]
  rcases hr.2 with q | ⟨f, q, _, _⟩
  · exact absurd hb q
  · rw [q]; exact hb
abbrev gNd (W : dsW) (w n : Int) : Prop := dsBit (sU (stP (PNd W w n) (wY W))) w
def aNds (W : dsW) (w : Int) : Int := if 0 ≤ w ∧ w ≤ wW W - 1 then aFnd (dsFind (fun n => gNd W w n) 0 301) 301 else -2
theorem cq115 {M : dsMem} {W : dsW} {w : Int} (h : CI M W) : bCt 115 [uR 10 0, uI w, uX 0, uX 0, uX 0, uX 0, uX 0] M (fun _ => [uI (aNds W w)]) (fun M' => CI M' W ∧ Fr CQ M M') := by
  intro Q hQ
  have b := CI_b h
  refine r115_0 (k1 := fun q1 => ?_) (k2 := fun q1 => q_eq ?_ (hQ M ⟨h, Fr_refl⟩))
  · have hw : 0 ≤ w ∧ w < wW W := by omega
    have hF0 := dsFind_ge (p := fun n => gNd W w n) (n := 301) 0
    have hF1 : dsFind (fun n => gNd W w n) 0 301 ≤ 301 := by
      by_cases hl : dsFind (fun n => gNd W w n) 0 301 < 301
      · omega
      · have key : ∀ i : Int, i ≤ 301 → dsFind (fun n => gNd W w n) i 301 ≤ 301 := by
          refine ds_ind (P := fun i => i ≤ 301 → dsFind (fun n => gNd W w n) i 301 ≤ 301) 301 ?_ ?_
          · intro i hi h1; rw [dsFind_end hi]; exact h1
          · intro i hi ih h1
            by_cases hp : gNd W w i
            · rw [dsFind_yes hi hp]; exact h1
            · rw [dsFind_no hi hp]; exact ih (by omega)
        exact key 0 (by omega)
    obtain ⟨F, hF⟩ : ∃ F, dsFind (fun n => gNd W w n) 0 301 = F := ⟨_, rfl⟩
    rw [hF] at hF0 hF1
    have up : ∀ m, 0 ≤ m → m < 301 → gNd W w m → F ≤ m := by
      intro m m0 m1 hm
      refine Classical.byContradiction fun q => ?_
      by_cases hl : F < 301
      · have := dsFind_p (p := fun n => gNd W w n) (n := 301) 0 (by rw [hF]; exact hl)
        rw [hF] at this
        exact this.2.2 m m0 (by omega) hm
      · exact dsFind_all (p := fun n => gNd W w n) (n := 301) 0 (by rw [hF]; exact hl) m m0 m1 hm
    have lo : ∀ m, 0 ≤ m → m < 301 → ¬ gNd W w m → m + 1 ≤ F := by
      intro m m0 m1 hm
      refine Classical.byContradiction fun q => ?_
      have hl : F < 301 := by omega
      have := dsFind_p (p := fun n => gNd W w n) (n := 301) 0 (by rw [hF]; exact hl)
      rw [hF] at this
      exact hm (nd_mono h.1 hw (by omega) (by omega) this.1)
    have eA : aNds W w = if F < 301 then F else -1 := by
      unfold aNds aFnd; rw [if_pos (by omega), hF]
    refine b_loop (fun (a : Int × Int × Int) => [uR 10 0, uI w, uI a.1, uI a.2.1, uI a.2.2, uX 0, uX 0]) (fun a M' => (0 ≤ a.2.2 ∧ a.2.2 ≤ 9 ∧ 0 ≤ a.1 ∧ a.1 ≤ F ∧ F ≤ a.2.1 ∧ a.2.1 ≤ 301 ∧ a.2.1 - a.1 < ((2 ^ (9 - a.2.2.toNat) : Nat) : Int)) ∧ CI M' W ∧ Fr CQ M M') (fun a => (9 - a.2.2).toNat) ?_ (0, 301, 0) M ⟨⟨by show (0 : Int) ≤ 0; omega, by show (0 : Int) ≤ 9; omega, by show (0 : Int) ≤ 0; omega, hF0, hF1, by show (301 : Int) ≤ 301; omega, by show (301 : Int) - 0 < ((2 ^ (9 - (0 : Int).toNat) : Nat) : Int); decide⟩, h, Fr_refl⟩
    rintro ⟨x2, x3, x4⟩ M' ⟨hx, hI, hFr⟩ ih
    simp only at hx
    show bB 115 20 [uR 10 0, uI w, uI x2, uI x3, uI x4, uX 0, uX 0] [] M' Q
    have fin : x3 ≤ x2 → Q [uI (if x2 < 301 then x2 else -1)] M' := fun hle => by
      have e : x2 = F := by omega
      refine q_eq ?_ (hQ M' ⟨hI, hFr⟩)
      rw [eA, e]
    have h9 : ¬ x3 ≤ x2 → x4 < 9 := fun hlt => by
      refine Classical.byContradiction fun q => ?_
      have e9 : x4 = 9 := by omega
      subst e9
      have : ((2 ^ (9 - (9 : Int).toNat) : Nat) : Int) = 1 := by decide
      omega
    have hpow : ¬ x3 ≤ x2 → ((2 ^ (9 - x4.toNat) : Nat) : Int) = 2 * ((2 ^ (9 - (x4 + 1).toNat) : Nat) : Int) := fun hlt => by
      have := h9 hlt
      rw [show 9 - x4.toNat = (9 - (x4 + 1).toNat) + 1 by omega, Nat.pow_succ]; omega
    have cp := fun (M1 : dsMem) (r1 : Dfl M1 63 ∧ Fr (fun a _ => a = 63) M' M1) (hn : 0 ≤ (x2 + x3) / 2 ∧ (x2 + x3) / 2 ≤ 300) => cpPNd (w := w) (n := (x2 + x3) / 2) hI.1 hI.2.1 r1 hn
    refine r115_20 (k1 := fun q q2 => by omega) (k2 := fun q q2 => by omega) (k3 := fun q q2 q3 => ?k3) (k4 := fun q q2 q3 => ?k4) (hA1 := fun q q2 => oth_ct) (hA2 := fun q q2 M1 r1 => wl_ct hI (cp M1 r1 (by omega)).2 (PNd_ok hI.1 (by omega)) (fun _ _ => rfl) (cp M1 r1 (by omega)).1 rfl) (k5 := fun q q2 M1 r1 M2 r2 q3 => ?k5) (k6 := fun q q2 M1 r1 M2 r2 q3 => ?k6)
    case k3 =>
      have := fin q2
      rw [if_pos (by omega)] at this; exact this
    case k4 =>
      have := fin q2
      rw [if_neg (by omega)] at this; exact this
    case k5 =>
      have hl := lo ((x2 + x3) / 2) (by omega) (by omega) q3
      have hp := hpow q2
      have h8 := h9 q2
      exact ih ((x2 + x3) / 2 + 1, x3, x4 + 1) M2 (by show (9 - (x4 + 1)).toNat < (9 - x4).toNat; omega) ⟨⟨by show 0 ≤ x4 + 1; omega, by show x4 + 1 ≤ 9; omega, by show 0 ≤ (x2 + x3) / 2 + 1; omega, hl, hx.2.2.2.2.1, hx.2.2.2.2.2.1, by show x3 - ((x2 + x3) / 2 + 1) < ((2 ^ (9 - (x4 + 1).toNat) : Nat) : Int); omega⟩, CI_q hI r2, Fr_trans hFr (CQ2_q r2)⟩
    case k6 =>
      have hl := up ((x2 + x3) / 2) (by omega) (by omega) q3
      have hp := hpow q2
      have h8 := h9 q2
      exact ih (x2, (x2 + x3) / 2, x4 + 1) M2 (by show (9 - (x4 + 1)).toNat < (9 - x4).toNat; omega) ⟨⟨by show 0 ≤ x4 + 1; omega, by show x4 + 1 ≤ 9; omega, hx.2.2.1, hx.2.2.2.1, hl, by show (x2 + x3) / 2 ≤ 301; omega, by show (x2 + x3) / 2 - x2 < ((2 ^ (9 - (x4 + 1).toNat) : Nat) : Int); omega⟩, CI_q hI r2, Fr_trans hFr (CQ2_q r2)⟩
  · unfold aNds; rw [if_neg (by omega)]
theorem rq287 {M : dsMem} {W : dsW} {w : Int} (h : RI0 M W) : bCt 287 [uR 11 84, uI w, uX 0] M (fun _ => [uI (aNds W w)]) (fun M' => RI0 M' W ∧ Fr RQ M M') := by
  intro Q hQ
  have b := RI_b h
  refine r287_0 (hA1 := asksWall_ct h) (k1 := fun M1 r1 q1 => ?_) (k2 := fun M1 r1 q1 => ?_)
  · have z1 := if01_1 q1
    have hw : 0 ≤ w ∧ w < wW W := by omega
    refine b_loop (fun (a : Int) => [uR 11 84, uI w, uI a]) (fun a M' => 0 ≤ a ∧ a ≤ 301 ∧ RI0 M' W ∧ (∃ v, RSv M' W (wLw W) 255 63 (dsShl 1 (wN W) - 1) 0 0 (-1) (wRo W) (fun x => if x = w then v else wBe W x)) ∧ Fr RQ M M' ∧ dsFind (fun n => gNd W w n) a 301 = dsFind (fun n => gNd W w n) 0 301) (fun a => (301 - a).toNat) ?_ 0 M1 ⟨by omega, by omega, r1.1.1, ⟨wBe W w, ?_⟩, r1.2, rfl⟩
    · rintro x M' ⟨x0, xn, hI, ⟨v, hS⟩, hF, e⟩ ih
      have bI := RI_b hI
      have hI2 : RI0 (dsSet M' 92 w x) W := RI0_e hI (fun j => ds_gn (by omega))
      have hS2 : RVPNd (dsSet M' 92 w x) W w x := by
        have := RSv_be (v := x) (w := w) hS
        refine ⟨this.1, this.2.1, fun t t0 t1 => ?_⟩
        rw [this.2.2 t t0 t1]
        show (if t = w then x else if t = w then v else wBe W t) = if t = w then x else wBe W t
        by_cases ht : t = w
        · rw [if_pos ht, if_pos ht]
        · rw [if_neg ht, if_neg ht, if_neg ht]
      have eU : ∀ M2, RR M2 (PNd W w x) ∧ RI0 M2 W ∧ RVPNd M2 W w x ∧ Fr RQ (dsSet M' 92 w x) M2 → M2 107 (M2 85 0) = sU (stP (PNd W w x) (wY W)) := fun M2 r => by rw [rY0 r.2.1, RR_U r.1 (by show 0 ≤ wY W ∧ wY W ≤ wY W; omega)]
      have hFr : ∀ M2, RR M2 (PNd W w x) ∧ RI0 M2 W ∧ RVPNd M2 W w x ∧ Fr RQ (dsSet M' 92 w x) M2 → Fr RQ M M2 := fun M2 r => Fr_trans hF (Fr_trans (Fr_set Fr_refl (by unfold RQ; omega)) r.2.2.2)
      refine r287_13 (k1 := fun q => ?_) (hA1 := fun q => rgo hI2 hS2 (PNd_ok hI.1 (by omega)) (rpPNd hI2 hS2 (by omega))) (s2 := fun q M2 r => by have b1 := RI_b r.2.1; omega) (k2 := fun q M2 r q2 => ?_) (k3 := fun q M2 r q2 => ?_)
      · rw [dsFind_end (by omega)] at e
        refine q_eq ?_ (hQ M' ⟨hI, hF⟩)
        unfold aNds aFnd; rw [if_pos (by omega), ← e, if_neg (by omega)]
      · rw [eU M2 r] at q2
        rw [dsFind_no (p := fun n => gNd W w n) (by omega) q2] at e
        exact ih (x + 1) M2 (by omega) ⟨by omega, by omega, r.2.1, ⟨x, r.2.2.1⟩, hFr M2 r, e⟩
      · rw [eU M2 r] at q2
        rw [dsFind_yes (p := fun n => gNd W w n) (by omega) q2] at e
        refine q_eq ?_ (hQ M2 ⟨r.2.1, hFr M2 r⟩)
        unfold aNds aFnd; rw [if_pos (by omega), ← e, if_pos (by omega)]
    · refine ⟨r1.1.2.1.1, r1.1.2.1.2.1, fun t t0 t1 => ?_⟩
      rw [r1.1.2.1.2.2 t t0 t1]
      show wBe W t = if t = w then wBe W w else wBe W t
      by_cases ht : t = w
      · rw [if_pos ht, ht]
      · rw [if_neg ht]
  · have z1 := if01_0 q1
    refine q_eq ?_ (hQ M1 ⟨r1.1.1, r1.2⟩)
    unfold aNds; rw [if_neg (by omega)]
