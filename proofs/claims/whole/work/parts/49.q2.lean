/-! questions: all stones together -/
theorem dsIter_pres {α β : Type} (g : α → β) {f : Int → α → α} {n : Int} (h : ∀ j b, g (f j b) = g b) : ∀ (i : Int) (a : α), g (dsIter f i n a) = g a := by
  refine ds_ind n ?_ ?_
  · intro i hi a; rw [dsIter_end hi]
  · intro i hi ih a; rw [dsIter_step hi, ih, h]
theorem dsIter_all {α : Type} (I : α → Prop) {f : Int → α → α} {n : Int} : ∀ (i : Int) (a : α), I a → (∀ j b, i ≤ j → j < n → I b → I (f j b)) → I (dsIter f i n a) := by
  refine ds_ind n ?_ ?_
  · intro i hi a h0 _; rw [dsIter_end hi]; exact h0
  · intro i hi ih a h0 hs
    rw [dsIter_step hi]
    exact ih _ (hs i a (by omega) hi h0) (fun j b h1 => hs j b (by omega))
theorem sum_bd {f : Int → Int} {n : Int} (hn : 0 ≤ n ∧ n ≤ 6) (hf : ∀ s, 0 ≤ s → s < n → 0 ≤ f s ∧ f s ≤ 60) : 0 ≤ dsIter (fun s a => dsw (a + f s)) 0 n 0 ∧ dsIter (fun s a => dsw (a + f s)) 0 n 0 ≤ 360 := by
  have h := dsIter_inv (fun i a => 0 ≤ a ∧ a ≤ 60 * i) (f := fun s a => dsw (a + f s)) (i := 0) (n := n) (a := 0) hn.1 (by omega) (fun j b j0 j1 hb => by
    have := hf j j0 j1
    show 0 ≤ dsw (b + f j) ∧ dsw (b + f j) ≤ 60 * (j + 1)
    rw [dsw_id (by omega) (by omega)]; omega)
  omega
theorem tot_b {P : dsP} {y : Int} (hP : POK P) (hS : WS P (stP P y)) : 0 ≤ wTot P y ∧ wTot P y ≤ 360 := by
  unfold wTot
  refine sum_bd (by have := hP.1; omega) (fun s s0 s1 => ?_)
  have h1 := hS s s0 s1
  have h2 := hP.2.1 s s0 s1
  have h3 := dySum_nn h1.1
  exact ⟨h3, Int.le_trans h1.2 (by omega)⟩
-- which walls stand
def UB (P : dsP) (S : dsS) : Prop := 0 ≤ sU S ∧ sU S ≤ dsShl 1 (pW P) - 1
theorem pour_U {P : dsP} {S : dsS} {s k n : Int} : sU (dsPour P S s k n).1 = sU S := by
  unfold dsPour; split <;> rfl
theorem drkN_U {P : dsP} {f k : Int} : ∀ (j : Nat) (s : Int) (S : dsS) (r : Int), sU (dsDrkN P f k j s S r).1 = sU S
  | 0, _, _, _ => rfl
  | j + 1, s, S, r => by
    rw [dsDrkN]
    split
    · rfl
    · split
      · split
        · rw [drkN_U j, pour_U]
        · rfl
      · exact drkN_U j _ _ _
theorem rains_U {P : dsP} {y : Int} (S : dsS) : sU (dsRains P y S) = sU S := by
  unfold dsRains
  refine dsIter_pres (g := fun S : dsS => sU S) (fun j b => ?_) _ _
  cases pRf P y j with
  | none => rfl
  | some q =>
    show sU (dsRain P q.1 q.2 b) = sU b
    unfold dsRain
    refine dsIter_pres (g := fun S : dsS => sU S) (fun j b => ?_) _ _
    show sU (dsDrkN P j q.1 _ j b _).1 = sU b
    exact drkN_U _ _ _ _
theorem taps_U {P : dsP} {y : Int} (S : dsS) : sU (dsTaps P y S) = sU S := by
  unfold dsTaps
  refine dsIter_pres (g := fun S : dsS => sU S) (fun j b => ?_) _ _
  cases pTf P y j with
  | none => rfl
  | some q => rfl
theorem save_U {P : dsP} {y : Int} (S : dsS) : sU (dsSave P y S) = sU S := by
  unfold dsSave
  refine dsIter_pres (g := fun S : dsS => sU S) (fun j b => ?_) _ _
  show sU (if pSv P y j = true then dsEmpty b j 0 else b) = sU b
  split <;> rfl
theorem down_b0 : ∀ u : Fin 8, ∀ w : Fin 3, (0 ≤ dsAnd ((u.val : Nat) : Int) (dsXor (dsShl 1 ((w.val : Nat) : Int)) (-1)) ∧ dsAnd ((u.val : Nat) : Int) (dsXor (dsShl 1 ((w.val : Nat) : Int)) (-1)) ≤ ((u.val : Nat) : Int)) := by decide
theorem down_b {u w : Int} (hu : 0 ≤ u ∧ u ≤ 7) (hw : 0 ≤ w ∧ w < 3) : 0 ≤ dsAnd u (dsXor (dsShl 1 w) (-1)) ∧ dsAnd u (dsXor (dsShl 1 w) (-1)) ≤ u := by
  have h := down_b0 ⟨u.toNat, by omega⟩ ⟨w.toNat, by omega⟩
  simp only [show ((u.toNat : Nat) : Int) = u by omega, show ((w.toNat : Nat) : Int) = w by omega] at h
  exact h
theorem shl_w {n : Int} (h : 0 ≤ n ∧ n ≤ 3) : 0 ≤ dsShl 1 n - 1 ∧ dsShl 1 n - 1 ≤ 7 := by
  have : n = 0 ∨ n = 1 ∨ n = 2 ∨ n = 3 := by omega
  rcases this with e | e | e | e <;> subst e <;> decide
theorem fell_U (P : dsP) (w : Int) (S : dsS) : sU (dsFell P w S) = dsAnd (sU S) (dsXor (dsShl 1 w) (-1)) := by
  unfold dsFell
  refine (dsIter_pres (g := fun S : dsS => sU S) (fun j b => ?_) _ _).trans rfl
  show sU (if pOn P j = w then dsEmpty b j (dySum (sL b j)) else b) = sU b
  split <;> rfl
theorem sink_U {P : dsP} (hP : POK P) {w : Int} {S : dsS} (hw : 0 ≤ w ∧ w < pW P) (h : UB P S) : UB P (dsSink P w S) := by
  have hp := hP.1
  have hs := @shl_w (pW P) (by omega)
  unfold UB at h ⊢
  unfold dsSink
  split
  · split
    · exact h
    · rw [fell_U]
      have hd := @down_b (sU S) w (by omega) (by omega)
      exact ⟨hd.1, Int.le_trans hd.2 h.2⟩
  · exact h
theorem sinks_U {P : dsP} (hP : POK P) {S : dsS} (h : UB P S) : UB P (dsSinks P S) := by
  unfold dsSinks
  exact dsIter_all (UB P) 0 S h (fun j b j0 j1 hb => sink_U hP ⟨j0, j1⟩ hb)
theorem stN_U {P : dsP} (hP : POK P) : ∀ k : Nat, UB P (dsStN P (dyInit P) 0 k)
  | 0 => by
    have hs := @shl_w (pW P) (by have := hP.1; omega)
    exact ⟨hs.1, Int.le_refl _⟩
  | k + 1 => by
    have h := stN_U hP k
    show UB P (dsYear P (0 + k) (dsStN P (dyInit P) 0 k))
    unfold dsYear
    refine sinks_U hP ?_
    unfold UB at h ⊢
    rw [taps_U, rains_U, save_U]; exact h
theorem stP_U {P : dsP} (hP : POK P) (y : Int) : UB P (stP P y) := stN_U hP _
/-- how many bits stand -/
def bitc (u : Int) : Int := dsIter (fun i a => dsw (a + dsAnd (dsShr u i) 1)) 0 16 0
theorem bitc_all0 : ∀ n : Fin 4, ∀ u : Fin 8, ((u.val : Nat) : Int) ≤ dsShl 1 ((n.val : Nat) : Int) - 1 → (((n.val : Nat) : Int) ≤ bitc ((u.val : Nat) : Int) ↔ ((u.val : Nat) : Int) = dsShl 1 ((n.val : Nat) : Int) - 1) := by decide +kernel
theorem bitc_all {n u : Int} (hn : 0 ≤ n ∧ n ≤ 3) (hu : 0 ≤ u ∧ u ≤ dsShl 1 n - 1) : n ≤ bitc u ↔ u = dsShl 1 n - 1 := by
  have hs := shl_w hn
  have h := bitc_all0 ⟨n.toNat, by omega⟩ ⟨u.toNat, by omega⟩
  simp only [show ((n.toNat : Nat) : Int) = n by omega, show ((u.toNat : Nat) : Int) = u by omega] at h
  exact h hu.2
theorem v178_eq (M : dsMem) (u : Int) : v178 M u = bitc u := rfl
-- wettest
abbrev wGain (P : dsP) (y : Int) : Int := dsw (wTot P (y + 1) - wTot P y)
def wWet (P : dsP) (i : Int) (a : Int × Int) : Int × Int := if wGain P i ≤ a.2 then (a.1, a.2) else (i, wGain P i)
def aWet (W : dsW) : Int := if 0 < wLn W then (dsIter (wWet (P0 W)) 1 (wY W) (0, wGain (P0 W) 0)).1 else -2
theorem cq85 {M : dsMem} {W : dsW} (h : CI M W) : bCt 85 [uR 10 0, uX 0, uX 0, uX 0, uX 0, uX 0] M (fun _ => [uI (aWet W)]) (fun M' => CI M' W ∧ Fr CQ M M') := by
  intro Q hQ
  have b := CI_b h
  refine r85_0 (hA1 := fun _ => asNow_ct h) (s1 := fun q1 M1 rr1 i24_1 a24_1 q2 q3 => ?s1) (s2 := fun q1 M1 rr1 i24_1 a24_1 q2 q3 => ?s2) (s3 := fun q1 M1 rr1 i24_1 a24_1 q2 q3 => ?s3) (s4 := fun q1 M1 rr1 i24_1 a24_1 q2 q3 => ?s4) (s5 := fun q1 M1 rr1 i24_1 a24_1 q2 q3 => ?s5) (s6 := fun q1 M1 rr1 i85_1 a85_1 q2 q3 => ?s6) (s7 := fun q1 M1 rr1 i85_1 a85_1 q2 q3 i24_1 a24_1 q4 q5 => ?s7) (s8 := fun q1 M1 rr1 i85_1 a85_1 q2 q3 i24_1 a24_1 q4 q5 => ?s8) (s9 := fun q1 M1 rr1 i85_1 a85_1 q2 q3 i24_1 a24_1 q4 q5 => ?s9) (s10 := fun q1 M1 rr1 i85_1 a85_1 q2 q3 i24_1 a24_1 q4 q5 => ?s10) (s11 := fun q1 M1 rr1 i85_1 a85_1 q2 q3 => ?s11) (k1 := fun q1 M1 rr1 => ?k1) (k2 := fun q1 => ?k2)
  case s1 =>
    have b1 := CI_b rr1.1.1
    omega
  case s2 =>
    have b1 := CI_b rr1.1.1
    omega
  case s3 =>
    have b1 := CI_b rr1.1.1
    omega
  case s4 =>
    have b1 := CI_b rr1.1.1
    omega
  case s5 =>
    have b1 := CI_b rr1.1.1
    omega
  case s6 =>
    have b1 := CI_b rr1.1.1
    omega
  case s7 =>
    have b1 := CI_b rr1.1.1
    omega
  case s8 =>
    have b1 := CI_b rr1.1.1
    omega
  case s9 =>
    have b1 := CI_b rr1.1.1
    omega
  case s10 =>
    have b1 := CI_b rr1.1.1
    omega
  case s11 =>
    have b1 := CI_b rr1.1.1
    omega
  case k1 =>
    have b1 := CI_b rr1.1.1
    refine q_eq ?_ (hQ M1 ⟨rr1.1.1, rr1.2⟩)
    unfold aWet; rw [if_pos (by omega), cY1 rr1.1.1, c24 rr1.1 (y := 1) (by omega), c24 rr1.1 (y := 0) (by omega)]
    refine congrArg Prod.fst (dsIter_congr _ _ (fun j c j0 j1 => ?_))
    rw [c24 rr1.1 (y := j + 1) (by omega), c24 rr1.1 (y := j) (by omega)]; rfl
  case k2 =>
    refine q_eq ?_ (hQ M ⟨h, Fr_refl⟩)
    unfold aWet; rw [if_neg (by omega)]
theorem rq254 {M : dsMem} {W : dsW} (h : RI0 M W) : bCt 254 [uR 11 84, uX 0, uX 0] M (fun _ => [uI (aWet W)]) (fun M' => RI0 M' W ∧ Fr RQ M M') := by
  intro Q hQ
  have b := RI_b h
  refine r254n_0 (hA1 := asksChoir_ct h) (k1 := fun M1 rr1 q1 => ?_) (k2 := fun M1 rr1 q1 => ?_)
  · have b1 := RI_b rr1.1.1
    have z1 := if01_1 q1
    have fin := hQ M1 ⟨rr1.1.1, rr1.2⟩
    have key : ∀ x2 x1 : Int, 1 ≤ x2 → 0 ≤ x1 ∧ x1 < wY W → (dsIter (wWet (P0 W)) x2 (wY W) (x1, wGain (P0 W) x1)).1 = aWet W → bB 254 14 [uR 11 84, uI x1, uI x2] [] M1 Q := by
      refine ds_ind (P := fun x2 => ∀ x1 : Int, 1 ≤ x2 → 0 ≤ x1 ∧ x1 < wY W → (dsIter (wWet (P0 W)) x2 (wY W) (x1, wGain (P0 W) x1)).1 = aWet W → bB 254 14 [uR 11 84, uI x1, uI x2] [] M1 Q) (wY W) ?_ ?_
      · intro x2 h2 x1 h1 hx e
        rw [dsIter_end h2] at e
        exact r254n_14 (k1 := fun q => q_eq e fin) (k2 := fun q => by omega) (k3 := fun q => by omega)
      · intro x2 h2 ih x1 h1 hx e
        rw [dsIter_step h2] at e
        refine r254n_14 (k1 := fun q => by omega) (k2 := fun q q2 => ?_) (k3 := fun q q2 => ?_)
        · rw [r242 rr1.1 (by omega), r242 rr1.1 (by omega), r242 rr1.1 (by omega), r242 rr1.1 (by omega)] at q2
          refine ih x1 (by omega) hx ?_
          unfold wWet at e ⊢
          rw [if_pos q2] at e
          exact e
        · rw [r242 rr1.1 (by omega), r242 rr1.1 (by omega), r242 rr1.1 (by omega), r242 rr1.1 (by omega)] at q2
          refine ih x2 (by omega) (by omega) ?_
          unfold wWet at e ⊢
          rw [if_neg q2] at e
          exact e
    refine key 1 0 (by omega) (by omega) ?_
    unfold aWet
    rw [if_pos z1]
  · have b1 := RI_b rr1.1.1
    have z1 := if01_0 q1
    refine q_eq ?_ (hQ M1 ⟨rr1.1.1, rr1.2⟩)
    unfold aWet; rw [if_neg (by omega)]
-- a search's answer
def aFnd (f n : Int) : Int := if f < n then f else -1
def aRui (W : dsW) : Int := if 0 < wLn W then aFnd (dsFind (fun y => ¬ sU (stP (P0 W) y) = dsShl 1 (wW W) - 1) 0 (wY W + 1)) (wY W + 1) else -2
theorem fndE {p : Int → Prop} [DecidablePred p] {q : Int → Prop} [DecidablePred q] {n m : Int} (e : n = m) (h : ∀ j, 0 ≤ j → j < m → (p j ↔ q j)) : dsFind p 0 n = dsFind q 0 m := by
  subst e; exact dsFind_congr 0 h
theorem cq86 {M : dsMem} {W : dsW} (h : CI M W) : bCt 86 [uR 10 0, uX 0, uX 0] M (fun _ => [uI (aRui W)]) (fun M' => CI M' W ∧ Fr CQ M M') := by
  intro Q hQ
  have b := CI_b h
  refine r86_0 (hA1 := fun _ => asNow_ct h) (s1 := fun q1 M1 rr1 i86_1 q2 q3 => ?s1) (s2 := fun q1 M1 rr1 i86_1 q2 q3 => ?s2) (s3 := fun q1 M1 rr1 i86_1 q2 q3 => ?s3) (k1 := fun q1 M1 rr1 q2 => ?k1) (k2 := fun q1 M1 rr1 q2 => ?k2) (k3 := fun q1 => ?k3)
  case s1 =>
    have b1 := CI_b rr1.1.1
    omega
  case s2 =>
    have b1 := CI_b rr1.1.1
    have hs := @dsShl_b (wW W) (by omega); have e := cW4 rr1.1.1; rw [e]; omega
  case s3 =>
    have b1 := CI_b rr1.1.1
    omega
  case k1 =>
    have b1 := CI_b rr1.1.1
    refine q_eq ?_ (hQ M1 ⟨rr1.1.1, rr1.2⟩)
    have e := @fndE (fun i => ¬ M1 54 i = dsShl 1 (M1 24 4) - 1) _ (fun y => ¬ sU (stP (P0 W) y) = dsShl 1 (wW W) - 1) _ (M1 24 1 + 1) (wY W + 1) (by omega) (fun j j0 j1 => by rw [cU rr1.1 (by omega), cW4 rr1.1.1])
    rw [e] at q2 ⊢; rw [cY1 rr1.1.1] at q2
    unfold aRui aFnd; rw [if_pos (by omega), if_pos q2]
  case k2 =>
    have b1 := CI_b rr1.1.1
    refine q_eq ?_ (hQ M1 ⟨rr1.1.1, rr1.2⟩)
    have e := @fndE (fun i => ¬ M1 54 i = dsShl 1 (M1 24 4) - 1) _ (fun y => ¬ sU (stP (P0 W) y) = dsShl 1 (wW W) - 1) _ (M1 24 1 + 1) (wY W + 1) (by omega) (fun j j0 j1 => by rw [cU rr1.1 (by omega), cW4 rr1.1.1])
    rw [e] at q2; rw [cY1 rr1.1.1] at q2
    unfold aRui aFnd; rw [if_pos (by omega), if_neg q2]
  case k3 =>
    refine q_eq ?_ (hQ M ⟨h, Fr_refl⟩)
    unfold aRui; rw [if_neg (by omega)]
theorem rq255 {M : dsMem} {W : dsW} (h : RI0 M W) : bCt 255 [uR 11 84, uX 0] M (fun _ => [uI (aRui W)]) (fun M' => RI0 M' W ∧ Fr RQ M M') := by
  intro Q hQ
  have b := RI_b h
  have hfe : ∀ M1, RN M1 W → dsFind (fun i => ¬ M1 85 3 ≤ v178 M1 (M1 107 i)) 0 (M1 85 0 + 1) = dsFind (fun y => ¬ sU (stP (P0 W) y) = dsShl 1 (wW W) - 1) 0 (wY W + 1) := fun M1 hr => by
    have b1 := RI_b hr.1
    refine fndE (by omega) (fun j j0 j1 => ?_)
    have hb := @bitc_all (wW W) (sU (stP (P0 W) j)) (by omega) (stP_U (P0_ok h.1) j)
    rw [rU hr (by omega), rW3 hr.1, v178_eq, hb]
  refine r255_0 (hA1 :=  asksChoir_ct h) (s1 := fun M1 rr1 q1 i255_1 q2 q3 => ?s1) (s2 := fun M1 rr1 q1 i255_1 q2 q3 i178_1 a178_1 q4 q5 => ?s2) (s3 := fun M1 rr1 q1 i255_1 q2 q3 => ?s3) (k1 := fun M1 rr1 q1 q2 => ?k1) (k2 := fun M1 rr1 q1 q2 => ?k2) (k3 := fun M1 rr1 q1 => ?k3)
  case s1 =>
    have b1 := RI_b rr1.1.1
    have z1 := if01_1 q1
    omega
  case s2 =>
    have b1 := RI_b rr1.1.1
    have z1 := if01_1 q1
    omega
  case s3 =>
    have b1 := RI_b rr1.1.1
    have z1 := if01_1 q1
    omega
  case k1 =>
    have b1 := RI_b rr1.1.1
    have z1 := if01_1 q1
    refine q_eq ?_ (hQ M1 ⟨rr1.1.1, rr1.2⟩)
    rw [hfe _ rr1.1] at q2 ⊢; rw [rY0 rr1.1.1] at q2
    unfold aRui aFnd; rw [if_pos (by omega), if_pos q2]
  case k2 =>
    have b1 := RI_b rr1.1.1
    have z1 := if01_1 q1
    refine q_eq ?_ (hQ M1 ⟨rr1.1.1, rr1.2⟩)
    rw [hfe _ rr1.1, rY0 rr1.1.1] at q2
    unfold aRui aFnd; rw [if_pos (by omega), if_neg q2]
  case k3 =>
    have b1 := RI_b rr1.1.1
    have z1 := if01_0 q1
    refine q_eq ?_ (hQ M1 ⟨rr1.1.1, rr1.2⟩)
    unfold aRui; rw [if_neg (by omega)]
def aDry (W : dsW) (y : Int) : Int := if 0 < wLn W ∧ 0 ≤ y ∧ y ≤ wY W then dsIter (fun s a => if aH (P0 W) y s = 0 then dsOr a (dsShl 1 s) else a) 0 (wN W) 0 else -2
theorem cq87 {M : dsMem} {W : dsW} {y : Int} (h : CI M W) : bCt 87 [uR 10 0, uI y, uX 0, uX 0, uX 0] M (fun _ => [uI (aDry W y)]) (fun M' => CI M' W ∧ Fr CQ M M') := by
  intro Q hQ
  have b := CI_b h
  refine r87_0 (hA1 := fun _ => asNow_ct h) (s1 := fun q1 M1 rr1 i87_1 a87_1 q2 q3 => ?s1) (s2 := fun q1 M1 rr1 i87_1 a87_1 q2 q3 => ?s2) (s3 := fun q1 M1 rr1 i87_1 a87_1 q2 q3 => ?s3) (k1 := fun q1 M1 rr1 => ?k1) (k2 := fun q1 => ?k2)
  case s1 =>
    have b1 := CI_b rr1.1.1
    omega
  case s2 =>
    have b1 := CI_b rr1.1.1
    omega
  case s3 =>
    have b1 := CI_b rr1.1.1
    omega
  case k1 =>
    have b1 := CI_b rr1.1.1
    refine q_eq ?_ (hQ M1 ⟨rr1.1.1, rr1.2⟩)
    unfold aDry; rw [if_pos (by omega), cN5 rr1.1.1]; exact dsIter_congr _ _ (fun j c j0 j1 => by rw [cH rr1.1 (by omega) ⟨j0, j1⟩])
  case k2 =>
    refine q_eq ?_ (hQ M ⟨h, Fr_refl⟩)
    unfold aDry; rw [if_neg (by omega)]
theorem rq256 {M : dsMem} {W : dsW} {y : Int} (h : RI0 M W) : bCt 256 [uR 11 84, uI y, uX 0, uX 0] M (fun _ => [uI (aDry W y)]) (fun M' => RI0 M' W ∧ Fr RQ M M') := by
  intro Q hQ
  have b := RI_b h
  refine r256_0 (hA1 :=  asksYear_ct h) (s1 := fun M1 rr1 q1 i256_1 a256_1 q2 q3 => ?s1) (s2 := fun M1 rr1 q1 i256_1 a256_1 q2 q3 => ?s2) (k1 := fun M1 rr1 q1 => ?k1) (k2 := fun M1 rr1 q1 => ?k2)
  case s1 =>
    have b1 := RI_b rr1.1.1
    have z1 := if01_1 q1
    omega
  case s2 =>
    have b1 := RI_b rr1.1.1
    have z1 := if01_1 q1
    omega
  case k1 =>
    have b1 := RI_b rr1.1.1
    have z1 := if01_1 q1
    refine q_eq ?_ (hQ M1 ⟨rr1.1.1, rr1.2⟩)
    unfold aDry; rw [if_pos (by omega), rN4 rr1.1.1, iter_or _ _ rfl]; exact dsIter_congr _ _ (fun j c j0 j1 => by rw [rH rr1.1 (by omega) ⟨j0, j1⟩])
  case k2 =>
    have b1 := RI_b rr1.1.1
    have z1 := if01_0 q1
    refine q_eq ?_ (hQ M1 ⟨rr1.1.1, rr1.2⟩)
    unfold aDry; rw [if_neg (by omega)]
def aStd (W : dsW) (k y : Int) : Int := if (1 ≤ k ∧ k ≤ 5) ∧ 0 < wLn W ∧ 0 ≤ y ∧ y ≤ wY W then dsIter (fun s a => dsw (a + lSo (aL (P0 W) y s) k)) 0 (wN W) 0 else -2
theorem cq88 {M : dsMem} {W : dsW} {k y : Int} (h : CI M W) : bCt 88 [uR 10 0, uI k, uI y, uX 0, uX 0, uX 0] M (fun _ => [uI (aStd W k y)]) (fun M' => CI M' W ∧ Fr CQ M M') := by
  intro Q hQ
  have b := CI_b h
  refine r88_0 (hA1 := fun _ _ => asNow_ct h) (k1 := fun q1 => ?k1) (s1 := fun q1 q2 M1 rr1 i88_1 a88_1 q3 q4 => ?s1) (s2 := fun q1 q2 M1 rr1 i88_1 a88_1 q3 q4 i25_1 a25_1 q5 q6 => ?s2) (s3 := fun q1 q2 M1 rr1 i88_1 a88_1 q3 q4 i25_1 a25_1 q5 q6 => ?s3) (s4 := fun q1 q2 M1 rr1 i88_1 a88_1 q3 q4 i25_1 a25_1 q5 q6 => ?s4) (s5 := fun q1 q2 M1 rr1 i88_1 a88_1 q3 q4 => ?s5) (s6 := fun q1 q2 M1 rr1 i88_1 a88_1 q3 q4 => ?s6) (k2 := fun q1 q2 M1 rr1 => ?k2) (k3 := fun q1 q2 => ?k3)
  case k1 =>
    refine q_eq ?_ (hQ M ⟨h, Fr_refl⟩)
    unfold aStd; rw [if_neg (by omega)]
  case s1 =>
    have b1 := CI_b rr1.1.1
    omega
  case s2 =>
    have b1 := CI_b rr1.1.1
    omega
  case s3 =>
    have b1 := CI_b rr1.1.1
    have hd := cD rr1.1 (y := y) (s := i88_1) (by omega) (by omega); have hb := cB rr1.1 (y := y) (s := i88_1) (by omega) (by omega); omega
  case s4 =>
    have b1 := CI_b rr1.1.1
    have hd := cD rr1.1 (y := y) (s := i88_1) (by omega) (by omega); have hb := cB rr1.1 (y := y) (s := i88_1) (by omega) (by omega); omega
  case s5 =>
    have b1 := CI_b rr1.1.1
    omega
  case s6 =>
    have b1 := CI_b rr1.1.1
    omega
  case k2 =>
    have b1 := CI_b rr1.1.1
    refine q_eq ?_ (hQ M1 ⟨rr1.1.1, rr1.2⟩)
    unfold aStd; rw [if_pos (by omega), cN5 rr1.1.1]; exact dsIter_congr _ _ (fun j c j0 j1 => by rw [c25 rr1.1 (by omega) ⟨j0, j1⟩])
  case k3 =>
    refine q_eq ?_ (hQ M ⟨h, Fr_refl⟩)
    unfold aStd; rw [if_neg (by omega)]
theorem rq257 {M : dsMem} {W : dsW} {k y : Int} (h : RI0 M W) : bCt 257 [uR 11 84, uI k, uI y, uX 0, uX 0] M (fun _ => [uI (aStd W k y)]) (fun M' => RI0 M' W ∧ Fr RQ M M') := by
  intro Q hQ
  have b := RI_b h
  refine r257_0 (hA1 :=  asksYear_ct h) (k1 := fun M1 rr1 q1 => ?k1) (s1 := fun M1 rr1 q1 q2 i257_1 a257_1 q3 q4 => ?s1) (s2 := fun M1 rr1 q1 q2 i257_1 a257_1 q3 q4 i248_1 a248_1 q5 q6 => ?s2) (s3 := fun M1 rr1 q1 q2 i257_1 a257_1 q3 q4 i248_1 a248_1 q5 q6 => ?s3) (s4 := fun M1 rr1 q1 q2 i257_1 a257_1 q3 q4 i248_1 a248_1 q5 q6 => ?s4) (s5 := fun M1 rr1 q1 q2 i257_1 a257_1 q3 q4 => ?s5) (s6 := fun M1 rr1 q1 q2 i257_1 a257_1 q3 q4 => ?s6) (k2 := fun M1 rr1 q1 q2 => ?k2) (k3 := fun M1 rr1 q1 q2 => ?k3)
  case k1 =>
    have b1 := RI_b rr1.1.1
    have z1 := if01_0 q1
    refine q_eq ?_ (hQ M1 ⟨rr1.1.1, rr1.2⟩)
    unfold aStd; rw [if_neg (by omega)]
  case s1 =>
    have b1 := RI_b rr1.1.1
    have z1 := if01_1 q1
    omega
  case s2 =>
    have b1 := RI_b rr1.1.1
    have z1 := if01_1 q1
    omega
  case s3 =>
    have b1 := RI_b rr1.1.1
    have z1 := if01_1 q1
    have hd := rD rr1.1 (y := y) (s := i257_1) (by omega) (by omega); have hb := rB rr1.1 (y := y) (s := i257_1) (by omega) (by omega); omega
  case s4 =>
    have b1 := RI_b rr1.1.1
    have z1 := if01_1 q1
    have hd := rD rr1.1 (y := y) (s := i257_1) (by omega) (by omega); have hb := rB rr1.1 (y := y) (s := i257_1) (by omega) (by omega); omega
  case s5 =>
    have b1 := RI_b rr1.1.1
    have z1 := if01_1 q1
    omega
  case s6 =>
    have b1 := RI_b rr1.1.1
    have z1 := if01_1 q1
    omega
  case k2 =>
    have b1 := RI_b rr1.1.1
    have z1 := if01_1 q1
    refine q_eq ?_ (hQ M1 ⟨rr1.1.1, rr1.2⟩)
    unfold aStd; rw [if_pos (by omega), rN4 rr1.1.1]; exact dsIter_congr _ _ (fun j c j0 j1 => by rw [r248 rr1.1 (by omega) ⟨j0, j1⟩])
  case k3 =>
    have b1 := RI_b rr1.1.1
    have z1 := if01_1 q1
    refine q_eq ?_ (hQ M1 ⟨rr1.1.1, rr1.2⟩)
    unfold aStd; rw [if_neg (by omega)]
def aGon (W : dsW) : Int := if 0 < wLn W then dsIter (fun y a => dsw (a + dsw (sX (stP (P0 W) (y + 1))))) 0 (wY W) 0 else -2
theorem cq89 {M : dsMem} {W : dsW} (h : CI M W) : bCt 89 [uR 10 0, uX 0, uX 0, uX 0] M (fun _ => [uI (aGon W)]) (fun M' => CI M' W ∧ Fr CQ M M') := by
  intro Q hQ
  have b := CI_b h
  refine r89_0 (hA1 := fun _ => asNow_ct h) (s1 := fun q1 M1 rr1 i89_1 a89_1 q2 q3 => ?s1) (s2 := fun q1 M1 rr1 i89_1 a89_1 q2 q3 => ?s2) (k1 := fun q1 M1 rr1 => ?k1) (k2 := fun q1 => ?k2)
  case s1 =>
    have b1 := CI_b rr1.1.1
    omega
  case s2 =>
    have b1 := CI_b rr1.1.1
    omega
  case k1 =>
    have b1 := CI_b rr1.1.1
    refine q_eq ?_ (hQ M1 ⟨rr1.1.1, rr1.2⟩)
    unfold aGon; rw [if_pos (by omega), cY1 rr1.1.1]; exact dsIter_congr _ _ (fun j c j0 j1 => by rw [(cX rr1.1 ⟨j0, j1⟩).1])
  case k2 =>
    refine q_eq ?_ (hQ M ⟨h, Fr_refl⟩)
    unfold aGon; rw [if_neg (by omega)]
theorem rq258 {M : dsMem} {W : dsW} (h : RI0 M W) : bCt 258 [uR 11 84, uX 0, uX 0] M (fun _ => [uI (aGon W)]) (fun M' => RI0 M' W ∧ Fr RQ M M') := by
  intro Q hQ
  have b := RI_b h
  refine r258_0 (hA1 :=  asksChoir_ct h) (s1 := fun M1 rr1 q1 i258_1 a258_1 q2 q3 => ?s1) (s2 := fun M1 rr1 q1 i258_1 a258_1 q2 q3 => ?s2) (k1 := fun M1 rr1 q1 => ?k1) (k2 := fun M1 rr1 q1 => ?k2)
  case s1 =>
    have b1 := RI_b rr1.1.1
    have z1 := if01_1 q1
    omega
  case s2 =>
    have b1 := RI_b rr1.1.1
    have z1 := if01_1 q1
    omega
  case k1 =>
    have b1 := RI_b rr1.1.1
    have z1 := if01_1 q1
    refine q_eq ?_ (hQ M1 ⟨rr1.1.1, rr1.2⟩)
    unfold aGon; rw [if_pos (by omega), rY0 rr1.1.1]; exact dsIter_congr _ _ (fun j c j0 j1 => by rw [(rX rr1.1 ⟨j0, j1⟩).1])
  case k2 =>
    have b1 := RI_b rr1.1.1
    have z1 := if01_0 q1
    refine q_eq ?_ (hQ M1 ⟨rr1.1.1, rr1.2⟩)
    unfold aGon; rw [if_neg (by omega)]
def wSpr (P : dsP) (y : Int) (i : Int) (a : Int × Int) : Int × Int := ((if a.1 < aH P y i then aH P y i else a.1), (if aH P y i < a.2 then aH P y i else a.2))
def aSpr (W : dsW) (y : Int) : Int := if 0 < wLn W ∧ 0 ≤ y ∧ y ≤ wY W then (if wN W = 0 then 0 else dsw ((dsIter (wSpr (P0 W) y) 0 (wN W) (0, 60)).1 - (dsIter (wSpr (P0 W) y) 0 (wN W) (0, 60)).2)) else -2
theorem cq90 {M : dsMem} {W : dsW} {y : Int} (h : CI M W) : bCt 90 [uR 10 0, uI y, uX 0, uX 0, uX 0, uX 0, uX 0] M (fun _ => [uI (aSpr W y)]) (fun M' => CI M' W ∧ Fr CQ M M') := by
  intro Q hQ
  have b := CI_b h
  refine r90_0 (hA1 := fun _ => asNow_ct h) (s1 := fun q1 M1 rr1 q2 i90_1 a90_1 q3 q4 => ?s1) (s2 := fun q1 M1 rr1 q2 i90_1 a90_1 q3 q4 => ?s2) (s3 := fun q1 M1 rr1 q2 i90_1 a90_1 q3 q4 => ?s3) (k1 := fun q1 M1 rr1 q2 => ?k1) (s4 := fun q1 M1 rr1 q2 i90_2 a90_2 q3 q4 => ?s4) (s5 := fun q1 M1 rr1 q2 i90_2 a90_2 q3 q4 => ?s5) (s6 := fun q1 M1 rr1 q2 i90_2 a90_2 q3 q4 => ?s6) (k2 := fun q1 M1 rr1 q2 => ?k2) (k3 := fun q1 => ?k3)
  case s1 =>
    have b1 := CI_b rr1.1.1
    omega
  case s2 =>
    have b1 := CI_b rr1.1.1
    omega
  case s3 =>
    have b1 := CI_b rr1.1.1
    omega
  case k1 =>
    have b1 := CI_b rr1.1.1
    refine q_eq ?_ (hQ M1 ⟨rr1.1.1, rr1.2⟩)
    have e : dsIter (fun (i : Int) (a : Int × Int) => ((if a.1 < M1 52 (y * 6 + i) then M1 52 (y * 6 + i) else a.1), (if M1 52 (y * 6 + i) < a.2 then M1 52 (y * 6 + i) else a.2))) 0 (M1 24 5) (0, 60) = dsIter (wSpr (P0 W) y) 0 (wN W) (0, 60) := by
      rw [cN5 rr1.1.1]; exact dsIter_congr _ _ (fun j c j0 j1 => by rw [cH rr1.1 (by omega) ⟨j0, j1⟩]; rfl)
    unfold aSpr; rw [if_pos (by omega), if_neg (by omega), e]
  case s4 =>
    have b1 := CI_b rr1.1.1
    omega
  case s5 =>
    have b1 := CI_b rr1.1.1
    omega
  case s6 =>
    have b1 := CI_b rr1.1.1
    omega
  case k2 =>
    have b1 := CI_b rr1.1.1
    refine q_eq ?_ (hQ M1 ⟨rr1.1.1, rr1.2⟩)
    unfold aSpr; rw [if_pos (by omega), if_pos (by omega), dsIter_end (by omega)]; rfl
  case k3 =>
    refine q_eq ?_ (hQ M ⟨h, Fr_refl⟩)
    unfold aSpr; rw [if_neg (by omega)]
theorem rq259 {M : dsMem} {W : dsW} {y : Int} (h : RI0 M W) : bCt 259 [uR 11 84, uI y, uX 0, uX 0, uX 0] M (fun _ => [uI (aSpr W y)]) (fun M' => RI0 M' W ∧ Fr RQ M M') := by
  intro Q hQ
  have b := RI_b h
  refine r259_0 (hA1 :=  asksYear_ct h) (s1 := fun M1 rr1 q1 i259_1 a259_1 q2 q3 => ?s1) (s2 := fun M1 rr1 q1 i259_1 a259_1 q2 q3 => ?s2) (k1 := fun M1 rr1 q1 q2 => ?k1) (k2 := fun M1 rr1 q1 q2 => ?k2) (k3 := fun M1 rr1 q1 => ?k3)
  case s1 =>
    have b1 := RI_b rr1.1.1
    have z1 := if01_1 q1
    omega
  case s2 =>
    have b1 := RI_b rr1.1.1
    have z1 := if01_1 q1
    omega
  case k1 =>
    have b1 := RI_b rr1.1.1
    have z1 := if01_1 q1
    refine q_eq ?_ (hQ M1 ⟨rr1.1.1, rr1.2⟩)
    have e : dsIter (fun (i : Int) (a : Int × Int) => ((if a.1 < M1 102 (6 * y + i) then M1 102 (6 * y + i) else a.1), (if M1 102 (6 * y + i) < a.2 then M1 102 (6 * y + i) else a.2))) 0 (M1 85 4) (0, 60) = dsIter (wSpr (P0 W) y) 0 (wN W) (0, 60) := by
      rw [rN4 rr1.1.1]; exact dsIter_congr _ _ (fun j c j0 j1 => by rw [rH rr1.1 (by omega) ⟨j0, j1⟩]; rfl)
    unfold aSpr; rw [if_pos (by omega), if_neg (by omega), e]
  case k2 =>
    have b1 := RI_b rr1.1.1
    have z1 := if01_1 q1
    refine q_eq ?_ (hQ M1 ⟨rr1.1.1, rr1.2⟩)
    unfold aSpr; rw [if_pos (by omega), if_pos (by omega)]
  case k3 =>
    have b1 := RI_b rr1.1.1
    have z1 := if01_0 q1
    refine q_eq ?_ (hQ M1 ⟨rr1.1.1, rr1.2⟩)
    unfold aSpr; rw [if_neg (by omega)]
def aFul (W : dsW) (y : Int) : Int := if 0 < wLn W ∧ 0 ≤ y ∧ y ≤ wY W then dsIter (fun s a => if aH (P0 W) y s = wRo W s then dsOr a (dsShl 1 s) else a) 0 (wN W) 0 else -2
theorem cq91 {M : dsMem} {W : dsW} {y : Int} (h : CI M W) : bCt 91 [uR 10 0, uI y, uX 0, uX 0, uX 0] M (fun _ => [uI (aFul W y)]) (fun M' => CI M' W ∧ Fr CQ M M') := by
  intro Q hQ
  have b := CI_b h
  refine r91_0 (hA1 := fun _ => asNow_ct h) (s1 := fun q1 M1 rr1 i91_1 a91_1 q2 q3 => ?s1) (s2 := fun q1 M1 rr1 i91_1 a91_1 q2 q3 => ?s2) (s3 := fun q1 M1 rr1 i91_1 a91_1 q2 q3 => ?s3) (s4 := fun q1 M1 rr1 i91_1 a91_1 q2 q3 => ?s4) (k1 := fun q1 M1 rr1 => ?k1) (k2 := fun q1 => ?k2)
  case s1 =>
    have b1 := CI_b rr1.1.1
    omega
  case s2 =>
    have b1 := CI_b rr1.1.1
    omega
  case s3 =>
    have b1 := CI_b rr1.1.1
    omega
  case s4 =>
    have b1 := CI_b rr1.1.1
    omega
  case k1 =>
    have b1 := CI_b rr1.1.1
    refine q_eq ?_ (hQ M1 ⟨rr1.1.1, rr1.2⟩)
    unfold aFul; rw [if_pos (by omega), cN5 rr1.1.1]; exact dsIter_congr _ _ (fun j c j0 j1 => by rw [cH rr1.1 (by omega) ⟨j0, j1⟩, cRo rr1.1.1 ⟨j0, j1⟩])
  case k2 =>
    refine q_eq ?_ (hQ M ⟨h, Fr_refl⟩)
    unfold aFul; rw [if_neg (by omega)]
theorem rq260 {M : dsMem} {W : dsW} {y : Int} (h : RI0 M W) : bCt 260 [uR 11 84, uI y, uX 0, uX 0] M (fun _ => [uI (aFul W y)]) (fun M' => RI0 M' W ∧ Fr RQ M M') := by
  intro Q hQ
  have b := RI_b h
  refine r260_0 (hA1 :=  asksYear_ct h) (s1 := fun M1 rr1 q1 i260_1 a260_1 q2 q3 => ?s1) (s2 := fun M1 rr1 q1 i260_1 a260_1 q2 q3 => ?s2) (s3 := fun M1 rr1 q1 i260_1 a260_1 q2 q3 => ?s3) (k1 := fun M1 rr1 q1 => ?k1) (k2 := fun M1 rr1 q1 => ?k2)
  case s1 =>
    have b1 := RI_b rr1.1.1
    have z1 := if01_1 q1
    omega
  case s2 =>
    have b1 := RI_b rr1.1.1
    have z1 := if01_1 q1
    omega
  case s3 =>
    have b1 := RI_b rr1.1.1
    have z1 := if01_1 q1
    omega
  case k1 =>
    have b1 := RI_b rr1.1.1
    have z1 := if01_1 q1
    refine q_eq ?_ (hQ M1 ⟨rr1.1.1, rr1.2⟩)
    unfold aFul; rw [if_pos (by omega), rN4 rr1.1.1, iter_or _ _ rfl]; exact dsIter_congr _ _ (fun j c j0 j1 => by rw [rH rr1.1 (by omega) ⟨j0, j1⟩, rRo rr1.1.1 ⟨j0, j1⟩])
  case k2 =>
    have b1 := RI_b rr1.1.1
    have z1 := if01_0 q1
    refine q_eq ?_ (hQ M1 ⟨rr1.1.1, rr1.2⟩)
    unfold aFul; rw [if_neg (by omega)]
def aBea (W : dsW) (s : Int) : Int := if 0 ≤ s ∧ s ≤ wN W - 1 then aFnd (dsFind (fun y => aH (P0 W) y s = wRo W s) 0 (wY W + 1)) (wY W + 1) else -2
theorem cq92 {M : dsMem} {W : dsW} {s : Int} (h : CI M W) : bCt 92 [uR 10 0, uI s, uX 0, uX 0] M (fun _ => [uI (aBea W s)]) (fun M' => CI M' W ∧ Fr CQ M M') := by
  intro Q hQ
  have b := CI_b h
  have hfe : ∀ M1, CN M1 W → 0 ≤ s ∧ s < wN W → dsFind (fun i => M1 52 (i * 6 + s) = M1 27 s) 0 (M1 24 1 + 1) = dsFind (fun y => aH (P0 W) y s = wRo W s) 0 (wY W + 1) := fun M1 hr hs => by
    have b1 := CI_b hr.1
    exact fndE (by omega) (fun j j0 j1 => by rw [cH hr (by omega) hs, cRo hr.1 hs])
  refine r92_0 (hA1 := fun _ => asNow_ct h) (s2 := fun q1 M1 rr1 i92_1 q2 q3 => ?s2) (s3 := fun q1 M1 rr1 i92_1 q2 q3 => ?s3) (s4 := fun q1 M1 rr1 i92_1 q2 q3 => ?s4) (s5 := fun q1 M1 rr1 i92_1 q2 q3 => ?s5) (k1 := fun q1 M1 rr1 q2 => ?k1) (k2 := fun q1 M1 rr1 q2 => ?k2) (k3 := fun q1 => ?k3)
  case s2 =>
    have b1 := CI_b rr1.1.1
    omega
  case s3 =>
    have b1 := CI_b rr1.1.1
    omega
  case s4 =>
    have b1 := CI_b rr1.1.1
    omega
  case s5 =>
    have b1 := CI_b rr1.1.1
    omega
  case k1 =>
    have b1 := CI_b rr1.1.1
    refine q_eq ?_ (hQ M1 ⟨rr1.1.1, rr1.2⟩)
    rw [hfe _ rr1.1 (by omega)] at q2 ⊢; rw [cY1 rr1.1.1] at q2
    unfold aBea aFnd; rw [if_pos (by omega), if_pos q2]
  case k2 =>
    have b1 := CI_b rr1.1.1
    refine q_eq ?_ (hQ M1 ⟨rr1.1.1, rr1.2⟩)
    rw [hfe _ rr1.1 (by omega), cY1 rr1.1.1] at q2
    unfold aBea aFnd; rw [if_pos (by omega), if_neg q2]
  case k3 =>
    refine q_eq ?_ (hQ M ⟨h, Fr_refl⟩)
    unfold aBea; rw [if_neg (by omega)]
theorem rq261 {M : dsMem} {W : dsW} {s : Int} (h : RI0 M W) : bCt 261 [uR 11 84, uI s, uX 0] M (fun _ => [uI (aBea W s)]) (fun M' => RI0 M' W ∧ Fr RQ M M') := by
  intro Q hQ
  have b := RI_b h
  have hfe : ∀ M1, RN M1 W → 0 ≤ s ∧ s < wN W → dsFind (fun i => M1 102 (6 * i + s) = M1 85 (15 + 3 * s + 0)) 0 (M1 85 0 + 1) = dsFind (fun y => aH (P0 W) y s = wRo W s) 0 (wY W + 1) := fun M1 hr hs => by
    have b1 := RI_b hr.1
    exact fndE (by omega) (fun j j0 j1 => by rw [rH hr (by omega) hs, rRo hr.1 hs])
  refine r261_0 (hA1 :=  asksStone_ct h) (s1 := fun M1 rr1 q1 i261_1 q2 q3 => ?s1) (s2 := fun M1 rr1 q1 i261_1 q2 q3 => ?s2) (s3 := fun M1 rr1 q1 i261_1 q2 q3 => ?s3) (k1 := fun M1 rr1 q1 q2 => ?k1) (k2 := fun M1 rr1 q1 q2 => ?k2) (k3 := fun M1 rr1 q1 => ?k3)
  case s1 =>
    have b1 := RI_b rr1.1.1
    have z1 := if01_1 q1
    omega
  case s2 =>
    have b1 := RI_b rr1.1.1
    have z1 := if01_1 q1
    omega
  case s3 =>
    have b1 := RI_b rr1.1.1
    have z1 := if01_1 q1
    omega
  case k1 =>
    have b1 := RI_b rr1.1.1
    have z1 := if01_1 q1
    refine q_eq ?_ (hQ M1 ⟨rr1.1.1, rr1.2⟩)
    rw [hfe _ rr1.1 (by omega)] at q2 ⊢; rw [rY0 rr1.1.1] at q2
    unfold aBea aFnd; rw [if_pos (by omega), if_pos q2]
  case k2 =>
    have b1 := RI_b rr1.1.1
    have z1 := if01_1 q1
    refine q_eq ?_ (hQ M1 ⟨rr1.1.1, rr1.2⟩)
    rw [hfe _ rr1.1 (by omega), rY0 rr1.1.1] at q2
    unfold aBea aFnd; rw [if_pos (by omega), if_neg q2]
  case k3 =>
    have b1 := RI_b rr1.1.1
    have z1 := if01_0 q1
    refine q_eq ?_ (hQ M1 ⟨rr1.1.1, rr1.2⟩)
    unfold aBea; rw [if_neg (by omega)]
def aMos (W : dsW) (s : Int) : Int := if 0 ≤ s ∧ s ≤ wN W - 1 then dsIter (fun y a => if a < aH (P0 W) y s then aH (P0 W) y s else a) 0 (wY W + 1) 0 else -2
theorem cq93 {M : dsMem} {W : dsW} {s : Int} (h : CI M W) : bCt 93 [uR 10 0, uI s, uX 0, uX 0, uX 0] M (fun _ => [uI (aMos W s)]) (fun M' => CI M' W ∧ Fr CQ M M') := by
  intro Q hQ
  have b := CI_b h
  refine r93_0 (hA1 := fun _ => asNow_ct h) (s2 := fun q1 M1 rr1 i93_1 a93_1 q2 q3 => ?s2) (s3 := fun q1 M1 rr1 i93_1 a93_1 q2 q3 => ?s3) (s4 := fun q1 M1 rr1 i93_1 a93_1 q2 q3 => ?s4) (k1 := fun q1 M1 rr1 => ?k1) (k2 := fun q1 => ?k2)
  case s2 =>
    have b1 := CI_b rr1.1.1
    omega
  case s3 =>
    have b1 := CI_b rr1.1.1
    omega
  case s4 =>
    have b1 := CI_b rr1.1.1
    omega
  case k1 =>
    have b1 := CI_b rr1.1.1
    refine q_eq ?_ (hQ M1 ⟨rr1.1.1, rr1.2⟩)
    unfold aMos; rw [if_pos (by omega), cY1 rr1.1.1]; exact dsIter_congr _ _ (fun j c j0 j1 => by rw [cH rr1.1 (by omega) (by omega)])
  case k2 =>
    refine q_eq ?_ (hQ M ⟨h, Fr_refl⟩)
    unfold aMos; rw [if_neg (by omega)]
theorem rq262 {M : dsMem} {W : dsW} {s : Int} (h : RI0 M W) : bCt 262 [uR 11 84, uI s, uX 0, uX 0] M (fun _ => [uI (aMos W s)]) (fun M' => RI0 M' W ∧ Fr RQ M M') := by
  intro Q hQ
  have b := RI_b h
  refine r262_0 (hA1 :=  asksStone_ct h) (s1 := fun M1 rr1 q1 i262_1 a262_1 q2 q3 => ?s1) (s2 := fun M1 rr1 q1 i262_1 a262_1 q2 q3 => ?s2) (k1 := fun M1 rr1 q1 => ?k1) (k2 := fun M1 rr1 q1 => ?k2)
  case s1 =>
    have b1 := RI_b rr1.1.1
    have z1 := if01_1 q1
    omega
  case s2 =>
    have b1 := RI_b rr1.1.1
    have z1 := if01_1 q1
    omega
  case k1 =>
    have b1 := RI_b rr1.1.1
    have z1 := if01_1 q1
    refine q_eq ?_ (hQ M1 ⟨rr1.1.1, rr1.2⟩)
    unfold aMos; rw [if_pos (by omega), rY0 rr1.1.1]; exact dsIter_congr _ _ (fun j c j0 j1 => by rw [rH rr1.1 (by omega) (by omega)])
  case k2 =>
    have b1 := RI_b rr1.1.1
    have z1 := if01_0 q1
    refine q_eq ?_ (hQ M1 ⟨rr1.1.1, rr1.2⟩)
    unfold aMos; rw [if_neg (by omega)]
def aAll (W : dsW) (y : Int) : Int := if 0 < wLn W ∧ 0 ≤ y ∧ y ≤ wY W then wTot (P0 W) y else -2
theorem cq94 {M : dsMem} {W : dsW} {y : Int} (h : CI M W) : bCt 94 [uR 10 0, uI y] M (fun _ => [uI (aAll W y)]) (fun M' => CI M' W ∧ Fr CQ M M') := by
  intro Q hQ
  have b := CI_b h
  refine r94_0 (hA1 := fun _ => asNow_ct h) (k1 := fun q1 => ?k1) (s1 := fun q1 M1 rr1 i24_1 a24_1 q2 q3 => ?s1) (s2 := fun q1 M1 rr1 i24_1 a24_1 q2 q3 => ?s2) (s3 := fun q1 M1 rr1 i24_1 a24_1 q2 q3 => ?s3) (k2 := fun q1 M1 rr1 => ?k2)
  case k1 =>
    refine q_eq ?_ (hQ M ⟨h, Fr_refl⟩)
    unfold aAll; rw [if_neg (by omega)]
  case s1 =>
    have b1 := CI_b rr1.1.1
    omega
  case s2 =>
    have b1 := CI_b rr1.1.1
    omega
  case s3 =>
    have b1 := CI_b rr1.1.1
    omega
  case k2 =>
    have b1 := CI_b rr1.1.1
    refine q_eq ?_ (hQ M1 ⟨rr1.1.1, rr1.2⟩)
    unfold aAll; rw [if_pos (by omega)]; exact c24 rr1.1 (by omega)
theorem rq263 {M : dsMem} {W : dsW} {y : Int} (h : RI0 M W) : bCt 263 [uR 11 84, uI y] M (fun _ => [uI (aAll W y)]) (fun M' => RI0 M' W ∧ Fr RQ M M') := by
  intro Q hQ
  have b := RI_b h
  refine r263_0 (hA1 :=  asksYear_ct h) (k1 := fun M1 rr1 q1 => ?k1) (s1 := fun M1 rr1 q1 i242_1 a242_1 q2 q3 => ?s1) (s2 := fun M1 rr1 q1 i242_1 a242_1 q2 q3 => ?s2) (k2 := fun M1 rr1 q1 => ?k2)
  case k1 =>
    have b1 := RI_b rr1.1.1
    have z1 := if01_0 q1
    refine q_eq ?_ (hQ M1 ⟨rr1.1.1, rr1.2⟩)
    unfold aAll; rw [if_neg (by omega)]
  case s1 =>
    have b1 := RI_b rr1.1.1
    have z1 := if01_1 q1
    omega
  case s2 =>
    have b1 := RI_b rr1.1.1
    have z1 := if01_1 q1
    omega
  case k2 =>
    have b1 := RI_b rr1.1.1
    have z1 := if01_1 q1
    refine q_eq ?_ (hQ M1 ⟨rr1.1.1, rr1.2⟩)
    unfold aAll; rw [if_pos (by omega)]; exact r242 rr1.1 (by omega)
def wDee (P : dsP) (y : Int) (i : Int) (a : Int × Int) : Int × Int := if aH P y i ≤ a.2 then (a.1, a.2) else (i, aH P y i)
def aDee (W : dsW) (y : Int) : Int := if 0 < wLn W ∧ 0 ≤ y ∧ y ≤ wY W then (dsIter (wDee (P0 W) y) 0 (wN W) (-1, -1)).1 else -2
theorem cq95 {M : dsMem} {W : dsW} {y : Int} (h : CI M W) : bCt 95 [uR 10 0, uI y, uX 0, uX 0, uX 0, uX 0, uX 0] M (fun _ => [uI (aDee W y)]) (fun M' => CI M' W ∧ Fr CQ M M') := by
  intro Q hQ
  have b := CI_b h
  refine r95_0 (hA1 := fun _ => asNow_ct h) (s1 := fun q1 M1 rr1 i95_1 a95_1 q2 q3 => ?s1) (s2 := fun q1 M1 rr1 i95_1 a95_1 q2 q3 => ?s2) (s3 := fun q1 M1 rr1 i95_1 a95_1 q2 q3 => ?s3) (k1 := fun q1 M1 rr1 => ?k1) (k2 := fun q1 => ?k2)
  case s1 =>
    have b1 := CI_b rr1.1.1
    omega
  case s2 =>
    have b1 := CI_b rr1.1.1
    omega
  case s3 =>
    have b1 := CI_b rr1.1.1
    omega
  case k1 =>
    have b1 := CI_b rr1.1.1
    refine q_eq ?_ (hQ M1 ⟨rr1.1.1, rr1.2⟩)
    unfold aDee; rw [if_pos (by omega), cN5 rr1.1.1]; exact congrArg Prod.fst (dsIter_congr _ _ (fun j c j0 j1 => by rw [cH rr1.1 (by omega) ⟨j0, j1⟩]; rfl))
  case k2 =>
    refine q_eq ?_ (hQ M ⟨h, Fr_refl⟩)
    unfold aDee; rw [if_neg (by omega)]
theorem rq264 {M : dsMem} {W : dsW} {y : Int} (h : RI0 M W) : bCt 264 [uR 11 84, uI y, uX 0, uX 0] M (fun _ => [uI (aDee W y)]) (fun M' => RI0 M' W ∧ Fr RQ M M') := by
  intro Q hQ
  have b := RI_b h
  refine r264n_0 (hA1 := asksYear_ct h) (k1 := fun M1 rr1 q1 => ?_) (k2 := fun M1 rr1 q1 => ?_)
  · have b1 := RI_b rr1.1.1
    have z1 := if01_1 q1
    have fin := hQ M1 ⟨rr1.1.1, rr1.2⟩
    have key : ∀ x3 x2 g : Int, 0 ≤ x3 → ((x2 = -1 ∧ g = -1) ∨ (0 ≤ x2 ∧ x2 < wN W ∧ g = aH (P0 W) y x2)) → (dsIter (wDee (P0 W) y) x3 (wN W) (x2, g)).1 = aDee W y → bB 264 15 [uR 11 84, uI y, uI x2, uI x3] [] M1 Q := by
      refine ds_ind (P := fun x3 => ∀ x2 g : Int, 0 ≤ x3 → ((x2 = -1 ∧ g = -1) ∨ (0 ≤ x2 ∧ x2 < wN W ∧ g = aH (P0 W) y x2)) → (dsIter (wDee (P0 W) y) x3 (wN W) (x2, g)).1 = aDee W y → bB 264 15 [uR 11 84, uI y, uI x2, uI x3] [] M1 Q) (wN W) ?_ ?_
      · intro x3 h3 x2 g h0 hx e
        rw [dsIter_end h3] at e
        exact r264n_15 (k1 := fun q => q_eq e fin) (k2 := fun q => by omega) (k3 := fun q => by omega) (k4 := fun q => by omega)
      · intro x3 h3 ih x2 g h0 hx e
        rw [dsIter_step h3] at e
        have hb := rB rr1.1 (y := y) (s := x3) (by omega) (by omega)
        unfold wDee at e
        refine r264n_15 (k1 := fun q => by omega) (k2 := fun q q2 => ?_) (k3 := fun q q2 q3 => ?_) (k4 := fun q q2 q3 => ?_)
        · rw [if_neg (show ¬ aH (P0 W) y x3 ≤ g by omega)] at e
          exact ih x3 _ (by omega) (Or.inr ⟨h0, h3, rfl⟩) e
        · rw [rH rr1.1 (by omega) (by omega), rH rr1.1 (by omega) (by omega)] at q3
          rw [if_pos (show aH (P0 W) y x3 ≤ g by omega)] at e
          exact ih x2 g (by omega) hx e
        · rw [rH rr1.1 (by omega) (by omega), rH rr1.1 (by omega) (by omega)] at q3
          rw [if_neg (show ¬ aH (P0 W) y x3 ≤ g by omega)] at e
          exact ih x3 _ (by omega) (Or.inr ⟨h0, h3, rfl⟩) e
    refine key 0 (-1) (-1) (by omega) (by omega) ?_
    unfold aDee
    rw [if_pos z1]
  · have b1 := RI_b rr1.1.1
    have z1 := if01_0 q1
    refine q_eq ?_ (hQ M1 ⟨rr1.1.1, rr1.2⟩)
    unfold aDee; rw [if_neg (by omega)]
