/-! what is heard: sums and bits -/
theorem rain_WS {P : dsP} (hP : POK P) {k n : Int} (hk : 1 ≤ k ∧ k ≤ 5) (hn : 1 ≤ n ∧ n ≤ 20) {S : dsS} (h : WS P S) : WS P (dsRain P k n S) := by
  unfold dsRain
  refine dsIter_all (WS P) 0 S h (fun j b j0 j1 hb => ?_)
  have hw := hP.2.1 j j0 j1
  exact (drink_inv hP hk j0 (wide_le hn ⟨hw.2.2.1, hw.2.2.2.1⟩).1 hb).1
theorem rains_WS {P : dsP} (hP : POK P) (y : Int) {S : dsS} (h : WS P S) : WS P (dsRains P y S) := by
  unfold dsRains
  refine dsIter_all (WS P) 0 S h (fun j b j0 j1 hb => ?_)
  have hq := hP.2.2.2.1 y j
  cases he : pRf P y j with
  | none => exact hb
  | some q =>
    have h2 := hq q he
    exact rain_WS hP ⟨h2.1, h2.2.1⟩ ⟨h2.2.2.1, h2.2.2.2⟩ hb
theorem tap_WS {P : dsP} {s n : Int} {S : dsS} (h : WS P S) : WS P (dsTap s n S) := by
  intro t t0 t1
  have ht := h t t0 t1
  show dyWl (dsUpd (sL S) s (dyDr (sL S s) n) t) ∧ dySum (dsUpd (sL S) s (dyDr (sL S s) n) t) ≤ pRoom P t
  by_cases e : t = s
  · subst e
    rw [dsUpd_eq, dyDr_sum ht.1]
    have := dyAm_nn (n := n) ht.1
    exact ⟨dyDr_wl ht.1, by omega⟩
  · rw [dsUpd_ne e]; exact ht
theorem save_WS {P : dsP} (hP : POK P) (y : Int) {S : dsS} (h : WS P S) : WS P (dsSave P y S) := by
  unfold dsSave
  refine dsIter_all (WS P) 0 S h (fun j b j0 j1 hb => ?_)
  show WS P (if pSv P y j = true then dsEmpty b j 0 else b)
  split
  · exact WS_emp hP hb
  · exact hb
theorem sinks_WS {P : dsP} (hP : POK P) {S : dsS} (h : WS P S) : WS P (dsSinks P S) := by
  unfold dsSinks
  exact dsIter_all (WS P) 0 S h (fun j b j0 j1 hb => (sink_inv hP ⟨j0, j1⟩ hb).1)
def gAB (S : dsS) : (Int → Int → Int) × (Int → Int) × (Int → Int) := (sB S, sA S, sF S)
theorem pour_g {P : dsP} {S : dsS} {s k n : Int} : gAB (dsPour P S s k n).1 = gAB S := by
  unfold dsPour; split <;> rfl
theorem drkN_g {P : dsP} {f k : Int} : ∀ (j : Nat) (s : Int) (S : dsS) (r : Int), gAB (dsDrkN P f k j s S r).1 = gAB S
  | 0, _, _, _ => rfl
  | j + 1, s, S, r => by
    rw [dsDrkN]
    split
    · rfl
    · split
      · split
        · rw [drkN_g j, pour_g]
        · rfl
      · exact drkN_g j _ _ _
theorem rains_g {P : dsP} {y : Int} (S : dsS) : gAB (dsRains P y S) = gAB S := by
  unfold dsRains
  refine dsIter_pres (g := gAB) (fun j b => ?_) _ _
  cases pRf P y j with
  | none => rfl
  | some q =>
    show gAB (dsRain P q.1 q.2 b) = gAB b
    unfold dsRain
    refine dsIter_pres (g := gAB) (fun j b => ?_) _ _
    show gAB (dsDrkN P j q.1 _ j b _).1 = gAB b
    exact drkN_g _ _ _ _
theorem save_g {P : dsP} {y : Int} (S : dsS) : gAB (dsSave P y S) = gAB S := by
  unfold dsSave
  refine dsIter_pres (g := gAB) (fun j b => ?_) _ _
  show gAB (if pSv P y j = true then dsEmpty b j 0 else b) = gAB b
  split <;> rfl
theorem sinks_g {P : dsP} (S : dsS) : gAB (dsSinks P S) = gAB S := by
  unfold dsSinks
  refine dsIter_pres (g := gAB) (fun w b => ?_) _ _
  show gAB (dsSink P w b) = gAB b
  unfold dsSink
  split
  · split
    · rfl
    · unfold dsFell
      refine (dsIter_pres (g := gAB) (fun j b => ?_) _ _).trans rfl
      show gAB (if pOn P j = w then dsEmpty b j (dySum (sL b j)) else b) = gAB b
      split <;> rfl
  · rfl
-- sums
def dsSm (f : Int → Int) (i n a : Int) : Int := dsIter (fun s a => a + f s) i n a
theorem sm_a (f : Int → Int) {n : Int} : ∀ i a : Int, dsSm f i n a = a + dsSm f i n 0 := by
  refine ds_ind n ?_ ?_
  · intro i hi a; unfold dsSm; rw [dsIter_end hi, dsIter_end hi]; omega
  · intro i hi ih a
    have h1 := ih (a + f i)
    have h2 := ih (0 + f i)
    unfold dsSm at h1 h2 ⊢
    rw [dsIter_step hi, dsIter_step hi, h1, h2]; omega
theorem sm_upd {f g : Int → Int} {s n : Int} (hs : 0 ≤ s ∧ s < n) (h : ∀ t, t ≠ s → g t = f t) : dsSm g 0 n 0 = dsSm f 0 n 0 + (g s - f s) := by
  have e : ∀ q : Int → Int, dsSm q 0 n 0 = dsSm q 0 s 0 + q s + dsSm q (s + 1) n 0 := by
    intro q
    have h1 : dsSm q 0 n 0 = dsSm q s n (dsSm q 0 s 0) := dsIter_split (m := s) (by omega) 0 (by omega) 0
    have h2 : dsSm q s n (dsSm q 0 s 0) = dsSm q (s + 1) n (dsSm q 0 s 0 + q s) := dsIter_step hs.2
    rw [h1, h2, sm_a q (s + 1)]
  have e1 : dsSm g 0 s 0 = dsSm f 0 s 0 := dsIter_congr _ _ (fun j b j0 j1 => by rw [h j (by omega)])
  have e2 : dsSm g (s + 1) n 0 = dsSm f (s + 1) n 0 := dsIter_congr _ _ (fun j b j0 j1 => by rw [h j (by omega)])
  rw [e g, e f, e1, e2]; omega
theorem sm_w (f : Int → Int) {n : Int} : ∀ i a : Int, dsIter (fun s a => dsw (a + dsw (f s))) i n (dsw a) = dsw (dsSm f i n a) := by
  refine ds_ind n ?_ ?_
  · intro i hi a; unfold dsSm; rw [dsIter_end hi, dsIter_end hi]
  · intro i hi ih a
    have h1 := ih (a + f i)
    unfold dsSm at h1 ⊢
    rw [dsIter_step hi, dsIter_step hi, ← h1]
    congr 1
    exact dsw_add (dsw_dsw a) (dsw_dsw _)
def ABg (P : dsP) (b : Int) (g : (Int → Int → Int) × (Int → Int) × (Int → Int)) : Prop :=
  (∀ k, g.2.1 k = dsSm (fun s => g.1 s k) 0 (pN P) 0) ∧ (∀ s k, 0 ≤ s → s < pN P → 0 ≤ g.1 s k ∧ g.1 s k ≤ b) ∧
  (∀ s, 0 ≤ s → s < pN P → g.2.2 s = bit5 (!decide (g.1 s 1 ≤ 0)) (!decide (g.1 s 2 ≤ 0)) (!decide (g.1 s 3 ≤ 0)) (!decide (g.1 s 4 ≤ 0)) (!decide (g.1 s 5 ≤ 0)) 0)
theorem bit5_mrg : ∀ b1 b2 b3 b4 b5 c1 c2 c3 c4 c5 : Bool, bit5 c1 c2 c3 c4 c5 (bit5 b1 b2 b3 b4 b5 0) = bit5 (b1 || c1) (b2 || c2) (b3 || c3) (b4 || c4) (b5 || c5) 0 := by decide +kernel
theorem or_dec {x d : Int} (hx : 0 ≤ x) (hd : 0 ≤ d) : (!decide (x ≤ 0) || !decide (d ≤ 0)) = !decide (x + d ≤ 0) := by
  by_cases h1 : x ≤ 0
  · by_cases h2 : d ≤ 0
    · rw [decide_eq_true h1, decide_eq_true h2, decide_eq_true (show x + d ≤ 0 by omega)]; rfl
    · rw [decide_eq_true h1, decide_eq_false h2, decide_eq_false (show ¬ x + d ≤ 0 by omega)]; rfl
  · rw [decide_eq_false h1, decide_eq_false (show ¬ x + d ≤ 0 by omega)]; rfl
theorem tap_AB {P : dsP} {b s n : Int} {S : dsS} (hs : 0 ≤ s ∧ s < pN P) (hn : 1 ≤ n ∧ n ≤ 60) (hS : WS P S) (h : ABg P b (gAB S)) : ABg P (b + 60) (gAB (dsTap s n S)) := by
  obtain ⟨h1, h2, h3⟩ := h
  have hw := (hS s hs.1 hs.2).1
  have hd : ∀ k, 0 ≤ dyDrs (sL S s) n k ∧ dyDrs (sL S s) n k ≤ 60 := fun k => ⟨dyDrs_nn hw, Int.le_trans (dyDrs_le hw) (Int.le_trans (dyAm_le (by omega)) hn.2)⟩
  refine ⟨fun k => ?_, fun t k t0 t1 => ?_, fun t t0 t1 => ?_⟩
  · show sA S k + dyDrs (sL S s) n k = dsSm (fun t => dsUpd (sB S) s (fun k => sB S s k + dyDrs (sL S s) n k) t k) 0 (pN P) 0
    have e : sA S k = dsSm (fun t => sB S t k) 0 (pN P) 0 := h1 k
    rw [sm_upd (f := fun t => sB S t k) hs (fun t ht => by rw [dsUpd_ne ht]), ← e, dsUpd_eq]
    omega
  · show 0 ≤ dsUpd (sB S) s (fun k => sB S s k + dyDrs (sL S s) n k) t k ∧ dsUpd (sB S) s (fun k => sB S s k + dyDrs (sL S s) n k) t k ≤ b + 60
    have e : 0 ≤ sB S t k ∧ sB S t k ≤ b := h2 t k t0 t1
    have := hd k
    by_cases ht : t = s
    · subst ht; rw [dsUpd_eq]; omega
    · rw [dsUpd_ne ht]; omega
  · have e : sF S t = bit5 (!decide (sB S t 1 ≤ 0)) (!decide (sB S t 2 ≤ 0)) (!decide (sB S t 3 ≤ 0)) (!decide (sB S t 4 ≤ 0)) (!decide (sB S t 5 ≤ 0)) 0 := h3 t t0 t1
    have e2 : ∀ k, 0 ≤ sB S t k := fun k => (h2 t k t0 t1).1
    show dsUpd (sF S) s _ t = bit5 (!decide (dsUpd (sB S) s _ t 1 ≤ 0)) (!decide (dsUpd (sB S) s _ t 2 ≤ 0)) (!decide (dsUpd (sB S) s _ t 3 ≤ 0)) (!decide (dsUpd (sB S) s _ t 4 ≤ 0)) (!decide (dsUpd (sB S) s _ t 5 ≤ 0)) 0
    by_cases ht : t = s
    · subst ht
      rw [dsUpd_eq, dsUpd_eq, e]
      have e3 := bit5_iter (c := fun k => dyDrs (sL S t) n k ≤ 0) (bit5 (!decide (sB S t 1 ≤ 0)) (!decide (sB S t 2 ≤ 0)) (!decide (sB S t 3 ≤ 0)) (!decide (sB S t 4 ≤ 0)) (!decide (sB S t 5 ≤ 0)) 0)
      have e4 : dsIter (fun k b => if 0 < dyDrs (sL S t) n k then dsOr b (dsShl 1 k) else b) 1 6 (bit5 (!decide (sB S t 1 ≤ 0)) (!decide (sB S t 2 ≤ 0)) (!decide (sB S t 3 ≤ 0)) (!decide (sB S t 4 ≤ 0)) (!decide (sB S t 5 ≤ 0)) 0) = dsIter (fun k b => if dyDrs (sL S t) n k ≤ 0 then b else dsOr b (dsShl 1 k)) 1 6 (bit5 (!decide (sB S t 1 ≤ 0)) (!decide (sB S t 2 ≤ 0)) (!decide (sB S t 3 ≤ 0)) (!decide (sB S t 4 ≤ 0)) (!decide (sB S t 5 ≤ 0)) 0) := by
        refine dsIter_congr _ _ (fun k b _ _ => ?_)
        by_cases hk : dyDrs (sL S t) n k ≤ 0
        · rw [if_pos hk, if_neg (by omega)]
        · rw [if_neg hk, if_pos (by omega)]
      rw [e4, e3, bit5_mrg]
      rw [or_dec (e2 1) (hd 1).1, or_dec (e2 2) (hd 2).1, or_dec (e2 3) (hd 3).1, or_dec (e2 4) (hd 4).1, or_dec (e2 5) (hd 5).1]
    · rw [dsUpd_ne ht, dsUpd_ne ht]; exact e
theorem AB_le {P : dsP} {b c : Int} {g : (Int → Int → Int) × (Int → Int) × (Int → Int)} (h : ABg P b g) (hc : b ≤ c) : ABg P c g := ⟨h.1, fun s k s0 s1 => ⟨(h.2.1 s k s0 s1).1, Int.le_trans (h.2.1 s k s0 s1).2 hc⟩, h.2.2⟩
theorem taps_AB {P : dsP} (hP : POK P) (hT : 0 ≤ pTn P) {y b : Int} {S : dsS} (hS : WS P S) (h : ABg P b (gAB S)) : WS P (dsTaps P y S) ∧ ABg P (b + 60 * pTn P) (gAB (dsTaps P y S)) := by
  unfold dsTaps
  refine dsIter_inv (fun i S => WS P S ∧ ABg P (b + 60 * i) (gAB S)) hT ⟨hS, AB_le h (by omega)⟩ (fun j S j0 j1 hb => ?_)
  have hq := hP.2.2.2.2 y j
  cases he : pTf P y j with
  | none => exact ⟨hb.1, AB_le hb.2 (by omega)⟩
  | some q =>
    have h2 := hq q he
    refine ⟨tap_WS hb.1, ?_⟩
    rw [show b + 60 * (j + 1) = b + 60 * j + 60 by omega]
    exact tap_AB ⟨h2.1, h2.2.1⟩ ⟨h2.2.2.1, h2.2.2.2⟩ hb.1 hb.2
theorem stN_AB {P : dsP} (hP : POK P) (hT : 0 ≤ pTn P ∧ pTn P ≤ 36) : ∀ k : Nat, WS P (dsStN P (dyInit P) 0 k) ∧ ABg P (2160 * k) (gAB (dsStN P (dyInit P) 0 k))
  | 0 => by
    refine ⟨fun s s0 s1 => ⟨dyWl_nil, (hP.2.1 s s0 s1).1⟩, fun k => ?_, fun s k _ _ => ⟨Int.le_refl _, by show (0 : Int) ≤ 2160 * ((0 : Nat) : Int); omega⟩, fun s _ _ => by show (0 : Int) = bit5 (!decide ((0 : Int) ≤ 0)) (!decide ((0 : Int) ≤ 0)) (!decide ((0 : Int) ≤ 0)) (!decide ((0 : Int) ≤ 0)) (!decide ((0 : Int) ≤ 0)) 0; decide⟩
    show (0 : Int) = dsIter (fun s a => a + 0) 0 (pN P) 0
    exact (dsIter_pres (g := fun a : Int => a) (fun j b => by show b + 0 = b; omega) 0 0).symm
  | k + 1 => by
    have h := stN_AB hP hT k
    show WS P (dsYear P (0 + k) (dsStN P (dyInit P) 0 k)) ∧ ABg P (2160 * ((k + 1 : Nat) : Int)) (gAB (dsYear P (0 + k) (dsStN P (dyInit P) 0 k)))
    unfold dsYear
    have h1 : WS P (dsRains P (0 + k) (dsSave P (0 + k) (dyNew (dsStN P (dyInit P) 0 k)))) := rains_WS hP _ (save_WS hP _ (WS_new h.1))
    have h2 : ABg P (2160 * k) (gAB (dsRains P (0 + k) (dsSave P (0 + k) (dyNew (dsStN P (dyInit P) 0 k))))) := by
      rw [rains_g, save_g]; exact h.2
    have h3 := taps_AB hP hT.1 (y := 0 + k) h1 h2
    refine ⟨sinks_WS hP h3.1, ?_⟩
    rw [sinks_g]
    exact AB_le h3.2 (by omega)
theorem stP_WS {P : dsP} (hP : POK P) (hT : 0 ≤ pTn P ∧ pTn P ≤ 36) (y : Int) : WS P (stP P y) := (stN_AB hP hT _).1
theorem P0_T {W : dsW} (h : WOK W) : 0 ≤ pTn (P0 W) ∧ pTn (P0 W) ≤ 36 := by
  have := h.1
  show 0 ≤ evN (wT W) + evN (wA W) ∧ evN (wT W) + evN (wA W) ≤ 36
  omega
def aHrd (W : dsW) (k : Int) : Int := if (1 ≤ k ∧ k ≤ 5) ∧ 0 < wLn W then dsw (sA (stP (P0 W) (pY (P0 W))) k) else -2
theorem cq102 {M : dsMem} {W : dsW} {k : Int} (h : CI M W) : bCt 102 [uR 10 0, uI k] M (fun _ => [uI (aHrd W k)]) (fun M' => CI M' W ∧ Fr CQ M M') := by
  intro Q hQ
  have b := CI_b h
  refine r102_0 (hA1 := fun _ _ => asNow_ct h) (k1 := fun q1 => ?k1) (k2 := fun q1 q2 => ?k2) (s1 := fun q1 q2 M1 rr1 => ?s1) (k3 := fun q1 q2 M1 rr1 => ?k3)
  case k1 =>
    refine q_eq ?_ (hQ M ⟨h, Fr_refl⟩)
    unfold aHrd; rw [if_neg (by omega)]
  case k2 =>
    refine q_eq ?_ (hQ M ⟨h, Fr_refl⟩)
    unfold aHrd; rw [if_neg (by omega)]
  case s1 =>
    have b1 := CI_b rr1.1.1
    omega
  case k3 =>
    have b1 := CI_b rr1.1.1
    refine q_eq ?_ (hQ M1 ⟨rr1.1.1, rr1.2⟩)
    unfold aHrd; rw [if_pos (by omega)]; exact (cfr rr1.1).2.2.1.1 k (by omega) (by omega)
theorem rq272 {M : dsMem} {W : dsW} {k : Int} (h : RI0 M W) : bCt 272 [uR 11 84, uI k, uX 0, uX 0] M (fun _ => [uI (aHrd W k)]) (fun M' => RI0 M' W ∧ Fr RQ M M') := by
  intro Q hQ
  have b := RI_b h
  refine r272_0 (hA1 :=  asksChoir_ct h) (k1 := fun M1 rr1 q1 => ?k1) (s1 := fun M1 rr1 q1 q2 i272_1 a272_1 q3 q4 => ?s1) (s2 := fun M1 rr1 q1 q2 i272_1 a272_1 q3 q4 => ?s2) (k2 := fun M1 rr1 q1 q2 => ?k2) (k3 := fun M1 rr1 q1 q2 => ?k3)
  case k1 =>
    have b1 := RI_b rr1.1.1
    have z1 := if01_0 q1
    refine q_eq ?_ (hQ M1 ⟨rr1.1.1, rr1.2⟩)
    unfold aHrd; rw [if_neg (by omega)]
  case s1 =>
    have b1 := RI_b rr1.1.1
    have z1 := if01_1 q1
    omega
  case s2 =>
    have b1 := RI_b rr1.1.1
    have z1 := if01_1 q1
    omega
  case k2 =>
    have b1 := RI_b rr1.1.1
    have z1 := if01_1 q1
    refine q_eq ?_ (hQ M1 ⟨rr1.1.1, rr1.2⟩)
    unfold aHrd; rw [if_pos (by omega), rN4 rr1.1.1]
    have hA : sA (stP (P0 W) (pY (P0 W))) k = dsSm (fun s => sB (stP (P0 W) (pY (P0 W))) s k) 0 (wN W) 0 := (stN_AB (P0_ok h.1) (P0_T h.1) (pY (P0 W)).toNat).2.1 k
    rw [hA, ← sm_w]
    refine dsIter_congr _ _ (fun j c j0 j1 => ?_)
    rw [(rr1.1.2.2.2.2.1.2.2.2 j j0 j1).1 k (by omega) (by omega)]; rfl
  case k3 =>
    have b1 := RI_b rr1.1.1
    have z1 := if01_1 q1
    refine q_eq ?_ (hQ M1 ⟨rr1.1.1, rr1.2⟩)
    unfold aHrd; rw [if_neg (by omega)]
def aTls (W : dsW) (s : Int) : Int := if 0 ≤ s ∧ s ≤ wN W - 1 then sF (stP (P0 W) (pY (P0 W))) s else -2
theorem cq104 {M : dsMem} {W : dsW} {s : Int} (h : CI M W) : bCt 104 [uR 10 0, uI s] M (fun _ => [uI (aTls W s)]) (fun M' => CI M' W ∧ Fr CQ M M') := by
  intro Q hQ
  have b := CI_b h
  refine r104_0 (hA1 := fun _ => asNow_ct h) (k1 := fun q1 => ?k1) (s2 := fun q1 M1 rr1 => ?s2) (k2 := fun q1 M1 rr1 => ?k2)
  case k1 =>
    refine q_eq ?_ (hQ M ⟨h, Fr_refl⟩)
    unfold aTls; rw [if_neg (by omega)]
  case s2 =>
    have b1 := CI_b rr1.1.1
    omega
  case k2 =>
    have b1 := CI_b rr1.1.1
    refine q_eq ?_ (hQ M1 ⟨rr1.1.1, rr1.2⟩)
    unfold aTls; rw [if_pos (by omega)]; exact ((cfr rr1.1).2.2.1.2 s (by omega) (by show s < wN W; omega)).1
theorem rq274 {M : dsMem} {W : dsW} {s : Int} (h : RI0 M W) : bCt 274 [uR 11 84, uI s, uX 0, uX 0] M (fun _ => [uI (aTls W s)]) (fun M' => RI0 M' W ∧ Fr RQ M M') := by
  intro Q hQ
  have b := RI_b h
  refine r274_0 (hA1 :=  asksStone_ct h) (s1 := fun M1 rr1 q1 i274_1 a274_1 q2 q3 => ?s1) (s2 := fun M1 rr1 q1 i274_1 a274_1 q2 q3 => ?s2) (k1 := fun M1 rr1 q1 => ?k1) (k2 := fun M1 rr1 q1 => ?k2)
  case s1 =>
    have b1 := RI_b rr1.1.1
    have z1 := if01_1 q1
    omega
  case s2 =>
    have b1 := RI_b rr1.1.1
    have z1 := if01_1 q1
    omega
  case k1 =>
    have b1 := RI_b rr1.1.1
    have z1 := if01_1 q1
    refine q_eq ?_ (hQ M1 ⟨rr1.1.1, rr1.2⟩)
    unfold aTls; rw [if_pos (by omega)]
    have hAB := (stN_AB (P0_ok h.1) (P0_T h.1) (pY (P0 W)).toNat).2
    have hF : sF (stP (P0 W) (pY (P0 W))) s = _ := hAB.2.2 s (by omega) (by show s < wN W; omega)
    have hy : ((pY (P0 W)).toNat : Int) ≤ 12 := by show ((wY W).toNat : Int) ≤ 12; omega
    rw [hF, iter_or2 _ _ rfl]
    refine Eq.trans ?_ (bit5_iter (c := fun k => sB (stP (P0 W) (pY (P0 W))) s k ≤ 0) 0)
    refine dsIter_congr _ _ (fun k c k0 k1 => ?_)
    have hb : 0 ≤ sB (stP (P0 W) (pY (P0 W))) s k ∧ sB (stP (P0 W) (pY (P0 W))) s k ≤ 2160 * ((pY (P0 W)).toNat : Int) := hAB.2.1 s k (by omega) (by show s < wN W; omega)
    have e : M1 99 (6 * s + k) = dsw (sB (stP (P0 W) (pY (P0 W))) s k) := (rr1.1.2.2.2.2.1.2.2.2 s (by omega) (by show s < wN W; omega)).1 k (by omega) (by omega)
    rw [e, dsw_id (by omega) (by omega)]
  case k2 =>
    have b1 := RI_b rr1.1.1
    have z1 := if01_0 q1
    refine q_eq ?_ (hQ M1 ⟨rr1.1.1, rr1.2⟩)
    unfold aTls; rw [if_neg (by omega)]
