/-! what was seen: the worst, the best year to ask for; the class's questions -/
def cntV (h : Int → Int) (k v : Int) : Int := dsIter (fun j a => if h j = v then a + 1 else a) 0 k 0
theorem cntV_0 {h : Int → Int} {v : Int} : cntV h 0 v = 0 := by unfold cntV; rw [dsIter_end (by omega)]
theorem cntV_s {h : Int → Int} {k v : Int} (hk : 0 ≤ k) : cntV h (k + 1) v = if h k = v then cntV h k v + 1 else cntV h k v := by unfold cntV; rw [iter_last hk]
theorem cntV_b {h : Int → Int} {v : Int} : ∀ k : Nat, 0 ≤ cntV h k v ∧ cntV h k v ≤ k
  | 0 => by rw [show ((0 : Nat) : Int) = 0 from rfl, cntV_0]; omega
  | k + 1 => by
    have ih := cntV_b (h := h) (v := v) k
    rw [show ((k + 1 : Nat) : Int) = (k : Int) + 1 by omega, cntV_s (by omega)]
    split <;> omega
theorem cntV_bb {h : Int → Int} {k v : Int} (hk : 0 ≤ k) : 0 ≤ cntV h k v ∧ cntV h k v ≤ k := by
  have := cntV_b (h := h) (v := v) k.toNat
  rw [show ((k.toNat : Nat) : Int) = k by omega] at this
  exact this
def isMx (c : Int → Int) (w : Int) : Prop := (∀ v, 0 ≤ v → v < 61 → c v ≤ w) ∧ ∃ v, 0 ≤ v ∧ v < 61 ∧ c v = w
theorem isMx_u {c : Int → Int} {w w' : Int} (h : isMx c w) (h' : isMx c w') : w = w' := by
  obtain ⟨a, v, v0, v1, e⟩ := h
  obtain ⟨a', v', v0', v1', e'⟩ := h'
  have := a v' v0' v1'
  have := a' v v0 v1
  omega
def wst (h : Int → Int) (n : Int) : Int := dsIter (fun i a => if a < cntV h n i then cntV h n i else a) 0 61 0
theorem wst_mx {h : Int → Int} {n : Int} (hn : 0 ≤ n) : isMx (cntV h n) (wst h n) := by
  have key : ∀ k : Nat, (∀ v, 0 ≤ v → v < (k : Int) → cntV h n v ≤ dsIter (fun i a => if a < cntV h n i then cntV h n i else a) 0 (k : Int) 0) ∧ 0 ≤ dsIter (fun i a => if a < cntV h n i then cntV h n i else a) 0 (k : Int) 0 ∧ (dsIter (fun i a => if a < cntV h n i then cntV h n i else a) 0 (k : Int) 0 = 0 ∨ ∃ v, 0 ≤ v ∧ v < (k : Int) ∧ cntV h n v = dsIter (fun i a => if a < cntV h n i then cntV h n i else a) 0 (k : Int) 0) := by
    intro k
    induction k with
    | zero =>
      rw [show ((0 : Nat) : Int) = 0 from rfl, dsIter_end (by omega)]
      exact ⟨fun v v0 v1 => by omega, Int.le_refl _, Or.inl rfl⟩
    | succ k ih =>
      rw [show ((k + 1 : Nat) : Int) = (k : Int) + 1 by omega, iter_last (by omega)]
      obtain ⟨a, ha⟩ : ∃ a, dsIter (fun i a => if a < cntV h n i then cntV h n i else a) 0 (k : Int) 0 = a := ⟨_, rfl⟩
      rw [ha] at ih ⊢
      by_cases hc : a < cntV h n k
      · rw [if_pos hc]
        refine ⟨fun v v0 v1 => ?_, by omega, Or.inr ⟨k, by omega, by omega, rfl⟩⟩
        by_cases hv : v = k
        · subst hv; exact Int.le_refl _
        · have := ih.1 v v0 (by omega); omega
      · rw [if_neg hc]
        refine ⟨fun v v0 v1 => ?_, ih.2.1, ?_⟩
        · by_cases hv : v = k
          · subst hv; omega
          · exact ih.1 v v0 (by omega)
        · rcases ih.2.2 with q | ⟨v, v0, v1, e⟩
          · exact Or.inl q
          · exact Or.inr ⟨v, v0, by omega, e⟩
  have k61 := key 61
  rw [show ((61 : Nat) : Int) = 61 from rfl] at k61
  refine ⟨fun v v0 v1 => k61.1 v v0 v1, ?_⟩
  rcases k61.2.2 with q | ⟨v, v0, v1, e⟩
  · have h0 := k61.1 0 (by omega) (by omega)
    have := cntV_bb (h := h) (v := 0) hn
    exact ⟨0, by omega, by omega, by unfold wst; omega⟩
  · exact ⟨v, v0, v1, e⟩
theorem mx_step {h : Int → Int} {k w : Int} (hk : 0 ≤ k) (hh : 0 ≤ h k ∧ h k < 61) (m : isMx (cntV h k) w) : isMx (cntV h (k + 1)) (if w < cntV h k (h k) + 1 then cntV h k (h k) + 1 else w) := by
  obtain ⟨a, v, v0, v1, e⟩ := m
  have es : cntV h (k + 1) (h k) = cntV h k (h k) + 1 := by rw [cntV_s hk, if_pos rfl]
  have en : ∀ u, u ≠ h k → cntV h (k + 1) u = cntV h k u := fun u hu => by rw [cntV_s hk, if_neg (fun q => hu q.symm)]
  have ah := a (h k) hh.1 hh.2
  split
  · rename_i q
    refine ⟨fun u u0 u1 => ?_, h k, hh.1, hh.2, es⟩
    by_cases hu : u = h k
    · subst hu; omega
    · rw [en u hu]; have := a u u0 u1; omega
  · rename_i q
    refine ⟨fun u u0 u1 => ?_, ?_⟩
    · by_cases hu : u = h k
      · subst hu; omega
      · rw [en u hu]; exact a u u0 u1
    · by_cases hv : v = h k
      · subst hv; omega
      · exact ⟨v, v0, v1, by rw [en v hv]; exact e⟩
/-- worst of a year, the class -/
theorem worst_ct {M : dsMem} {y n : Int} {h : Int → Int} (hn : M 77 0 = n) (h0 : 0 ≤ n ∧ n ≤ 60) (hy : 0 ≤ y ∧ y < 13) (hh : ∀ k, 0 ≤ k → k < n → M 79 (k * 13 + y) = h k ∧ 0 ≤ h k ∧ h k ≤ 60) : bCt 34 [uR 7 77, uI y, uX 0, uX 0, uX 0] M (fun _ => [uI (wst h n)]) (fun M' => Fr (fun a _ => a = 80) M M') := by
  intro Q hQ
  refine r34_0 (k1 := ?_)
  refine b_loop (fun (a : Int) => [uR 7 77, uI y, uI a, uX 0, uX 0]) (fun a M' => (0 ≤ a ∧ a ≤ 61) ∧ (∀ v, 0 ≤ v → v < a → M' 80 v = 0) ∧ Fr (fun a _ => a = 80) M M') (fun a => (62 - a).toNat) ?_ 0 M ⟨by omega, fun v v0 v1 => by omega, Fr_refl⟩
  rintro x M1 ⟨hx, hz, hF⟩ ih
  refine r34_2 (k1 := fun q => ?_) (s1 := fun q => by omega) (s2 := fun q => by omega) (k2 := fun q => ?_)
  · have hx61 : x = 61 := by omega
    subst hx61
    refine b_loop (fun (a : Int × Int) => [uR 7 77, uI y, uI a.1, uI a.2, uX 0]) (fun a M' => (0 ≤ a.2 ∧ a.2 ≤ n) ∧ isMx (cntV h a.2) a.1 ∧ (∀ v, 0 ≤ v → v < 61 → M' 80 v = cntV h a.2 v) ∧ Fr (fun a _ => a = 80) M M') (fun a => (n - a.2).toNat) ?_ (0, 0) M1 ⟨⟨Int.le_refl _, h0.1⟩, ⟨fun v v0 v1 => by show cntV h 0 v ≤ 0; rw [cntV_0]; omega, 0, by omega, by omega, cntV_0⟩, fun v v0 v1 => by show M1 80 v = cntV h 0 v; rw [hz v v0 v1, cntV_0], hF⟩
    rintro ⟨x2, x3⟩ M2 ⟨h3, hm, hc, hF2⟩ ih2
    simp only at h3 hm hc
    show bB 34 25 [uR 7 77, uI y, uI x2, uI x3, uX 0] [] M2 Q
    have e77 : M2 77 0 = n := by rw [hF2 _ _ (by omega)]; exact hn
    have e79 : ¬ M2 77 0 ≤ x3 → M2 79 (x3 * 13 + y) = h x3 ∧ 0 ≤ h x3 ∧ h x3 ≤ 60 := fun q => by rw [hF2 _ _ (by omega)]; exact hh x3 (by omega) (by omega)
    have e80 : ¬ M2 77 0 ≤ x3 → M2 80 (M2 79 (x3 * 13 + y)) = cntV h x3 (h x3) := fun q => by have := e79 q; rw [this.1]; exact hc _ this.2.1 (by omega)
    refine r34_25 (k1 := fun q => ?_) (s1 := fun q => by omega) (s2 := fun q => by have := e79 q; omega) (s3 := fun q => by have := e80 q; have := cntV_bb (h := h) (v := h x3) h3.1; omega) (s4 := fun q => by omega) (k2 := fun q => ?_)
    · have e3 : x3 = n := by omega
      subst e3
      exact q_eq (isMx_u hm (wst_mx h0.1)) (hQ M2 hF2)
    · rw [e80 q, (e79 q).1]
      refine ih2 (_, x3 + 1) _ (by show (n - (x3 + 1)).toNat < (n - x3).toNat; omega) ⟨by show 0 ≤ x3 + 1 ∧ x3 + 1 ≤ n; omega, mx_step h3.1 (by have := e79 q; omega) hm, fun v v0 v1 => ?_, Fr_set hF2 rfl⟩
      show dsSet M2 80 (h x3) (cntV h x3 (h x3) + 1) 80 v = cntV h (x3 + 1) v
      rw [cntV_s h3.1]
      by_cases hv : h x3 = v
      · subst hv; rw [ds_ge ⟨rfl, rfl⟩, if_pos rfl]
      · rw [ds_gn (Or.inr (fun u => hv u.symm)), if_neg hv]; exact hc v v0 v1
  · refine ih (x + 1) _ (by show (62 - (x + 1)).toNat < (62 - x).toNat; omega) ⟨by omega, fun v v0 v1 => ?_, Fr_set hF rfl⟩
    by_cases hv : v = x
    · subst hv; rw [ds_ge ⟨rfl, rfl⟩]
    · rw [ds_gn (Or.inr hv)]; exact hz v v0 (by omega)
abbrev wsG (g : gsT) (y : Int) : Int := wst (fun k => g.2.2 k y) g.1
def bYs (g : gsT) (y : Int) (a : Int × Int) : Int × Int := if a.2 ≤ wsG g y then a else (y, wsG g y)
def bYr (W : dsW) (g : gsT) : Int × Int := dsIter (bYs g) 0 (wY W + 1) (-1, g.1)
theorem bYr_ok {W : dsW} {g : gsT} (h : 0 ≤ wY W) : ((bYr W g).1 = -1 ∧ (bYr W g).2 = g.1) ∨ (0 ≤ (bYr W g).1 ∧ (bYr W g).1 ≤ wY W ∧ (bYr W g).2 = wsG g (bYr W g).1) := by
  unfold bYr
  refine dsIter_all (fun a : Int × Int => (a.1 = -1 ∧ a.2 = g.1) ∨ (0 ≤ a.1 ∧ a.1 ≤ wY W ∧ a.2 = wsG g a.1)) 0 _ (Or.inl ⟨rfl, rfl⟩) (fun j b j0 j1 hb => ?_)
  unfold bYs
  split
  · exact hb
  · exact Or.inr ⟨j0, by show j ≤ wY W; omega, rfl⟩
def GBd (W : dsW) (g : gsT) : Prop := 0 ≤ g.1 ∧ g.1 ≤ 60 ∧ ∀ k y, 0 ≤ k → k < g.1 → 0 ≤ g.2.2 k y ∧ g.2.2 k y ≤ 60
theorem gFin_bd {W : dsW} {S : slT} {t s : Int} (hW : WOK W) (hs : 0 ≤ s ∧ s < wN W) : GBd W (gFin W S t s) := by
  have := gN_b (S := S) (t := t) hW hs 60 (by omega)
  exact ⟨this.1, by have := this.2.1; unfold gFin; omega, this.2.2⟩
theorem worstG_ct {M : dsMem} {W : dsW} {g : gsT} {y : Int} (hW : WOK W) (hG : GCs M W g) (hb : GBd W g) (hy : 0 ≤ y ∧ y ≤ wY W) : bCt 34 [uR 7 77, uI y, uX 0, uX 0, uX 0] M (fun _ => [uI (wsG g y)]) (fun M' => Fr (fun a _ => a = 80) M M') :=
  have hw := hW.1
  worst_ct hG.1 ⟨hb.1, hb.2.1⟩ (by omega) (fun k k0 k1 => ⟨(hG.2 k k0 k1).2 y hy.1 hy.2, hb.2.2 k y k0 k1⟩)
theorem bestY_ct {M : dsMem} {W : dsW} {g : gsT} (hW : WOK W) (hG : GCs M W g) (hb : GBd W g) {yr : Int} (hyr : yr = wY W) : bCt 35 [uR 7 77, uI yr, uX 0, uX 0, uX 0, uX 0] M (fun _ => [uI (bYr W g).1]) (fun M' => Fr (fun a _ => a = 80) M M') := by
  intro Q hQ
  have hw := hW.1
  subst hyr
  refine r35_0 (k1 := ?_)
  rw [hG.1]
  refine b_loop (fun (a : Int × Int × Int) => [uR 7 77, uI (wY W), uI a.1, uI a.2.1, uI a.2.2, uX 0]) (fun a M' => 0 ≤ a.2.2 ∧ a.2.2 ≤ wY W + 1 ∧ dsIter (bYs g) a.2.2 (wY W + 1) (a.1, a.2.1) = bYr W g ∧ Fr (fun a _ => a = 80) M M') (fun a => (wY W + 1 - a.2.2).toNat) ?_ (-1, g.1, 0) M ⟨by show (0 : Int) ≤ 0; omega, by show (0 : Int) ≤ wY W + 1; omega, rfl, Fr_refl⟩
  rintro ⟨x2, x3, x4⟩ M1 ⟨h0, h1, e, hF⟩ ih
  simp only at h0 h1 e
  show bB 35 10 [uR 7 77, uI (wY W), uI x2, uI x3, uI x4, uX 0] [] M1 Q
  have hG1 : GCs M1 W g := GCs_e hG (fun a j q1 q2 => hF a j (by omega))
  refine r35_10 (k1 := fun q => ?_) (hA1 := fun q => worstG_ct hW hG1 hb (by omega)) (s1 := fun q M2 r q2 => by omega) (k2 := fun q M2 r q2 => ?_) (s2 := fun q M2 r q2 => by omega) (k3 := fun q M2 r q2 => ?_)
  · rw [dsIter_end (by omega)] at e
    refine q_eq ?_ (hQ M1 hF)
    rw [← e]
  · rw [dsIter_step (by omega)] at e
    unfold bYs at e
    rw [if_pos q2] at e
    exact ih (x2, x3, x4 + 1) M2 (by show (wY W + 1 - (x4 + 1)).toNat < (wY W + 1 - x4).toNat; omega) ⟨by show 0 ≤ x4 + 1; omega, by show x4 + 1 ≤ wY W + 1; omega, e, Fr_trans hF r⟩
  · rw [dsIter_step (by omega)] at e
    unfold bYs at e
    rw [if_neg q2] at e
    exact ih (x4, _, x4 + 1) M2 (by show (wY W + 1 - (x4 + 1)).toNat < (wY W + 1 - x4).toNat; omega) ⟨by show 0 ≤ x4 + 1; omega, by show x4 + 1 ≤ wY W + 1; omega, e, Fr_trans hF r⟩
-- the answers
def aSeen (W : dsW) (S : slT) (t s : Int) (f : gsT → Int) : Int := if 0 ≤ aRfs W S t s then f (gFin W S t s) else aRfs W S t s
def fRoo (g : gsT) : Int := g.1
def fLea (g : gsT) : Int := if g.1 = 0 then -1 else g.2.1 0
def fGre (g : gsT) : Int := if g.1 = 0 then -1 else g.2.1 (g.1 - 1)
def fAsk (W : dsW) (g : gsT) : Int := (bYr W g).1
def fLvs (W : dsW) (g : gsT) : Int := (bYr W g).2
theorem Fr_80 {M M' : dsMem} (h : Fr (fun a _ => a = 80) M M') : Fr CQ2 M M' := Fr_mono (fun a j q => by unfold CQ2; omega) h
theorem aGs_0 {W : dsW} {S : slT} {t s : Int} (q : ¬ 0 ≤ aRfs W S t s) {f : gsT → Int} : aGs W S t s = aSeen W S t s f := by
  unfold aGs aSeen; rw [if_neg q, if_neg q]
theorem cq117 {M : dsMem} {W : dsW} {S : slT} {t s : Int} (h : CI M W) (hs : CSl M S) : bCt 117 [uR 10 0, uI t, uI s] M (fun _ => [uI (aSeen W S t s fRoo)]) (fun M' => CI M' W ∧ Fr CQ M M') := by
  intro Q hQ
  exact r117_0 (hA1 := guess_ct h hs) (k1 := fun M1 r1 => hQ M1 ⟨r1.1, CQ2_q r1.2.2⟩)
theorem cq118 {M : dsMem} {W : dsW} {S : slT} {t s : Int} (h : CI M W) (hs : CSl M S) : bCt 118 [uR 10 0, uI t, uI s, uX 0] M (fun _ => [uI (aSeen W S t s fLea)]) (fun M' => CI M' W ∧ Fr CQ M M') := by
  intro Q hQ
  refine r118_0 (hA1 := guess_ct h hs) (k1 := fun M1 r1 q => q_eq ?_ (hQ M1 ⟨r1.1, CQ2_q r1.2.2⟩)) (k2 := fun M1 r1 q => q_eq (aGs_0 (aGs_n h.1 q)) (hQ M1 ⟨r1.1, CQ2_q r1.2.2⟩))
  have q := aGs_p q
  have r2 := r1.2.1 q
  have b := gFin_bd (S := S) (t := t) h.1 (aRfs_ok q).2
  unfold aSeen; rw [if_pos q]
  unfold v32 fLea
  rw [r2.1]
  split
  · rfl
  · exact (r2.2 0 (by omega) (by have := b.1; omega)).1
theorem cq119 {M : dsMem} {W : dsW} {S : slT} {t s : Int} (h : CI M W) (hs : CSl M S) : bCt 119 [uR 10 0, uI t, uI s, uX 0] M (fun _ => [uI (aSeen W S t s fGre)]) (fun M' => CI M' W ∧ Fr CQ M M') := by
  intro Q hQ
  refine r119_0 (hA1 := guess_ct h hs) (s1 := fun M1 r1 q q2 => by have q := aGs_p q; have b := gFin_bd (S := S) (t := t) h.1 (aRfs_ok q).2; have b1 := b.1; have b2 := b.2.1; have := (r1.2.1 q).1; omega) (k1 := fun M1 r1 q => q_eq ?_ (hQ M1 ⟨r1.1, CQ2_q r1.2.2⟩)) (k2 := fun M1 r1 q => q_eq (aGs_0 (aGs_n h.1 q)) (hQ M1 ⟨r1.1, CQ2_q r1.2.2⟩))
  have q := aGs_p q
  have r2 := r1.2.1 q
  have b := gFin_bd (S := S) (t := t) h.1 (aRfs_ok q).2
  unfold aSeen; rw [if_pos q]
  unfold v33 fGre
  rw [r2.1]
  split
  · rfl
  · exact (r2.2 _ (by have := b.1; omega) (by omega)).1
theorem cq120 {M : dsMem} {W : dsW} {S : slT} {t s : Int} (h : CI M W) (hs : CSl M S) : bCt 120 [uR 10 0, uI t, uI s, uX 0] M (fun _ => [uI (aSeen W S t s (fAsk W))]) (fun M' => CI M' W ∧ Fr CQ M M') := by
  intro Q hQ
  refine r120_0 (hA1 := guess_ct h hs) (hA2 := fun M1 r1 q => bestY_ct h.1 (r1.2.1 (aGs_p q)) (gFin_bd h.1 (aRfs_ok (aGs_p q)).2) (cY1 r1.1)) (k1 := fun M1 r1 q M2 r2 => q_eq ?_ (hQ M2 ⟨CI_q r1.1 (Fr_80 r2), CQ2_q (Fr_trans r1.2.2 (Fr_80 r2))⟩)) (k2 := fun M1 r1 q => q_eq (aGs_0 (aGs_n h.1 q)) (hQ M1 ⟨r1.1, CQ2_q r1.2.2⟩))
  unfold aSeen; rw [if_pos (aGs_p q)]; rfl
theorem cq121 {M : dsMem} {W : dsW} {S : slT} {t s : Int} (h : CI M W) (hs : CSl M S) : bCt 121 [uR 10 0, uI t, uI s, uX 0, uX 0] M (fun _ => [uI (aSeen W S t s (fLvs W))]) (fun M' => CI M' W ∧ Fr CQ M M') := by
  intro Q hQ
  have hw := h.1.1
  have by1 := bYr_ok (W := W) (g := gFin W S t s) (by omega)
  refine r121_0 (hA1 := guess_ct h hs) (hA2 := fun M1 r1 q => bestY_ct h.1 (r1.2.1 (aGs_p q)) (gFin_bd h.1 (aRfs_ok (aGs_p q)).2) (cY1 r1.1)) (hA3 := fun M1 r1 q M2 r2 q3 => worstG_ct h.1 (GCs_e (r1.2.1 (aGs_p q)) (fun a j u1 u2 => r2 a j (by omega))) (gFin_bd h.1 (aRfs_ok (aGs_p q)).2) (by omega)) (k1 := fun M1 r1 q M2 r2 q3 M3 r3 => q_eq ?_ (hQ M3 ⟨CI_q r1.1 (Fr_80 (Fr_trans r2 r3)), CQ2_q (Fr_trans r1.2.2 (Fr_80 (Fr_trans r2 r3)))⟩)) (k2 := fun M1 r1 q M2 r2 q3 => q_eq ?_ (hQ M2 ⟨CI_q r1.1 (Fr_80 r2), CQ2_q (Fr_trans r1.2.2 (Fr_80 r2))⟩)) (k3 := fun M1 r1 q => q_eq (aGs_0 (aGs_n h.1 q)) (hQ M1 ⟨r1.1, CQ2_q r1.2.2⟩))
  · unfold aSeen; rw [if_pos (aGs_p q)]
    unfold fLvs
    rcases by1 with u | u
    · exact absurd u.1 q3
    · exact u.2.2.symm
  · unfold aSeen aGs; rw [if_pos (aGs_p q), if_pos (aGs_p q)]
    unfold fLvs
    rcases by1 with u | u
    · exact u.2.symm
    · omega
def lwS (W : dsW) (S : slT) (t l a : Int) : Int := if seenB (PLw W l) S t = true then dsOr a (dsShl 1 l) else a
def aLws (W : dsW) (S : slT) (t : Int) : Int := if 0 ≤ aRef W S t then dsIter (lwS W S t) 0 4 0 else aRef W S t
theorem cq122 {M : dsMem} {W : dsW} {S : slT} {t : Int} (h : CI M W) (hs : CSl M S) : bCt 122 [uR 10 0, uI t, uX 0, uX 0, uX 0] M (fun _ => [uI (aLws W S t)]) (fun M' => CI M' W ∧ Fr CQ M M') := by
  intro Q hQ
  refine r122_0 (hA1 := ref_ct h hs) (k1 := fun M1 r1 q => ?_) (k2 := fun M1 r1 q => q_eq ?_ (hQ M1 (by subst r1; exact ⟨h, Fr_refl⟩)))
  · subst r1
    have ok := aRef_ok q
    refine b_loop (fun (a : Int × Int) => [uR 10 0, uI t, uX 0, uI a.1, uI a.2]) (fun a M' => (0 ≤ a.2 ∧ a.2 ≤ 4) ∧ dsIter (lwS W S t) a.2 4 a.1 = aLws W S t ∧ Fr CQ2 M1 M') (fun a => (4 - a.2).toNat) ?_ (0, 0) M1 ⟨by show (0 : Int) ≤ 0 ∧ (0 : Int) ≤ 4; omega, by unfold aLws; rw [if_pos q], Fr_refl⟩
    rintro ⟨x3, x4⟩ M' ⟨h4, e, hF⟩ ih
    simp only at h4 e
    have hI := CI_q h hF
    have hS := CSl_q hs (CQ2_q hF)
    show bB 122 17 [uR 10 0, uI t, uX 0, uI x3, uI x4] [] M' Q
    refine r122_17 (k1 := fun q => ?_) (hA1 := fun q => byl_ct hI (by omega)) (hA2 := fun q M2 r2 => seen_ct h.1 (CSl_q hS (CQ2_q r2.2)) r2.1 rfl rfl ok) (s1 := fun q M2 r2 M3 r3 q2 => by omega) (k2 := fun q M2 r2 M3 r3 q2 => ?_) (s2 := fun q M2 r2 M3 r3 q2 => by omega) (k3 := fun q M2 r2 M3 r3 q2 => ?_)
    · rw [dsIter_end (by omega)] at e
      exact q_eq e (hQ M' ⟨hI, CQ2_q hF⟩)
    · subst r3
      rw [dsIter_step (by omega)] at e
      unfold lwS at e
      rw [if_neg (if01_0 q2)] at e
      exact ih (x3, x4 + 1) M3 (by show (4 - (x4 + 1)).toNat < (4 - x4).toNat; omega) ⟨by show 0 ≤ x4 + 1 ∧ x4 + 1 ≤ 4; omega, e, Fr_trans hF r2.2⟩
    · subst r3
      rw [dsIter_step (by omega)] at e
      unfold lwS at e
      rw [if_pos (if01_1 q2)] at e
      exact ih (_, x4 + 1) M3 (by show (4 - (x4 + 1)).toNat < (4 - x4).toNat; omega) ⟨by show 0 ≤ x4 + 1 ∧ x4 + 1 ≤ 4; omega, e, Fr_trans hF r2.2⟩
  · unfold aLws; rw [if_neg q]
