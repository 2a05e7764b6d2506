/-! questions: sorts as bits, walls, what went where -/
theorem dsOr_assoc (a b c : Int) : dsOr (dsOr a b) c = dsOr a (dsOr b c) := by
  unfold dsOr
  rw [ds_o32, ds_o32, Int32.or_assoc]
theorem iter5 {α : Type} (f : Int → α → α) (a : α) : dsIter f 1 6 a = f 5 (f 4 (f 3 (f 2 (f 1 a)))) := rfl
/-- five yes or no, as bits 1 to 5 behind a -/
def bit5 (b1 b2 b3 b4 b5 : Bool) (a : Int) : Int :=
  let a := if b1 then dsOr a (dsShl 1 1) else a
  let a := if b2 then dsOr a (dsShl 1 2) else a
  let a := if b3 then dsOr a (dsShl 1 3) else a
  let a := if b4 then dsOr a (dsShl 1 4) else a
  if b5 then dsOr a (dsShl 1 5) else a
theorem or_in {b : Bool} {a x c : Int} : (if b = true then dsOr (dsOr a x) c else dsOr a x) = dsOr a (if b = true then dsOr x c else x) := by
  cases b
  · rfl
  · exact dsOr_assoc a x c
theorem bit5_or (b1 b2 b3 b4 b5 : Bool) {a : Int} (h : dsw a = a) : dsOr a (bit5 b1 b2 b3 b4 b5 0) = bit5 b1 b2 b3 b4 b5 a := by
  have h0 : a = dsOr a 0 := (dsOr_0 h).symm
  unfold bit5
  rw [← or_in, ← or_in, ← or_in, ← or_in, ← or_in, ← h0]
theorem bit5_iter {c : Int → Prop} [DecidablePred c] (a : Int) : dsIter (fun k a => if c k then a else dsOr a (dsShl 1 k)) 1 6 a = bit5 (!decide (c 1)) (!decide (c 2)) (!decide (c 3)) (!decide (c 4)) (!decide (c 5)) a := by
  rw [iter5]
  unfold bit5
  by_cases h1 : c 1 <;> by_cases h2 : c 2 <;> by_cases h3 : c 3 <;> by_cases h4 : c 4 <;> by_cases h5 : c 5 <;> simp [h1, h2, h3, h4, h5]
theorem iter_or2 {c : Int → Prop} [DecidablePred c] {f : Int → Int} {n : Int} (i a : Int) (h : dsw a = a) : dsIter (fun s a => if c s then dsOr a 0 else dsOr a (f s)) i n a = dsIter (fun s a => if c s then a else dsOr a (f s)) i n a := by
  refine dsIter_congrI (fun _ b => dsw b = b) i a h ?_
  intro j b j0 j1 hb
  by_cases hc : c j
  · rw [if_pos hc, if_pos hc]; exact ⟨dsOr_0 hb, hb⟩
  · rw [if_neg hc, if_neg hc]; exact ⟨rfl, dsOr_w _ _⟩
theorem bit5_add : ∀ b1 b2 b3 b4 b5 : Bool, ∀ k : Fin 6, 1 ≤ k.val → dsOr (bit5 b1 b2 b3 b4 b5 0) (dsShl 1 ((k.val : Nat) : Int)) = bit5 (b1 || k.val == 1) (b2 || k.val == 2) (b3 || k.val == 3) (b4 || k.val == 4) (b5 || k.val == 5) 0 := by decide +kernel
-- a list's last
theorem dyG_l {l : dsL} {p : Int × Int} {i : Int} (h0 : 0 ≤ i) (h1 : i < (l.length : Int)) : dyG (l ++ [p]) i = dyG l i := by
  unfold dyG
  rw [List.getD_eq_getElem?_getD, List.getD_eq_getElem?_getD, List.getElem?_append_left (by omega)]
theorem dyG_e {l : dsL} {p : Int × Int} : dyG (l ++ [p]) (l.length : Int) = p := by
  unfold dyG
  rw [List.getD_eq_getElem?_getD, show ((l.length : Int)).toNat = l.length by omega, List.getElem?_append_right (by omega)]
  simp
theorem iter_snoc {α : Type} (f : (Int × Int) → α → α) (l : dsL) (p : Int × Int) (a : α) : dsIter (fun i a => f (dyG (l ++ [p]) i) a) 0 ((l ++ [p]).length : Int) a = f p (dsIter (fun i a => f (dyG l i) a) 0 (l.length : Int) a) := by
  have e : (((l ++ [p]).length : Nat) : Int) = (l.length : Int) + 1 := by simp
  rw [e, dsIter_split (m := (l.length : Int)) (by omega) 0 (by omega), dsIter_step (by omega), dsIter_end (by omega), dyG_e]
  congr 1
  exact dsIter_congr _ _ (fun j b j0 j1 => by rw [dyG_l j0 j1])
theorem lSo_snoc (l : dsL) (p : Int × Int) (k : Int) : lSo (l ++ [p]) k = if p.1 = k then dsw (lSo l k + p.2) else lSo l k := iter_snoc (fun q a => if q.1 = k then dsw (a + q.2) else a) l p 0
theorem lBi_snoc (l : dsL) (p : Int × Int) : lBi (l ++ [p]) = dsOr (lBi l) (dsShl 1 p.1) := iter_snoc (fun q a => dsOr a (dsShl 1 q.1)) l p 0
theorem lBi_all : ∀ (n : Nat) (l : dsL), l.length = n → dyWl l → dySum l ≤ 60 → (∀ k, 0 ≤ lSo l k ∧ lSo l k ≤ dySum l) ∧ lBi l = bit5 (!decide (lSo l 1 ≤ 0)) (!decide (lSo l 2 ≤ 0)) (!decide (lSo l 3 ≤ 0)) (!decide (lSo l 4 ≤ 0)) (!decide (lSo l 5 ≤ 0)) 0
  | 0, l, hl, _, _ => by
    have e : l = [] := List.eq_nil_of_length_eq_zero hl
    subst e
    exact ⟨fun k => ⟨Int.le_refl _, Int.le_refl _⟩, by decide⟩
  | n + 1, l, hl, hw, hs => by
    rcases List.eq_nil_or_concat l with e | ⟨l0, p, e⟩
    · subst e; simp at hl
    · subst e
      rw [List.concat_eq_append] at hl hw hs ⊢
      have hp := dyWl_head (dyWl_app.1 hw).2
      have h0 := dySum_nn (dyWl_app.1 hw).1
      rw [dySum_app] at hs ⊢
      simp only [dySum] at hs ⊢
      have ih := lBi_all n l0 (by simp at hl; omega) (dyWl_app.1 hw).1 (by omega)
      have hk : ∀ k, lSo (l0 ++ [p]) k = if p.1 = k then lSo l0 k + p.2 else lSo l0 k := by
        intro k
        have := ih.1 k
        rw [lSo_snoc, dsw_id (by omega) (by omega)]
      refine ⟨fun k => ?_, ?_⟩
      · have := ih.1 k
        rw [hk k]
        split <;> omega
      · have h5 := bit5_add (!decide (lSo l0 1 ≤ 0)) (!decide (lSo l0 2 ≤ 0)) (!decide (lSo l0 3 ≤ 0)) (!decide (lSo l0 4 ≤ 0)) (!decide (lSo l0 5 ≤ 0)) ⟨p.1.toNat, by omega⟩ (by show 1 ≤ p.1.toNat; omega)
        simp only [show ((p.1.toNat : Nat) : Int) = p.1 by omega] at h5
        rw [lBi_snoc, ih.2, h5, hk, hk, hk, hk, hk]
        have b : ∀ (k : Nat), 1 ≤ k → (!decide (lSo l0 k ≤ 0) || p.1.toNat == k) = (!decide ((if p.1 = (k : Int) then lSo l0 k + p.2 else lSo l0 k) ≤ 0)) := by
          intro k hk1
          have := ih.1 k
          by_cases hpk : p.1 = (k : Int)
          · rw [if_pos hpk, show (p.1.toNat == k) = true by simp; omega, decide_eq_false (show ¬ lSo l0 k + p.2 ≤ 0 by omega), Bool.or_true]
            rfl
          · rw [if_neg hpk, show (p.1.toNat == k) = false by simp; omega, Bool.or_false]
        have b1 : (!decide (lSo l0 1 ≤ 0) || p.1.toNat == 1) = (!decide ((if p.1 = 1 then lSo l0 1 + p.2 else lSo l0 1) ≤ 0)) := b 1 (by omega)
        have b2 : (!decide (lSo l0 2 ≤ 0) || p.1.toNat == 2) = (!decide ((if p.1 = 2 then lSo l0 2 + p.2 else lSo l0 2) ≤ 0)) := b 2 (by omega)
        have b3 : (!decide (lSo l0 3 ≤ 0) || p.1.toNat == 3) = (!decide ((if p.1 = 3 then lSo l0 3 + p.2 else lSo l0 3) ≤ 0)) := b 3 (by omega)
        have b4 : (!decide (lSo l0 4 ≤ 0) || p.1.toNat == 4) = (!decide ((if p.1 = 4 then lSo l0 4 + p.2 else lSo l0 4) ≤ 0)) := b 4 (by omega)
        have b5 : (!decide (lSo l0 5 ≤ 0) || p.1.toNat == 5) = (!decide ((if p.1 = 5 then lSo l0 5 + p.2 else lSo l0 5) ≤ 0)) := b 5 (by omega)
        exact congr (congr (congr (congr (congr (congrArg bit5 b1) b2) b3) b4) b5) rfl
theorem sor_eq {l : dsL} {a : Int} (hw : dyWl l) (hs : dySum l ≤ 60) (ha : dsw a = a) : dsIter (fun k a => if lSo l k ≤ 0 then a else dsOr a (dsShl 1 k)) 1 6 a = dsOr a (lBi l) := by
  rw [bit5_iter (c := fun k => lSo l k ≤ 0), (lBi_all _ l rfl hw hs).2, bit5_or _ _ _ _ _ ha]
def aSos (W : dsW) (y : Int) : Int := if 0 < wLn W ∧ 0 ≤ y ∧ y ≤ wY W then dsIter (fun s a => dsOr a (lBi (aL (P0 W) y s))) 0 (wN W) 0 else -2
theorem cq96 {M : dsMem} {W : dsW} {y : Int} (h : CI M W) : bCt 96 [uR 10 0, uI y, uX 0, uX 0, uX 0] M (fun _ => [uI (aSos W y)]) (fun M' => CI M' W ∧ Fr CQ M M') := by
  intro Q hQ
  have b := CI_b h
  refine r96_0 (hA1 := fun _ => asNow_ct h) (s1 := fun q1 M1 rr1 i96_1 a96_1 q2 q3 => ?s1) (s2 := fun q1 M1 rr1 i96_1 a96_1 q2 q3 i27_1 a27_1 q4 q5 => ?s2) (s3 := fun q1 M1 rr1 i96_1 a96_1 q2 q3 i27_1 a27_1 q4 q5 => ?s3) (s4 := fun q1 M1 rr1 i96_1 a96_1 q2 q3 i27_1 a27_1 q4 q5 => ?s4) (s5 := fun q1 M1 rr1 i96_1 a96_1 q2 q3 => ?s5) (s6 := fun q1 M1 rr1 i96_1 a96_1 q2 q3 => ?s6) (k1 := fun q1 M1 rr1 => ?k1) (k2 := fun q1 => ?k2)
  case s1 =>
    have b1 := CI_b rr1.1.1
    have hd := cD rr1.1 (y := y) (s := i96_1) (by omega) (by omega); have hb := cB rr1.1 (y := y) (s := i96_1) (by omega) (by omega); omega
  case s2 =>
    have b1 := CI_b rr1.1.1
    have hd := cD rr1.1 (y := y) (s := i96_1) (by omega) (by omega); have hb := cB rr1.1 (y := y) (s := i96_1) (by omega) (by omega); omega
  case s3 =>
    have b1 := CI_b rr1.1.1
    have hd := cD rr1.1 (y := y) (s := i96_1) (by omega) (by omega); have hb := cB rr1.1 (y := y) (s := i96_1) (by omega) (by omega); omega
  case s4 =>
    have b1 := CI_b rr1.1.1
    have hd := cD rr1.1 (y := y) (s := i96_1) (by omega) (by omega); have hb := cB rr1.1 (y := y) (s := i96_1) (by omega) (by omega); omega
  case s5 =>
    have b1 := CI_b rr1.1.1
    have hd := cD rr1.1 (y := y) (s := i96_1) (by omega) (by omega); have hb := cB rr1.1 (y := y) (s := i96_1) (by omega) (by omega); omega
  case s6 =>
    have b1 := CI_b rr1.1.1
    have hd := cD rr1.1 (y := y) (s := i96_1) (by omega) (by omega); have hb := cB rr1.1 (y := y) (s := i96_1) (by omega) (by omega); omega
  case k1 =>
    have b1 := CI_b rr1.1.1
    refine q_eq ?_ (hQ M1 ⟨rr1.1.1, rr1.2⟩)
    unfold aSos; rw [if_pos (by omega), cN5 rr1.1.1]; exact dsIter_congr _ _ (fun j c j0 j1 => by rw [c27 rr1.1 (by omega) ⟨j0, j1⟩])
  case k2 =>
    refine q_eq ?_ (hQ M ⟨h, Fr_refl⟩)
    unfold aSos; rw [if_neg (by omega)]
theorem rq265 {M : dsMem} {W : dsW} {y : Int} (h : RI0 M W) : bCt 265 [uR 11 84, uI y, uX 0, uX 0, uX 0] M (fun _ => [uI (aSos W y)]) (fun M' => RI0 M' W ∧ Fr RQ M M') := by
  intro Q hQ
  have b := RI_b h
  refine r265_0 (hA1 :=  asksYear_ct h) (s1 := fun M1 rr1 q1 i265_1 a265_1 q2 q3 i265_2 a265_2 q4 q5 => ?s1) (s2 := fun M1 rr1 q1 i265_1 a265_1 q2 q3 i265_2 a265_2 q4 q5 i248_1 a248_1 q6 q7 => ?s2) (s3 := fun M1 rr1 q1 i265_1 a265_1 q2 q3 i265_2 a265_2 q4 q5 i248_1 a248_1 q6 q7 => ?s3) (s4 := fun M1 rr1 q1 i265_1 a265_1 q2 q3 i265_2 a265_2 q4 q5 i248_1 a248_1 q6 q7 => ?s4) (s5 := fun M1 rr1 q1 i265_1 a265_1 q2 q3 i265_2 a265_2 q4 q5 => ?s5) (s6 := fun M1 rr1 q1 i265_1 a265_1 q2 q3 i265_2 a265_2 q4 q5 => ?s6) (s7 := fun M1 rr1 q1 i265_1 a265_1 q2 q3 => ?s7) (k1 := fun M1 rr1 q1 => ?k1) (k2 := fun M1 rr1 q1 => ?k2)
  case s1 =>
    have b1 := RI_b rr1.1.1
    have z1 := if01_1 q1
    have hd := rD rr1.1 (y := y) (s := i265_1) (by omega) (by omega); have hb := rB rr1.1 (y := y) (s := i265_1) (by omega) (by omega); omega
  case s2 =>
    have b1 := RI_b rr1.1.1
    have z1 := if01_1 q1
    have hd := rD rr1.1 (y := y) (s := i265_1) (by omega) (by omega); have hb := rB rr1.1 (y := y) (s := i265_1) (by omega) (by omega); omega
  case s3 =>
    have b1 := RI_b rr1.1.1
    have z1 := if01_1 q1
    have hd := rD rr1.1 (y := y) (s := i265_1) (by omega) (by omega); have hb := rB rr1.1 (y := y) (s := i265_1) (by omega) (by omega); omega
  case s4 =>
    have b1 := RI_b rr1.1.1
    have z1 := if01_1 q1
    have hd := rD rr1.1 (y := y) (s := i265_1) (by omega) (by omega); have hb := rB rr1.1 (y := y) (s := i265_1) (by omega) (by omega); omega
  case s5 =>
    have b1 := RI_b rr1.1.1
    have z1 := if01_1 q1
    have hd := rD rr1.1 (y := y) (s := i265_1) (by omega) (by omega); have hb := rB rr1.1 (y := y) (s := i265_1) (by omega) (by omega); omega
  case s6 =>
    have b1 := RI_b rr1.1.1
    have z1 := if01_1 q1
    have hd := rD rr1.1 (y := y) (s := i265_1) (by omega) (by omega); have hb := rB rr1.1 (y := y) (s := i265_1) (by omega) (by omega); omega
  case s7 =>
    have b1 := RI_b rr1.1.1
    have z1 := if01_1 q1
    have hd := rD rr1.1 (y := y) (s := i265_1) (by omega) (by omega); have hb := rB rr1.1 (y := y) (s := i265_1) (by omega) (by omega); omega
  case k1 =>
    have b1 := RI_b rr1.1.1
    have z1 := if01_1 q1
    refine q_eq ?_ (hQ M1 ⟨rr1.1.1, rr1.2⟩)
    unfold aSos; rw [if_pos (by omega), rN4 rr1.1.1]
    refine dsIter_congrI (fun _ b => dsw b = b) _ _ rfl ?_
    intro j c j0 j1 hc
    refine ⟨?_, dsOr_w _ _⟩
    have hws := (RR_y rr1.1.2.2 (y := y) (by show 0 ≤ y ∧ y ≤ wY W; omega)).2 j j0 j1
    have hb := rB rr1.1 (y := y) (s := j) (by omega) ⟨j0, j1⟩
    rw [iter_or2 _ _ hc, ← sor_eq hws.1 hb.2.2.1 hc]
    exact dsIter_congr _ _ (fun k a k0 k1 => by rw [r248 rr1.1 (by omega) ⟨j0, j1⟩])
  case k2 =>
    have b1 := RI_b rr1.1.1
    have z1 := if01_0 q1
    refine q_eq ?_ (hQ M1 ⟨rr1.1.1, rr1.2⟩)
    unfold aSos; rw [if_neg (by omega)]
-- walls
def aLoa (W : dsW) (w y : Int) : Int := if (0 ≤ w ∧ w ≤ wW W - 1) ∧ 0 < wLn W ∧ 0 ≤ y ∧ y ≤ wY W then dsIter (fun s a => if wOn W s = w then dsw (a + aH (P0 W) y s) else a) 0 (wN W) 0 else -2
theorem cq97 {M : dsMem} {W : dsW} {w y : Int} (h : CI M W) : bCt 97 [uR 10 0, uI w, uI y] M (fun _ => [uI (aLoa W w y)]) (fun M' => CI M' W ∧ Fr CQ M M') := by
  intro Q hQ
  have b := CI_b h
  refine r97_0 (hA1 := fun _ _ => asNow_ct h) (k1 := fun q1 => ?k1) (k2 := fun q1 q2 => ?k2) (s2 := fun q1 q2 M1 rr1 i23_1 a23_1 q3 q4 => ?s2) (s3 := fun q1 q2 M1 rr1 i23_1 a23_1 q3 q4 => ?s3) (s4 := fun q1 q2 M1 rr1 i23_1 a23_1 q3 q4 q5 => ?s4) (s5 := fun q1 q2 M1 rr1 i23_1 a23_1 q3 q4 q5 => ?s5) (k3 := fun q1 q2 M1 rr1 => ?k3)
  case k1 =>
    refine q_eq ?_ (hQ M ⟨h, Fr_refl⟩)
    unfold aLoa; rw [if_neg (by omega)]
  case k2 =>
    refine q_eq ?_ (hQ M ⟨h, Fr_refl⟩)
    unfold aLoa; rw [if_neg (by omega)]
  case s2 =>
    have b1 := CI_b rr1.1.1
    omega
  case s3 =>
    have b1 := CI_b rr1.1.1
    omega
  case s4 =>
    have b1 := CI_b rr1.1.1
    omega
  case s5 =>
    have b1 := CI_b rr1.1.1
    omega
  case k3 =>
    have b1 := CI_b rr1.1.1
    refine q_eq ?_ (hQ M1 ⟨rr1.1.1, rr1.2⟩)
    unfold aLoa v23; rw [if_pos (by omega), cN5 rr1.1.1]
    refine dsIter_congr _ _ (fun j c j0 j1 => ?_)
    show (if M1 29 j = w then dsw (c + M1 52 (y * 6 + j)) else c) = _
    rw [cH rr1.1 (by omega) ⟨j0, j1⟩, cOn rr1.1.1 ⟨j0, j1⟩]
theorem rq267 {M : dsMem} {W : dsW} {w y : Int} (h : RI0 M W) : bCt 267 [uR 11 84, uI w, uI y] M (fun _ => [uI (aLoa W w y)]) (fun M' => RI0 M' W ∧ Fr RQ M M') := by
  intro Q hQ
  have b := RI_b h
  refine r267_0 (hA1 :=  asksYear_ct h) (k1 := fun M1 rr1 q1 => ?k1) (s1 := fun M1 rr1 q1 => ?s1) (k2 := fun M1 rr1 q1 q2 => ?k2) (s2 := fun M1 rr1 q1 q2 i266_1 a266_1 q3 q4 => ?s2) (s3 := fun M1 rr1 q1 q2 i266_1 a266_1 q3 q4 => ?s3) (s4 := fun M1 rr1 q1 q2 i266_1 a266_1 q3 q4 q5 => ?s4) (k3 := fun M1 rr1 q1 q2 => ?k3)
  case k1 =>
    have b1 := RI_b rr1.1.1
    have z1 := if01_0 q1
    refine q_eq ?_ (hQ M1 ⟨rr1.1.1, rr1.2⟩)
    unfold aLoa; rw [if_neg (by omega)]
  case s1 =>
    have b1 := RI_b rr1.1.1
    have z1 := if01_1 q1
    omega
  case k2 =>
    have b1 := RI_b rr1.1.1
    have z1 := if01_1 q1
    refine q_eq ?_ (hQ M1 ⟨rr1.1.1, rr1.2⟩)
    unfold aLoa; rw [if_neg (by omega)]
  case s2 =>
    have b1 := RI_b rr1.1.1
    have z1 := if01_1 q1
    omega
  case s3 =>
    have b1 := RI_b rr1.1.1
    have z1 := if01_1 q1
    omega
  case s4 =>
    have b1 := RI_b rr1.1.1
    have z1 := if01_1 q1
    omega
  case k3 =>
    have b1 := RI_b rr1.1.1
    have z1 := if01_1 q1
    refine q_eq ?_ (hQ M1 ⟨rr1.1.1, rr1.2⟩)
    unfold aLoa v266; rw [if_pos (by omega), rN4 rr1.1.1, iter_w0 _ _ rfl]
    exact dsIter_congr _ _ (fun j c j0 j1 => by rw [rH rr1.1 (by omega) ⟨j0, j1⟩, rOn rr1.1.1 ⟨j0, j1⟩])
def aSun (W : dsW) (w y : Int) : Int := if (0 ≤ w ∧ w ≤ wW W - 1) ∧ 0 < wLn W ∧ 0 ≤ y ∧ y ≤ wY W then sK (stP (P0 W) y) w else -2
theorem cq98 {M : dsMem} {W : dsW} {w y : Int} (h : CI M W) : bCt 98 [uR 10 0, uI w, uI y] M (fun _ => [uI (aSun W w y)]) (fun M' => CI M' W ∧ Fr CQ M M') := by
  intro Q hQ
  have b := CI_b h
  refine r98_0 (hA1 := fun _ _ => asNow_ct h) (k1 := fun q1 => ?k1) (k2 := fun q1 q2 => ?k2) (s2 := fun q1 q2 M1 rr1 => ?s2) (k3 := fun q1 q2 M1 rr1 => ?k3)
  case k1 =>
    refine q_eq ?_ (hQ M ⟨h, Fr_refl⟩)
    unfold aSun; rw [if_neg (by omega)]
  case k2 =>
    refine q_eq ?_ (hQ M ⟨h, Fr_refl⟩)
    unfold aSun; rw [if_neg (by omega)]
  case s2 =>
    have b1 := CI_b rr1.1.1
    omega
  case k3 =>
    have b1 := CI_b rr1.1.1
    refine q_eq ?_ (hQ M1 ⟨rr1.1.1, rr1.2⟩)
    unfold aSun; rw [if_pos (by omega)]; exact cK rr1.1 (by omega) (by omega)
theorem rq268 {M : dsMem} {W : dsW} {w y : Int} (h : RI0 M W) : bCt 268 [uR 11 84, uI w, uI y] M (fun _ => [uI (aSun W w y)]) (fun M' => RI0 M' W ∧ Fr RQ M M') := by
  intro Q hQ
  have b := RI_b h
  refine r268_0 (hA1 :=  asksYear_ct h) (k1 := fun M1 rr1 q1 => ?k1) (s1 := fun M1 rr1 q1 => ?s1) (k2 := fun M1 rr1 q1 q2 => ?k2) (s2 := fun M1 rr1 q1 q2 => ?s2) (k3 := fun M1 rr1 q1 q2 => ?k3)
  case k1 =>
    have b1 := RI_b rr1.1.1
    have z1 := if01_0 q1
    refine q_eq ?_ (hQ M1 ⟨rr1.1.1, rr1.2⟩)
    unfold aSun; rw [if_neg (by omega)]
  case s1 =>
    have b1 := RI_b rr1.1.1
    have z1 := if01_1 q1
    omega
  case k2 =>
    have b1 := RI_b rr1.1.1
    have z1 := if01_1 q1
    refine q_eq ?_ (hQ M1 ⟨rr1.1.1, rr1.2⟩)
    unfold aSun; rw [if_neg (by omega)]
  case s2 =>
    have b1 := RI_b rr1.1.1
    have z1 := if01_1 q1
    omega
  case k3 =>
    have b1 := RI_b rr1.1.1
    have z1 := if01_1 q1
    refine q_eq ?_ (hQ M1 ⟨rr1.1.1, rr1.2⟩)
    unfold aSun; rw [if_pos (by omega)]; exact rK rr1.1 (by omega) (by omega)
def aSta (W : dsW) (y : Int) : Int := if 0 < wLn W ∧ 0 ≤ y ∧ y ≤ wY W then sU (stP (P0 W) y) else -2
theorem cq99 {M : dsMem} {W : dsW} {y : Int} (h : CI M W) : bCt 99 [uR 10 0, uI y] M (fun _ => [uI (aSta W y)]) (fun M' => CI M' W ∧ Fr CQ M M') := by
  intro Q hQ
  have b := CI_b h
  refine r99_0 (hA1 := fun _ => asNow_ct h) (k1 := fun q1 => ?k1) (s1 := fun q1 M1 rr1 => ?s1) (k2 := fun q1 M1 rr1 => ?k2)
  case k1 =>
    refine q_eq ?_ (hQ M ⟨h, Fr_refl⟩)
    unfold aSta; rw [if_neg (by omega)]
  case s1 =>
    have b1 := CI_b rr1.1.1
    omega
  case k2 =>
    have b1 := CI_b rr1.1.1
    refine q_eq ?_ (hQ M1 ⟨rr1.1.1, rr1.2⟩)
    unfold aSta; rw [if_pos (by omega)]; exact cU rr1.1 (by omega)
theorem rq269 {M : dsMem} {W : dsW} {y : Int} (h : RI0 M W) : bCt 269 [uR 11 84, uI y] M (fun _ => [uI (aSta W y)]) (fun M' => RI0 M' W ∧ Fr RQ M M') := by
  intro Q hQ
  have b := RI_b h
  refine r269_0 (hA1 :=  asksYear_ct h) (k1 := fun M1 rr1 q1 => ?k1) (s1 := fun M1 rr1 q1 => ?s1) (k2 := fun M1 rr1 q1 => ?k2)
  case k1 =>
    have b1 := RI_b rr1.1.1
    have z1 := if01_0 q1
    refine q_eq ?_ (hQ M1 ⟨rr1.1.1, rr1.2⟩)
    unfold aSta; rw [if_neg (by omega)]
  case s1 =>
    have b1 := RI_b rr1.1.1
    have z1 := if01_1 q1
    omega
  case k2 =>
    have b1 := RI_b rr1.1.1
    have z1 := if01_1 q1
    refine q_eq ?_ (hQ M1 ⟨rr1.1.1, rr1.2⟩)
    unfold aSta; rw [if_pos (by omega)]; exact rU rr1.1 (by omega)
def aFal (W : dsW) (w : Int) : Int := if 0 ≤ w ∧ w ≤ wW W - 1 then aFnd (dsFind (fun y => ¬ dsAnd (dsShr (sU (stP (P0 W) y)) w) 1 = 1) 0 (wY W + 1)) (wY W + 1) else -2
theorem cq100 {M : dsMem} {W : dsW} {w : Int} (h : CI M W) : bCt 100 [uR 10 0, uI w, uX 0, uX 0] M (fun _ => [uI (aFal W w)]) (fun M' => CI M' W ∧ Fr CQ M M') := by
  intro Q hQ
  have b := CI_b h
  have hfe : ∀ M1, CN M1 W → dsFind (fun i => ¬ (dsAnd (dsShr (M1 54 i) w) 1 = 1)) 0 (M1 24 1 + 1) = dsFind (fun y => ¬ dsAnd (dsShr (sU (stP (P0 W) y)) w) 1 = 1) 0 (wY W + 1) := fun M1 hr => by
    have b1 := CI_b hr.1
    exact fndE (by omega) (fun j j0 j1 => by rw [cU hr (by omega)])
  refine r100_0 (hA1 := fun _ => asNow_ct h) (s2 := fun q1 M1 rr1 i100_1 q2 q3 => ?s2) (s3 := fun q1 M1 rr1 i100_1 q2 q3 => ?s3) (k1 := fun q1 M1 rr1 q2 => ?k1) (k2 := fun q1 M1 rr1 q2 => ?k2) (k3 := fun q1 => ?k3)
  case s2 =>
    have b1 := CI_b rr1.1.1
    omega
  case s3 =>
    have b1 := CI_b rr1.1.1
    omega
  case k1 =>
    have b1 := CI_b rr1.1.1
    refine q_eq ?_ (hQ M1 ⟨rr1.1.1, rr1.2⟩)
    rw [hfe _ rr1.1] at q2 ⊢; rw [cY1 rr1.1.1] at q2
    unfold aFal aFnd; rw [if_pos (by omega), if_pos q2]
  case k2 =>
    have b1 := CI_b rr1.1.1
    refine q_eq ?_ (hQ M1 ⟨rr1.1.1, rr1.2⟩)
    rw [hfe _ rr1.1, cY1 rr1.1.1] at q2
    unfold aFal aFnd; rw [if_pos (by omega), if_neg q2]
  case k3 =>
    refine q_eq ?_ (hQ M ⟨h, Fr_refl⟩)
    unfold aFal; rw [if_neg (by omega)]
theorem rq270 {M : dsMem} {W : dsW} {w : Int} (h : RI0 M W) : bCt 270 [uR 11 84, uI w, uX 0] M (fun _ => [uI (aFal W w)]) (fun M' => RI0 M' W ∧ Fr RQ M M') := by
  intro Q hQ
  have b := RI_b h
  have hfe : ∀ M1, RN M1 W → dsFind (fun i => dsAnd (dsShr (M1 107 i) w) 1 = 0) 0 (M1 85 0 + 1) = dsFind (fun y => ¬ dsAnd (dsShr (sU (stP (P0 W) y)) w) 1 = 1) 0 (wY W + 1) := fun M1 hr => by
    have b1 := RI_b hr.1
    refine fndE (by omega) (fun j j0 j1 => ?_)
    rw [rU hr (by omega)]
    have := ds_b01 (dsShr (sU (stP (P0 W) j)) w)
    omega
  refine r270_0 (hA1 :=  asksWall_ct h) (s1 := fun M1 rr1 q1 i270_1 q2 q3 => ?s1) (s2 := fun M1 rr1 q1 i270_1 q2 q3 => ?s2) (k1 := fun M1 rr1 q1 q2 => ?k1) (k2 := fun M1 rr1 q1 q2 => ?k2) (k3 := fun M1 rr1 q1 => ?k3)
  case s1 =>
    have b1 := RI_b rr1.1.1
    have z1 := if01_1 q1
    omega
  case s2 =>
    have b1 := RI_b rr1.1.1
    have z1 := if01_1 q1
    omega
  case k1 =>
    have b1 := RI_b rr1.1.1
    have z1 := if01_1 q1
    refine q_eq ?_ (hQ M1 ⟨rr1.1.1, rr1.2⟩)
    rw [hfe _ rr1.1] at q2 ⊢; rw [rY0 rr1.1.1] at q2
    unfold aFal aFnd; rw [if_pos (by omega), if_pos q2]
  case k2 =>
    have b1 := RI_b rr1.1.1
    have z1 := if01_1 q1
    refine q_eq ?_ (hQ M1 ⟨rr1.1.1, rr1.2⟩)
    rw [hfe _ rr1.1, rY0 rr1.1.1] at q2
    unfold aFal aFnd; rw [if_pos (by omega), if_neg q2]
  case k3 =>
    have b1 := RI_b rr1.1.1
    have z1 := if01_0 q1
    refine q_eq ?_ (hQ M1 ⟨rr1.1.1, rr1.2⟩)
    unfold aFal; rw [if_neg (by omega)]
def wLow (P : dsP) (i : Int) (a : Int × Int) : Int × Int := if sK (stP P (pY P)) i ≤ a.2 then (a.1, a.2) else (i, sK (stP P (pY P)) i)
def aLow (W : dsW) : Int := if 0 < wLn W then (dsIter (wLow (P0 W)) 0 (wW W) (-1, 0)).1 else -2
theorem cq101 {M : dsMem} {W : dsW} (h : CI M W) : bCt 101 [uR 10 0, uX 0, uX 0, uX 0, uX 0, uX 0] M (fun _ => [uI (aLow W)]) (fun M' => CI M' W ∧ Fr CQ M M') := by
  intro Q hQ
  have b := CI_b h
  refine r101_0 (hA1 := fun _ => asNow_ct h) (s1 := fun q1 M1 rr1 i101_1 a101_1 q2 q3 => ?s1) (s2 := fun q1 M1 rr1 i101_1 a101_1 q2 q3 => ?s2) (k1 := fun q1 M1 rr1 => ?k1) (k2 := fun q1 => ?k2)
  case s1 =>
    have b1 := CI_b rr1.1.1
    have e := cY1 rr1.1.1; omega
  case s2 =>
    have b1 := CI_b rr1.1.1
    have e := cY1 rr1.1.1; omega
  case k1 =>
    have b1 := CI_b rr1.1.1
    refine q_eq ?_ (hQ M1 ⟨rr1.1.1, rr1.2⟩)
    unfold aLow; rw [if_pos (by omega), cW4 rr1.1.1, cY1 rr1.1.1]; exact congrArg Prod.fst (dsIter_congr _ _ (fun j c j0 j1 => by rw [cK rr1.1 (by omega) (by omega)]; rfl))
  case k2 =>
    refine q_eq ?_ (hQ M ⟨h, Fr_refl⟩)
    unfold aLow; rw [if_neg (by omega)]
theorem rq271 {M : dsMem} {W : dsW} (h : RI0 M W) : bCt 271 [uR 11 84, uX 0, uX 0] M (fun _ => [uI (aLow W)]) (fun M' => RI0 M' W ∧ Fr RQ M M') := by
  intro Q hQ
  have b := RI_b h
  refine r271n_0 (hA1 := asksChoir_ct h) (k1 := fun M1 rr1 q1 => ?_) (k2 := fun M1 rr1 q1 => ?_)
  · have b1 := RI_b rr1.1.1
    have z1 := if01_1 q1
    have fin := hQ M1 ⟨rr1.1.1, rr1.2⟩
    have hK : ∀ w, 0 ≤ w → w < 3 → M1 97 w = sK (stP (P0 W) (pY (P0 W))) w := rr1.1.2.2.2.2.1.2.1
    have key : ∀ x2 x1 g : Int, 0 ≤ x2 → ((x1 = -1 ∧ g = 0) ∨ (0 ≤ x1 ∧ x1 < wW W ∧ g = sK (stP (P0 W) (pY (P0 W))) x1)) → (dsIter (wLow (P0 W)) x2 (wW W) (x1, g)).1 = aLow W → bB 271 14 [uR 11 84, uI x1, uI x2] [] M1 Q := by
      refine ds_ind (P := fun x2 => ∀ x1 g : Int, 0 ≤ x2 → ((x1 = -1 ∧ g = 0) ∨ (0 ≤ x1 ∧ x1 < wW W ∧ g = sK (stP (P0 W) (pY (P0 W))) x1)) → (dsIter (wLow (P0 W)) x2 (wW W) (x1, g)).1 = aLow W → bB 271 14 [uR 11 84, uI x1, uI x2] [] M1 Q) (wW W) ?_ ?_
      · intro x2 h2 x1 g h0 hx e
        rw [dsIter_end h2] at e
        exact r271n_14 (k1 := fun q => q_eq e fin) (k2 := fun q => by omega) (k3 := fun q => by omega) (k4 := fun q => by omega) (k5 := fun q => by omega)
      · intro x2 h2 ih x1 g h0 hx e
        rw [dsIter_step h2] at e
        have e2 := hK x2 h0 (by omega)
        unfold wLow at e
        refine r271n_14 (k1 := fun q => by omega) (k2 := fun q q2 q3 => ?_) (k3 := fun q q2 q3 => ?_) (k4 := fun q q2 q3 => ?_) (k5 := fun q q2 q3 => ?_)
        · have e1 := hK x1 (by omega) (by omega)
          rw [if_pos (by omega)] at e
          exact ih x1 g (by omega) hx e
        · have e1 := hK x1 (by omega) (by omega)
          rw [if_neg (by omega)] at e
          exact ih x2 _ (by omega) (Or.inr ⟨h0, h2, rfl⟩) e
        · rw [if_pos (by omega)] at e
          exact ih x1 g (by omega) hx e
        · rw [if_neg (by omega)] at e
          exact ih x2 _ (by omega) (Or.inr ⟨h0, h2, rfl⟩) e
    refine key 0 (-1) 0 (by omega) (by omega) ?_
    unfold aLow
    rw [if_pos z1]
  · have b1 := RI_b rr1.1.1
    have z1 := if01_0 q1
    refine q_eq ?_ (hQ M1 ⟨rr1.1.1, rr1.2⟩)
    unfold aLow; rw [if_neg (by omega)]
def aTpd (W : dsW) (y : Int) : Int := if 0 < wLn W ∧ 0 ≤ y ∧ y ≤ wY W - 1 then dsw (sH (stP (P0 W) (y + 1))) else -2
theorem cq103 {M : dsMem} {W : dsW} {y : Int} (h : CI M W) : bCt 103 [uR 10 0, uI y] M (fun _ => [uI (aTpd W y)]) (fun M' => CI M' W ∧ Fr CQ M M') := by
  intro Q hQ
  have b := CI_b h
  refine r103_0 (hA1 := fun _ => asNow_ct h) (k1 := fun q1 => ?k1) (s2 := fun q1 M1 rr1 => ?s2) (k2 := fun q1 M1 rr1 => ?k2)
  case k1 =>
    refine q_eq ?_ (hQ M ⟨h, Fr_refl⟩)
    unfold aTpd; rw [if_neg (by omega)]
  case s2 =>
    have b1 := CI_b rr1.1.1
    omega
  case k2 =>
    have b1 := CI_b rr1.1.1
    refine q_eq ?_ (hQ M1 ⟨rr1.1.1, rr1.2⟩)
    unfold aTpd; rw [if_pos (by omega)]; exact (cX rr1.1 (by omega)).2
theorem rq273 {M : dsMem} {W : dsW} {y : Int} (h : RI0 M W) : bCt 273 [uR 11 84, uI y] M (fun _ => [uI (aTpd W y)]) (fun M' => RI0 M' W ∧ Fr RQ M M') := by
  intro Q hQ
  have b := RI_b h
  refine r273_0 (hA1 :=  asksAhead_ct h) (k1 := fun M1 rr1 q1 => ?k1) (s1 := fun M1 rr1 q1 => ?s1) (k2 := fun M1 rr1 q1 => ?k2)
  case k1 =>
    have b1 := RI_b rr1.1.1
    have z1 := if01_0 q1
    refine q_eq ?_ (hQ M1 ⟨rr1.1.1, rr1.2⟩)
    unfold aTpd; rw [if_neg (by omega)]
  case s1 =>
    have b1 := RI_b rr1.1.1
    have z1 := if01_1 q1
    omega
  case k2 =>
    have b1 := RI_b rr1.1.1
    have z1 := if01_1 q1
    refine q_eq ?_ (hQ M1 ⟨rr1.1.1, rr1.2⟩)
    unfold aTpd; rw [if_pos (by omega)]; exact (rX rr1.1 (by omega)).2
def aLst (W : dsW) (y : Int) : Int := if 0 < wLn W ∧ 0 ≤ y ∧ y ≤ wY W - 1 then dsw (sX (stP (P0 W) (y + 1))) else -2
theorem cq105 {M : dsMem} {W : dsW} {y : Int} (h : CI M W) : bCt 105 [uR 10 0, uI y] M (fun _ => [uI (aLst W y)]) (fun M' => CI M' W ∧ Fr CQ M M') := by
  intro Q hQ
  have b := CI_b h
  refine r105_0 (hA1 := fun _ => asNow_ct h) (k1 := fun q1 => ?k1) (s2 := fun q1 M1 rr1 => ?s2) (k2 := fun q1 M1 rr1 => ?k2)
  case k1 =>
    refine q_eq ?_ (hQ M ⟨h, Fr_refl⟩)
    unfold aLst; rw [if_neg (by omega)]
  case s2 =>
    have b1 := CI_b rr1.1.1
    omega
  case k2 =>
    have b1 := CI_b rr1.1.1
    refine q_eq ?_ (hQ M1 ⟨rr1.1.1, rr1.2⟩)
    unfold aLst; rw [if_pos (by omega)]; exact (cX rr1.1 (by omega)).1
theorem rq275 {M : dsMem} {W : dsW} {y : Int} (h : RI0 M W) : bCt 275 [uR 11 84, uI y] M (fun _ => [uI (aLst W y)]) (fun M' => RI0 M' W ∧ Fr RQ M M') := by
  intro Q hQ
  have b := RI_b h
  refine r275_0 (hA1 :=  asksAhead_ct h) (k1 := fun M1 rr1 q1 => ?k1) (s1 := fun M1 rr1 q1 => ?s1) (k2 := fun M1 rr1 q1 => ?k2)
  case k1 =>
    have b1 := RI_b rr1.1.1
    have z1 := if01_0 q1
    refine q_eq ?_ (hQ M1 ⟨rr1.1.1, rr1.2⟩)
    unfold aLst; rw [if_neg (by omega)]
  case s1 =>
    have b1 := RI_b rr1.1.1
    have z1 := if01_1 q1
    omega
  case k2 =>
    have b1 := RI_b rr1.1.1
    have z1 := if01_1 q1
    refine q_eq ?_ (hQ M1 ⟨rr1.1.1, rr1.2⟩)
    unfold aLst; rw [if_pos (by omega)]; exact (rX rr1.1 (by omega)).1
def aDrk (W : dsW) (s : Int) : Int := if 0 ≤ s ∧ s ≤ wN W - 1 then dsw (sD (stP (P0 W) (pY (P0 W))) s) else -2
theorem cq106 {M : dsMem} {W : dsW} {s : Int} (h : CI M W) : bCt 106 [uR 10 0, uI s] M (fun _ => [uI (aDrk W s)]) (fun M' => CI M' W ∧ Fr CQ M M') := by
  intro Q hQ
  have b := CI_b h
  refine r106_0 (hA1 := fun _ => asNow_ct h) (k1 := fun q1 => ?k1) (s2 := fun q1 M1 rr1 => ?s2) (k2 := fun q1 M1 rr1 => ?k2)
  case k1 =>
    refine q_eq ?_ (hQ M ⟨h, Fr_refl⟩)
    unfold aDrk; rw [if_neg (by omega)]
  case s2 =>
    have b1 := CI_b rr1.1.1
    omega
  case k2 =>
    have b1 := CI_b rr1.1.1
    refine q_eq ?_ (hQ M1 ⟨rr1.1.1, rr1.2⟩)
    unfold aDrk; rw [if_pos (by omega)]; exact ((cfr rr1.1).2.2.1.2 s (by omega) (by show s < wN W; omega)).2
theorem rq276 {M : dsMem} {W : dsW} {s : Int} (h : RI0 M W) : bCt 276 [uR 11 84, uI s] M (fun _ => [uI (aDrk W s)]) (fun M' => RI0 M' W ∧ Fr RQ M M') := by
  intro Q hQ
  have b := RI_b h
  refine r276_0 (hA1 :=  asksStone_ct h) (k1 := fun M1 rr1 q1 => ?k1) (s1 := fun M1 rr1 q1 => ?s1) (k2 := fun M1 rr1 q1 => ?k2)
  case k1 =>
    have b1 := RI_b rr1.1.1
    have z1 := if01_0 q1
    refine q_eq ?_ (hQ M1 ⟨rr1.1.1, rr1.2⟩)
    unfold aDrk; rw [if_neg (by omega)]
  case s1 =>
    have b1 := RI_b rr1.1.1
    have z1 := if01_1 q1
    omega
  case k2 =>
    have b1 := RI_b rr1.1.1
    have z1 := if01_1 q1
    refine q_eq ?_ (hQ M1 ⟨rr1.1.1, rr1.2⟩)
    unfold aDrk; rw [if_pos (by omega)]; exact (rr1.1.2.2.2.2.1.2.2.2 s (by omega) (by show s < wN W; omega)).2
def aWhn (W : dsW) (s k : Int) : Int := if (0 ≤ s ∧ s ≤ wN W - 1) ∧ 1 ≤ k ∧ k ≤ 5 then aFnd (dsFind (fun y => ¬ lSo (aL (P0 W) y s) k ≤ 0) 0 (wY W + 1)) (wY W + 1) else -2
theorem cq107 {M : dsMem} {W : dsW} {s k : Int} (h : CI M W) : bCt 107 [uR 10 0, uI s, uI k, uX 0, uX 0] M (fun _ => [uI (aWhn W s k)]) (fun M' => CI M' W ∧ Fr CQ M M') := by
  intro Q hQ
  have b := CI_b h
  have hfe : ∀ M1, CN M1 W → 0 ≤ s ∧ s < wN W → dsFind (fun i => ¬ (v25 M1 47 (i * 6 + s) k ≤ 0)) 0 (M1 24 1 + 1) = dsFind (fun y => ¬ lSo (aL (P0 W) y s) k ≤ 0) 0 (wY W + 1) := fun M1 hr hs => by
    have b1 := CI_b hr.1
    exact fndE (by omega) (fun j j0 j1 => by rw [c25 hr (by omega) hs])
  refine r107_0 (hA1 := fun _ _ => asNow_ct h) (s1 := ?s1) (k1 := fun q1 => ?k1) (s2 := fun q1 q2 M1 rr1 i107_1 q3 q4 => ?s2) (s3 := fun q1 q2 M1 rr1 i107_1 q3 q4 i25_1 a25_1 q5 q6 => ?s3) (s4 := fun q1 q2 M1 rr1 i107_1 q3 q4 i25_1 a25_1 q5 q6 => ?s4) (s5 := fun q1 q2 M1 rr1 i107_1 q3 q4 i25_1 a25_1 q5 q6 => ?s5) (s6 := fun q1 q2 M1 rr1 i107_1 q3 q4 => ?s6) (s7 := fun q1 q2 M1 rr1 i107_1 q3 q4 => ?s7) (k2 := fun q1 q2 M1 rr1 q3 => ?k2) (k3 := fun q1 q2 M1 rr1 q3 => ?k3) (k4 := fun q1 q2 => ?k4)
  case s1 =>
    omega
  case k1 =>
    refine q_eq ?_ (hQ M ⟨h, Fr_refl⟩)
    unfold aWhn; rw [if_neg (by omega)]
  case s2 =>
    have b1 := CI_b rr1.1.1
    omega
  case s3 =>
    have b1 := CI_b rr1.1.1
    have hd := cD rr1.1 (y := i107_1) (s := s) (by omega) (by omega); have hb := cB rr1.1 (y := i107_1) (s := s) (by omega) (by omega); omega
  case s4 =>
    have b1 := CI_b rr1.1.1
    have hd := cD rr1.1 (y := i107_1) (s := s) (by omega) (by omega); have hb := cB rr1.1 (y := i107_1) (s := s) (by omega) (by omega); omega
  case s5 =>
    have b1 := CI_b rr1.1.1
    have hd := cD rr1.1 (y := i107_1) (s := s) (by omega) (by omega); have hb := cB rr1.1 (y := i107_1) (s := s) (by omega) (by omega); omega
  case s6 =>
    have b1 := CI_b rr1.1.1
    have hd := cD rr1.1 (y := i107_1) (s := s) (by omega) (by omega); have hb := cB rr1.1 (y := i107_1) (s := s) (by omega) (by omega); omega
  case s7 =>
    have b1 := CI_b rr1.1.1
    have hd := cD rr1.1 (y := i107_1) (s := s) (by omega) (by omega); have hb := cB rr1.1 (y := i107_1) (s := s) (by omega) (by omega); omega
  case k2 =>
    have b1 := CI_b rr1.1.1
    refine q_eq ?_ (hQ M1 ⟨rr1.1.1, rr1.2⟩)
    rw [hfe _ rr1.1 (by omega)] at q3 ⊢; rw [cY1 rr1.1.1] at q3
    unfold aWhn aFnd; rw [if_pos (by omega), if_pos q3]
  case k3 =>
    have b1 := CI_b rr1.1.1
    refine q_eq ?_ (hQ M1 ⟨rr1.1.1, rr1.2⟩)
    rw [hfe _ rr1.1 (by omega), cY1 rr1.1.1] at q3
    unfold aWhn aFnd; rw [if_pos (by omega), if_neg q3]
  case k4 =>
    refine q_eq ?_ (hQ M ⟨h, Fr_refl⟩)
    unfold aWhn; rw [if_neg (by omega)]
theorem rq277 {M : dsMem} {W : dsW} {s k : Int} (h : RI0 M W) : bCt 277 [uR 11 84, uI s, uI k, uX 0] M (fun _ => [uI (aWhn W s k)]) (fun M' => RI0 M' W ∧ Fr RQ M M') := by
  intro Q hQ
  have b := RI_b h
  have hfe : ∀ M1, RN M1 W → 0 ≤ s ∧ s < wN W → dsFind (fun i => ¬ (v248 M1 s i k ≤ 0)) 0 (M1 85 0 + 1) = dsFind (fun y => ¬ lSo (aL (P0 W) y s) k ≤ 0) 0 (wY W + 1) := fun M1 hr hs => by
    have b1 := RI_b hr.1
    exact fndE (by omega) (fun j j0 j1 => by rw [r248 hr (by omega) hs])
  refine r277_0 (hA1 :=  asksStone_ct h) (k1 := fun M1 rr1 q1 => ?k1) (s1 := fun M1 rr1 q1 q2 i277_1 q3 q4 => ?s1) (s2 := fun M1 rr1 q1 q2 i277_1 q3 q4 i248_1 a248_1 q5 q6 => ?s2) (s3 := fun M1 rr1 q1 q2 i277_1 q3 q4 i248_1 a248_1 q5 q6 => ?s3) (s4 := fun M1 rr1 q1 q2 i277_1 q3 q4 i248_1 a248_1 q5 q6 => ?s4) (s5 := fun M1 rr1 q1 q2 i277_1 q3 q4 => ?s5) (s6 := fun M1 rr1 q1 q2 i277_1 q3 q4 => ?s6) (k2 := fun M1 rr1 q1 q2 q3 => ?k2) (k3 := fun M1 rr1 q1 q2 q3 => ?k3) (k4 := fun M1 rr1 q1 q2 => ?k4)
  case k1 =>
    have b1 := RI_b rr1.1.1
    have z1 := if01_0 q1
    refine q_eq ?_ (hQ M1 ⟨rr1.1.1, rr1.2⟩)
    unfold aWhn; rw [if_neg (by omega)]
  case s1 =>
    have b1 := RI_b rr1.1.1
    have z1 := if01_1 q1
    have hd := rD rr1.1 (y := i277_1) (s := s) (by omega) (by omega); have hb := rB rr1.1 (y := i277_1) (s := s) (by omega) (by omega); omega
  case s2 =>
    have b1 := RI_b rr1.1.1
    have z1 := if01_1 q1
    have hd := rD rr1.1 (y := i277_1) (s := s) (by omega) (by omega); have hb := rB rr1.1 (y := i277_1) (s := s) (by omega) (by omega); omega
  case s3 =>
    have b1 := RI_b rr1.1.1
    have z1 := if01_1 q1
    have hd := rD rr1.1 (y := i277_1) (s := s) (by omega) (by omega); have hb := rB rr1.1 (y := i277_1) (s := s) (by omega) (by omega); omega
  case s4 =>
    have b1 := RI_b rr1.1.1
    have z1 := if01_1 q1
    have hd := rD rr1.1 (y := i277_1) (s := s) (by omega) (by omega); have hb := rB rr1.1 (y := i277_1) (s := s) (by omega) (by omega); omega
  case s5 =>
    have b1 := RI_b rr1.1.1
    have z1 := if01_1 q1
    have hd := rD rr1.1 (y := i277_1) (s := s) (by omega) (by omega); have hb := rB rr1.1 (y := i277_1) (s := s) (by omega) (by omega); omega
  case s6 =>
    have b1 := RI_b rr1.1.1
    have z1 := if01_1 q1
    have hd := rD rr1.1 (y := i277_1) (s := s) (by omega) (by omega); have hb := rB rr1.1 (y := i277_1) (s := s) (by omega) (by omega); omega
  case k2 =>
    have b1 := RI_b rr1.1.1
    have z1 := if01_1 q1
    refine q_eq ?_ (hQ M1 ⟨rr1.1.1, rr1.2⟩)
    rw [hfe _ rr1.1 (by omega)] at q3 ⊢; rw [rY0 rr1.1.1] at q3
    unfold aWhn aFnd; rw [if_pos (by omega), if_pos q3]
  case k3 =>
    have b1 := RI_b rr1.1.1
    have z1 := if01_1 q1
    refine q_eq ?_ (hQ M1 ⟨rr1.1.1, rr1.2⟩)
    rw [hfe _ rr1.1 (by omega), rY0 rr1.1.1] at q3
    unfold aWhn aFnd; rw [if_pos (by omega), if_neg q3]
  case k4 =>
    have b1 := RI_b rr1.1.1
    have z1 := if01_1 q1
    refine q_eq ?_ (hQ M1 ⟨rr1.1.1, rr1.2⟩)
    unfold aWhn; rw [if_neg (by omega)]
def aSnk (W : dsW) (s : Int) : Int := if 0 ≤ s ∧ s ≤ wN W - 1 then dsIter (fun y a => if aH (P0 W) (y - 1) s ≤ aH (P0 W) y s then a else dsw (a + 1)) 1 (wY W + 1) 0 else -2
theorem cq108 {M : dsMem} {W : dsW} {s : Int} (h : CI M W) : bCt 108 [uR 10 0, uI s, uX 0, uX 0, uX 0] M (fun _ => [uI (aSnk W s)]) (fun M' => CI M' W ∧ Fr CQ M M') := by
  intro Q hQ
  have b := CI_b h
  refine r108n_0 (hA1 := fun _ => asNow_ct h) (k1 := fun q1 M1 rr1 => ?_) (k2 := fun q1 => ?_)
  · have b1 := CI_b rr1.1.1
    have fin := hQ M1 ⟨rr1.1.1, rr1.2⟩
    have key : ∀ x4 x3 : Int, 1 ≤ x4 → 0 ≤ x3 ∧ x3 < x4 → dsIter (fun y a => if aH (P0 W) (y - 1) s ≤ aH (P0 W) y s then a else dsw (a + 1)) x4 (wY W + 1) x3 = aSnk W s → bB 108 21 [uR 10 0, uI s, uR 5 47, uI x3, uI x4] [] M1 Q := by
      refine ds_ind (P := fun x4 => ∀ x3 : Int, 1 ≤ x4 → 0 ≤ x3 ∧ x3 < x4 → dsIter (fun y a => if aH (P0 W) (y - 1) s ≤ aH (P0 W) y s then a else dsw (a + 1)) x4 (wY W + 1) x3 = aSnk W s → bB 108 21 [uR 10 0, uI s, uR 5 47, uI x3, uI x4] [] M1 Q) (wY W + 1) ?_ ?_
      · intro x4 h4 x3 h0 hx e
        rw [dsIter_end h4] at e
        exact r108n_21 (k1 := fun q => q_eq e fin) (k2 := fun q => by omega) (k3 := fun q => by omega)
      · intro x4 h4 ih x3 h0 hx e
        rw [dsIter_step h4] at e
        refine r108n_21 (k1 := fun q => by omega) (k2 := fun q q2 => ?_) (k3 := fun q q2 => ?_)
        · rw [cH rr1.1 (by omega) (by omega), cH rr1.1 (by omega) (by omega)] at q2
          rw [if_pos q2] at e
          exact ih x3 (by omega) (by omega) e
        · rw [cH rr1.1 (by omega) (by omega), cH rr1.1 (by omega) (by omega)] at q2
          rw [if_neg q2, dsw_id (by omega) (by omega)] at e
          exact ih (x3 + 1) (by omega) (by omega) e
    refine key 1 0 (by omega) (by omega) ?_
    unfold aSnk
    rw [if_pos (by omega)]
  · refine q_eq ?_ (hQ M ⟨h, Fr_refl⟩)
    unfold aSnk; rw [if_neg (by omega)]
theorem rq278 {M : dsMem} {W : dsW} {s : Int} (h : RI0 M W) : bCt 278 [uR 11 84, uI s, uX 0, uX 0] M (fun _ => [uI (aSnk W s)]) (fun M' => RI0 M' W ∧ Fr RQ M M') := by
  intro Q hQ
  have b := RI_b h
  refine r278_0 (hA1 :=  asksStone_ct h) (s1 := fun M1 rr1 q1 i278_1 a278_1 q2 q3 => ?s1) (s2 := fun M1 rr1 q1 i278_1 a278_1 q2 q3 => ?s2) (s3 := fun M1 rr1 q1 i278_1 a278_1 q2 q3 => ?s3) (s4 := fun M1 rr1 q1 i278_1 a278_1 q2 q3 => ?s4) (k1 := fun M1 rr1 q1 => ?k1) (k2 := fun M1 rr1 q1 => ?k2)
  case s1 =>
    have b1 := RI_b rr1.1.1
    have z1 := if01_1 q1
    omega
  case s2 =>
    have b1 := RI_b rr1.1.1
    have z1 := if01_1 q1
    omega
  case s3 =>
    have b1 := RI_b rr1.1.1
    have z1 := if01_1 q1
    omega
  case s4 =>
    have b1 := RI_b rr1.1.1
    have z1 := if01_1 q1
    omega
  case k1 =>
    have b1 := RI_b rr1.1.1
    have z1 := if01_1 q1
    refine q_eq ?_ (hQ M1 ⟨rr1.1.1, rr1.2⟩)
    unfold aSnk; rw [if_pos (by omega), rY0 rr1.1.1]
    refine dsIter_congrI (fun _ b => dsw b = b) _ _ rfl ?_
    intro j c j0 j1 hc
    rw [rH rr1.1 (by omega) (by omega), rH rr1.1 (by omega) (by omega)]
    split
    · rw [Int.add_zero, hc]; exact ⟨rfl, rfl⟩
    · exact ⟨rfl, dsw_dsw _⟩
  case k2 =>
    have b1 := RI_b rr1.1.1
    have z1 := if01_0 q1
    refine q_eq ?_ (hQ M1 ⟨rr1.1.1, rr1.2⟩)
    unfold aSnk; rw [if_neg (by omega)]
-- alike
def lEq (l r : dsL) : Bool := l == r
theorem dyG_nil (i : Int) : dyG [] i = (0, 0) := by unfold dyG; simp
theorem lEq_all : ∀ {l r : dsL}, l.length = r.length → (∀ i : Int, 0 ≤ i → i < (l.length : Int) → dyG l i = dyG r i) → l = r
  | [], [], _, _ => rfl
  | [], q :: r, h, _ => by simp at h
  | p :: l, [], h, _ => by simp at h
  | p :: l, q :: r, h, hh => by
    simp only [List.length_cons] at h hh
    have h0 := hh 0 (by omega) (by omega)
    rw [dyG_0, dyG_0] at h0
    rw [h0]
    congr 1
    refine lEq_all (by omega) (fun i i0 i1 => ?_)
    have h1 := hh (i + 1) (by omega) (by omega)
    rw [dyG_s _ _ i0, dyG_s _ _ i0] at h1
    exact h1
theorem alike_ct {M : dsMem} {c d : Int} {l r : dsL} (hc : 0 ≤ c ∧ c < 78) (hd : 0 ≤ d ∧ d < 78) (hl : dyCell M 47 c l) (hr : dyCell M 47 d r) (hb : (l.length : Int) ≤ 60) :
    bCt 28 [uR 5 47, uI c, uI d, uX 0, uX 0] M (fun _ => [uI (if l = r then 1 else 0)]) (fun M' => M' = M) := by
  intro Q hQ
  have fin := hQ M rfl
  have el : M 51 c = (l.length : Int) := hl.1
  have er : M 51 d = (r.length : Int) := hr.1
  have el' : M (47 + 4) c = (l.length : Int) := hl.1
  have er' : M (47 + 4) d = (r.length : Int) := hr.1
  have no : ∀ x4, ¬ l = r → bB 28 24 [uR 5 47, uI c, uI d, uI 0, uI x4] [] M Q := by
    intro x4 h
    rw [if_neg h] at fin
    exact r28_24 (k1 := fun _ => fin) (k2 := fun q => absurd rfl q) (k3 := fun q => absurd rfl q) (k4 := fun q => absurd rfl q) (k5 := fun q => absurd rfl q)
  refine r28_0 (k1 := fun q => ?_) (k2 := fun q => ?_)
  · refine no 0 (fun e => q ?_)
    show M 51 c = M 51 d
    rw [el, er, e]
  · have q' : M 51 c = M 51 d := q
    have hlen : l.length = r.length := by omega
    have key : ∀ x4 : Int, 0 ≤ x4 → (∀ i : Int, 0 ≤ i → i < x4 → dyG l i = dyG r i) → bB 28 24 [uR 5 47, uI c, uI d, uI 1, uI x4] [] M Q := by
      refine ds_ind (P := fun x4 => 0 ≤ x4 → (∀ i : Int, 0 ≤ i → i < x4 → dyG l i = dyG r i) → bB 28 24 [uR 5 47, uI c, uI d, uI 1, uI x4] [] M Q) (l.length : Int) ?_ ?_
      · intro x4 h4 h0 hh
        have e := lEq_all hlen (fun i i0 i1 => hh i i0 (by omega))
        rw [if_pos e] at fin
        exact r28_24 (k1 := fun q => by omega) (k2 := fun _ _ => fin) (k3 := fun _ q2 => absurd (show M 51 c ≤ x4 by omega) q2) (k4 := fun _ q2 => absurd (show M 51 c ≤ x4 by omega) q2) (k5 := fun _ q2 => absurd (show M 51 c ≤ x4 by omega) q2)
      · intro x4 h4 ih h0 hh
        have e1 := dyRp_get hl.2.2 h0 h4
        have e2 := dyRp_get hr.2.2 h0 (show x4 < (r.length : Int) by omega)
        have e1a : M 49 (c * 60 + x4) = (dyG l x4).1 := e1.1
        have e1b : M 50 (c * 60 + x4) = (dyG l x4).2 := e1.2
        have e2a : M 49 (d * 60 + x4) = (dyG r x4).1 := e2.1
        have e2b : M 50 (d * 60 + x4) = (dyG r x4).2 := e2.2
        refine r28_24 (k1 := fun q => by omega) (k2 := fun _ q2 => absurd q2 (show ¬ M 51 c ≤ x4 by omega)) (k3 := fun _ _ q3 => ?_) (k4 := fun _ _ q3 q4 => ?_) (k5 := fun _ _ q3 q4 => ?_)
        · refine no _ (fun e => q3 ?_)
          show M 49 (c * 60 + x4) = M 49 (d * 60 + x4)
          rw [e1a, e2a, e]
        · refine no _ (fun e => q4 ?_)
          show M 50 (c * 60 + x4) = M 50 (d * 60 + x4)
          rw [e1b, e2b, e]
        · have q3' : M 49 (c * 60 + x4) = M 49 (d * 60 + x4) := q3
          have q4' : M 50 (c * 60 + x4) = M 50 (d * 60 + x4) := q4
          refine ih (by omega) (fun i i0 i1 => ?_)
          by_cases hi : i = x4
          · subst hi
            exact Prod.ext (by rw [← e1a, ← e2a]; exact q3') (by rw [← e1b, ← e2b]; exact q4')
          · exact hh i i0 (by omega)
    exact key 0 (by omega) (fun i _ _ => by omega)
theorem ralike_ct {M : dsMem} {c d : Int} {l r : dsL} (hc : 0 ≤ c ∧ c < 78) (hd : 0 ≤ d ∧ d < 78) (hl : RKc M c l) (hr : RKc M d r) (hb : (l.length : Int) ≤ 60) :
    bCt 279 [uR 11 84, uI c, uI d, uX 0, uX 0] M (fun _ => [uI (if l = r then 1 else 0)]) (fun M' => M' = M) := by
  intro Q hQ
  have fin := hQ M rfl
  have el : M 103 c = (l.length : Int) := hl.1
  have er : M 103 d = (r.length : Int) := hr.1
  have no : ∀ x4, ¬ l = r → bB 279 24 [uR 11 84, uI c, uI d, uI 0, uI x4] [] M Q := by
    intro x4 h
    rw [if_neg h] at fin
    exact r279_24 (k1 := fun _ => fin) (k2 := fun _ _ => fin) (k3 := fun _ q => absurd rfl q) (k4 := fun _ q => absurd rfl q) (k5 := fun _ q => absurd rfl q)
  refine r279_0 (k1 := fun q => ?_) (k2 := fun q => ?_)
  · refine no 0 (fun e => q ?_)
    rw [el, er, e]
  · have hlen : l.length = r.length := by omega
    have key : ∀ x4 : Int, 0 ≤ x4 → (∀ i : Int, 0 ≤ i → i < x4 → dyG l i = dyG r i) → bB 279 24 [uR 11 84, uI c, uI d, uI 1, uI x4] [] M Q := by
      refine ds_ind (P := fun x4 => 0 ≤ x4 → (∀ i : Int, 0 ≤ i → i < x4 → dyG l i = dyG r i) → bB 279 24 [uR 11 84, uI c, uI d, uI 1, uI x4] [] M Q) (l.length : Int) ?_ ?_
      · intro x4 h4 h0 hh
        have e := lEq_all hlen (fun i i0 i1 => hh i i0 (by omega))
        rw [if_pos e] at fin
        exact r279_24 (k1 := fun _ => fin) (k2 := fun q2 => by omega) (k3 := fun q2 => by omega) (k4 := fun q2 => by omega) (k5 := fun q2 => by omega)
      · intro x4 h4 ih h0 hh
        have e1 := dyRp_get hl.2.2 h0 h4
        have e2 := dyRp_get hr.2.2 h0 (show x4 < (r.length : Int) by omega)
        refine r279_24 (k1 := fun q => by omega) (k2 := fun _ q2 => by omega) (k3 := fun _ _ q3 => ?_) (k4 := fun _ _ q3 q4 => ?_) (k5 := fun _ _ q3 q4 => ?_)
        · refine no _ (fun e => q3 ?_)
          rw [e1.1, e2.1, e]
        · refine no _ (fun e => q4 ?_)
          rw [e1.2, e2.2, e]
        · rw [e1.1, e2.1] at q3
          rw [e1.2, e2.2] at q4
          refine ih (by omega) (fun i i0 i1 => ?_)
          by_cases hi : i = x4
          · subst hi
            exact Prod.ext q3 q4
          · exact hh i i0 (by omega)
    exact key 0 (by omega) (fun i _ _ => by omega)
def aAlk (W : dsW) (s y : Int) : Int := if (0 ≤ s ∧ s ≤ wN W - 1) ∧ 0 < wLn W ∧ 0 ≤ y ∧ y ≤ wY W then dsIter (fun o a => if aL (P0 W) y s = aL (P0 W) y o then dsw (a + 1) else a) 0 (wN W) 0 else -2
theorem cq109 {M : dsMem} {W : dsW} {s y : Int} (h : CI M W) : bCt 109 [uR 10 0, uI s, uI y, uX 0, uX 0, uX 0] M (fun _ => [uI (aAlk W s y)]) (fun M' => CI M' W ∧ Fr CQ M M') := by
  intro Q hQ
  have b := CI_b h
  refine r109_0 (hA1 := fun _ => asNow_ct h) (k1 := fun q1 M1 rr1 => ?_) (k2 := fun q1 => ?_)
  · have b1 := CI_b rr1.1.1
    have fin := hQ M1 ⟨rr1.1.1, rr1.2⟩
    have hcell : ∀ o, 0 ≤ o → o < wN W → dyCell M1 47 (y * 6 + o) (aL (P0 W) y o) := fun o o0 o1 => (FR_y (cfr rr1.1) (by show 0 ≤ y ∧ y ≤ wY W; omega)).1.1 o o0 o1
    have hlen := cB rr1.1 (y := y) (s := s) (by omega) (by omega)
    have key : ∀ x5 x4 : Int, 0 ≤ x5 → 0 ≤ x4 ∧ x4 ≤ x5 → dsIter (fun o a => if aL (P0 W) y s = aL (P0 W) y o then dsw (a + 1) else a) x5 (wN W) x4 = aAlk W s y → bB 109 23 [uR 10 0, uI s, uI y, uR 5 47, uI x4, uI x5] [] M1 Q := by
      refine ds_ind (P := fun x5 => ∀ x4 : Int, 0 ≤ x5 → 0 ≤ x4 ∧ x4 ≤ x5 → dsIter (fun o a => if aL (P0 W) y s = aL (P0 W) y o then dsw (a + 1) else a) x5 (wN W) x4 = aAlk W s y → bB 109 23 [uR 10 0, uI s, uI y, uR 5 47, uI x4, uI x5] [] M1 Q) (wN W) ?_ ?_
      · intro x5 h5 x4 h0 hx e
        rw [dsIter_end h5] at e
        exact r109_23 (R1 := fun _ => False) (g1 := fun _ => 0) (k1 := fun q => q_eq e fin) (hA1 := fun q => by omega) (k2 := fun q => by omega) (k3 := fun q => by omega)
      · intro x5 h5 ih x4 h0 hx e
        rw [dsIter_step h5] at e
        refine r109_23 (k1 := fun q => by omega) (hA1 := fun q => alike_ct (by omega) (by omega) (hcell s (by omega) (by omega)) (hcell x5 h0 h5) hlen.2.2.2.1) (k2 := fun q M2 r2 q2 => ?_) (k3 := fun q M2 r2 q2 => ?_)
        · subst r2
          rw [if_neg (if01_0 q2)] at e
          exact ih x4 (by omega) (by omega) e
        · subst r2
          rw [if_pos (if01_1 q2), dsw_id (by omega) (by omega)] at e
          exact ih (x4 + 1) (by omega) (by omega) e
    refine key 0 0 (by omega) (by omega) ?_
    unfold aAlk
    rw [if_pos (by omega)]
  · refine q_eq ?_ (hQ M ⟨h, Fr_refl⟩)
    unfold aAlk; rw [if_neg (by omega)]
theorem rq280 {M : dsMem} {W : dsW} {s y : Int} (h : RI0 M W) : bCt 280 [uR 11 84, uI s, uI y, uX 0, uX 0] M (fun _ => [uI (aAlk W s y)]) (fun M' => RI0 M' W ∧ Fr RQ M M') := by
  intro Q hQ
  have b := RI_b h
  refine r280_0 (hA1 := asksYear_ct h) (k1 := fun M1 rr1 q1 => ?_) (s1 := fun M1 rr1 q1 => by have b1 := RI_b rr1.1.1; omega) (k2 := fun M1 rr1 q1 q2 => ?_) (k3 := fun M1 rr1 q1 q2 => ?_)
  · have b1 := RI_b rr1.1.1
    have z1 := if01_0 q1
    refine q_eq ?_ (hQ M1 ⟨rr1.1.1, rr1.2⟩)
    unfold aAlk; rw [if_neg (by omega)]
  · have b1 := RI_b rr1.1.1
    have z1 := if01_1 q1
    have fin := hQ M1 ⟨rr1.1.1, rr1.2⟩
    have hcell : ∀ o, 0 ≤ o → o < wN W → RKc M1 (6 * y + o) (aL (P0 W) y o) := fun o o0 o1 => (RR_y rr1.1.2.2 (by show 0 ≤ y ∧ y ≤ wY W; omega)).1.1 o o0 o1
    have hlen := rB rr1.1 (y := y) (s := s) (by omega) (by omega)
    have key : ∀ x5 x4 : Int, 0 ≤ x5 → 0 ≤ x4 ∧ x4 ≤ x5 → dsIter (fun o a => if aL (P0 W) y s = aL (P0 W) y o then dsw (a + 1) else a) x5 (wN W) x4 = aAlk W s y → bB 280 25 [uR 11 84, uI s, uI y, uI x4, uI x5] [] M1 Q := by
      refine ds_ind (P := fun x5 => ∀ x4 : Int, 0 ≤ x5 → 0 ≤ x4 ∧ x4 ≤ x5 → dsIter (fun o a => if aL (P0 W) y s = aL (P0 W) y o then dsw (a + 1) else a) x5 (wN W) x4 = aAlk W s y → bB 280 25 [uR 11 84, uI s, uI y, uI x4, uI x5] [] M1 Q) (wN W) ?_ ?_
      · intro x5 h5 x4 h0 hx e
        rw [dsIter_end h5] at e
        exact r280_25 (R1 := fun _ => False) (g1 := fun _ => 0) (k1 := fun q => q_eq e fin) (hA1 := fun q => by omega) (k2 := fun q => by omega) (k3 := fun q => by omega)
      · intro x5 h5 ih x4 h0 hx e
        rw [dsIter_step h5] at e
        refine r280_25 (k1 := fun q => by omega) (hA1 := fun q => ralike_ct (by omega) (by omega) (hcell s (by omega) (by omega)) (hcell x5 h0 h5) hlen.2.2.2.1) (k2 := fun q M2 r2 z2 => ?_) (k3 := fun q M2 r2 z2 => ?_)
        · subst r2
          rw [if_neg (if01_0 z2)] at e
          rw [Int.add_zero]
          exact ih x4 (by omega) (by omega) e
        · subst r2
          rw [if_pos (if01_1 z2), dsw_id (by omega) (by omega)] at e
          exact ih (x4 + 1) (by omega) (by omega) e
    refine key 0 0 (by omega) (by omega) ?_
    unfold aAlk
    rw [if_pos (by omega)]
  · have b1 := RI_b rr1.1.1
    refine q_eq ?_ (hQ M1 ⟨rr1.1.1, rr1.2⟩)
    unfold aAlk; rw [if_neg (by omega)]
