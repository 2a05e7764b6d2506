/-! chance and mean -/
theorem prod_w {f g : Int → Int → Int} {n : Int} (hn : 0 ≤ n ∧ n ≤ 8) (hg : ∀ i a, 0 ≤ i → i < n → 0 ≤ a → 0 ≤ g i a ∧ g i a ≤ 10 * a) (hf : ∀ i a, 0 ≤ i → i < n → 0 ≤ a → a ≤ 100000000 → f i a = g i a) :
    dsIter f 0 n 1 = dsIter g 0 n 1 ∧ 0 ≤ dsIter g 0 n 1 ∧ dsIter g 0 n 1 ≤ 100000000 := by
  have ten : ∀ k : Nat, k ≤ 8 → (10 : Int) ^ k ≤ 100000000 ∧ 1 ≤ (10 : Int) ^ k := by decide
  have key : ∀ k : Nat, (k : Int) ≤ n → dsIter f 0 k 1 = dsIter g 0 k 1 ∧ 0 ≤ dsIter g 0 k 1 ∧ dsIter g 0 k 1 ≤ (10 : Int) ^ k := by
    intro k
    induction k with
    | zero =>
      intro _
      have e1 : dsIter f 0 ((0 : Nat) : Int) 1 = 1 := dsIter_end (by omega)
      have e2 : dsIter g 0 ((0 : Nat) : Int) 1 = 1 := dsIter_end (by omega)
      rw [e1, e2]
      exact ⟨rfl, by omega, by simp⟩
    | succ k ih =>
      intro hk
      have h := ih (by omega)
      have e : ((k + 1 : Nat) : Int) = (k : Int) + 1 := by omega
      have t := ten k (by omega)
      rw [e, iter_last (by omega), iter_last (by omega), h.1]
      have h2 := hg k (dsIter g 0 k 1) (by omega) (by omega) h.2.1
      refine ⟨hf k _ (by omega) (by omega) h.2.1 (by omega), h2.1, ?_⟩
      rw [Int.pow_succ]; omega
  have h := key n.toNat (by omega)
  have t := ten n.toNat (by omega)
  rw [show ((n.toNat : Nat) : Int) = n by omega] at h
  exact ⟨h.1, h.2.1, by omega⟩
theorem mul_d {a d : Int} (ha : 0 ≤ a) (hd : 0 ≤ d ∧ d ≤ 10) : 0 ≤ a * d ∧ a * d ≤ 10 * a := by
  have h1 : a * d ≤ a * 10 := Int.mul_le_mul_of_nonneg_left hd.2 ha
  exact ⟨Int.mul_nonneg ha hd.1, by omega⟩
theorem wF_r {d n S : Int} (hn : 0 ≤ n ∧ n ≤ 8) (hd : 0 ≤ d ∧ d ≤ 10) : dsIter (fun (i : Int) (a : Int) => (if (dsAnd (dsShr S i) 1) = 1 then (dsw64 ((a * d))) else (dsw64 ((a * (10 - d)))))) 0 n 1 = wF d n S ∧ 0 ≤ wF d n S ∧ wF d n S ≤ 100000000 := by
  refine prod_w hn (fun i a _ _ ha => ?_) (fun i a _ _ ha hb => ?_)
  · have h1 := mul_d ha hd
    have h2 := mul_d ha (d := 10 - d) (by omega)
    show 0 ≤ (if dsBit S i then a * d else a * (10 - d)) ∧ (if dsBit S i then a * d else a * (10 - d)) ≤ 10 * a
    split
    · exact h1
    · exact h2
  · have h1 := mul_d ha hd
    have h2 := mul_d ha (d := 10 - d) (by omega)
    rw [dsw64_id (x := a * d) (by omega) (by omega), dsw64_id (x := a * (10 - d)) (by omega) (by omega)]
def wG (d u S : Int) : Int := dsIter (fun i a => if dsBit u i then (if dsBit S i then a * d else a * (10 - d)) else a) 0 8 1
theorem wG_r {W : dsW} {u S : Int} (hd : 0 ≤ wOd W ∧ wOd W ≤ 10) : wgt W S u = wG (wOd W) u S ∧ 0 ≤ wG (wOd W) u S ∧ wG (wOd W) u S ≤ 100000000 := by
  refine prod_w (by omega) (fun i a _ _ ha => ?_) (fun i a _ _ ha hb => ?_)
  · have h1 := mul_d ha hd
    have h2 := mul_d ha (d := 10 - wOd W) (by omega)
    show 0 ≤ (if dsBit u i then (if dsBit S i then a * wOd W else a * (10 - wOd W)) else a) ∧ (if dsBit u i then (if dsBit S i then a * wOd W else a * (10 - wOd W)) else a) ≤ 10 * a
    split
    · split
      · exact h1
      · exact h2
    · omega
  · have h1 := mul_d ha hd
    have h2 := mul_d ha (d := 10 - wOd W) (by omega)
    rw [dsw64_id (x := a * wOd W) (by omega) (by omega), dsw64_id (x := a * (10 - wOd W)) (by omega) (by omega)]
theorem wC_0 {d u S : Int} : ∀ k : Nat, (∃ i, 0 ≤ i ∧ i < (k : Int) ∧ dsBit S i ∧ ¬ dsBit u i) → wC d u k S = 0
  | 0, ⟨i, i0, i1, _⟩ => by omega
  | k + 1, ⟨i, i0, i1, h1, h2⟩ => by
    rw [show ((k + 1 : Nat) : Int) = (k : Int) + 1 by omega, wC_s (by omega)]
    by_cases hi : i = k
    · subst hi
      rw [if_neg h2, if_pos h1]
    · rw [wC_0 k ⟨i, i0, by omega, h1, h2⟩]
      (repeat' split) <;> omega
theorem inT_all {W : dsW} (h : WOK W) : (0 ≤ inT W ∧ inT W < 256) ∧ ∀ i, 0 ≤ i → i < 8 → (dsBit (inT W) i ↔ i < evN (wR W) ∧ ¬ wY W ≤ evY (wR W) i) := by
  have k := h.1
  have h2 := orB_all (fun i => wY W ≤ evY (wR W) i) (evN (wR W)).toNat (by omega)
  rw [show (((evN (wR W)).toNat : Nat) : Int) = evN (wR W) by omega] at h2
  exact h2
theorem set_hi {n S i : Int} (hn : 0 ≤ n ∧ n ≤ 8) (hS : 0 ≤ S ∧ S < dsShl 1 n) (hi : n ≤ i ∧ i < 8) : ¬ dsBit S i := by
  have hm : ∀ m : Nat, n + m < 8 → ¬ dsBit S (n + m) ∧ S < dsShl 1 (n + m) := by
    intro m
    induction m with
    | zero =>
      intro h
      have e : n + ((0 : Nat) : Int) = n := by omega
      rw [e]
      exact ⟨(bitA (k := n) (S := S) (by omega) hS).2.2.1, hS.2⟩
    | succ m ih =>
      intro h
      have h1 := ih (by omega)
      have h2 := @shl_i (n + m) (by omega)
      have e : n + ((m + 1 : Nat) : Int) = n + m + 1 := by omega
      rw [e]
      have h3 : S < dsShl 1 (n + m + 1) := by omega
      exact ⟨(bitA (k := n + m + 1) (S := S) (by omega) ⟨hS.1, h3⟩).2.2.1, h3⟩
  have := (hm (i - n).toNat (by omega)).1
  rw [show n + (((i - n).toNat : Nat) : Int) = i by omega] at this
  exact this
theorem wgt2_eq {W : dsW} {S : Int} (h : WOK W) (hS : 0 ≤ S ∧ S < dsShl 1 (evN (wR W))) : wgt2 W S = wC (wOd W) (inT W) (evN (wR W)) S ∧ 0 ≤ wgt2 W S ∧ wgt2 W S ≤ 100000000 := by
  have k := h.1
  have hu := inT_all h
  have hg := @wG_r W (inT W) S (by omega)
  have hsub := sub_all hu.1 (evN (wR W)).toNat S (by omega)
  rw [show (((evN (wR W)).toNat : Nat) : Int) = evN (wR W) by omega] at hsub
  have hsub := hsub hS
  have h8 : wG (wOd W) (inT W) S = dsIter (fun i a => if dsBit (inT W) i then (if dsBit S i then a * wOd W else a * (10 - wOd W)) else a) 0 (evN (wR W)) 1 := by
    unfold wG
    rw [dsIter_split (m := evN (wR W)) (by omega) 0 (by omega)]
    refine (dsIter_congr (g := fun _ a => a) _ _ (fun i a i0 i1 => ?_)).trans (dsIter_pres (g := fun a : Int => a) (fun j b => rfl) _ _)
    rw [if_neg (fun q => by have := (hu.2 i (by omega) (by omega)).1 q; omega)]
  unfold wgt2
  by_cases hc : dsAnd S (dsXor (inT W) (-1)) = 0
  · rw [if_pos hc, hg.1]
    refine ⟨?_, hg.2⟩
    rw [h8]
    refine dsIter_congr _ _ (fun i a i0 i1 => ?_)
    by_cases hb : dsBit (inT W) i
    · rw [if_pos hb, if_pos hb]
    · rw [if_neg hb, if_neg hb, if_neg (fun q => hb (hsub.1 hc i i0 i1 q))]
  · rw [if_neg hc]
    refine ⟨?_, by omega, by omega⟩
    have hex : ∃ i, 0 ≤ i ∧ i < (((evN (wR W)).toNat : Nat) : Int) ∧ dsBit S i ∧ ¬ dsBit (inT W) i := by
      refine Classical.byContradiction fun hn => hc (hsub.2 fun i i0 i1 q => ?_)
      exact Classical.byContradiction fun q2 => hn ⟨i, i0, by omega, q, q2⟩
    have := wC_0 (d := wOd W) _ hex
    rw [show (((evN (wR W)).toNat : Nat) : Int) = evN (wR W) by omega] at this
    exact this.symm
theorem sum_b {w V : Int → Int} {n : Int} (hn : 0 ≤ n) (hw : ∀ S, 0 ≤ S → S < n → 0 ≤ w S ∧ w S ≤ 100000000) (hV : ∀ S, 0 ≤ S → S < n → 0 ≤ V S ∧ V S ≤ 360) :
    0 ≤ dsSm (fun S => w S * V S) 0 n 0 ∧ dsSm (fun S => w S * V S) 0 n 0 ≤ 36000000000 * n := by
  have h := dsIter_inv (fun i a => 0 ≤ a ∧ a ≤ 36000000000 * i) (f := fun S a => a + w S * V S) (i := 0) (n := n) (a := 0) hn (by omega) (fun j b j0 j1 hb => by
    have h1 := hw j j0 j1
    have h2 := hV j j0 j1
    have h3 : w j * V j ≤ w j * 360 := Int.mul_le_mul_of_nonneg_left h2.2 h1.1
    have h4 : 0 ≤ w j * V j := Int.mul_nonneg h1.1 h2.1
    show 0 ≤ b + w j * V j ∧ b + w j * V j ≤ 36000000000 * (j + 1)
    omega)
  exact h
theorem sum_w {w V : Int → Int} {n : Int} (hn : 0 ≤ n ∧ n ≤ 256) (hw : ∀ S, 0 ≤ S → S < n → 0 ≤ w S ∧ w S ≤ 100000000) (hV : ∀ S, 0 ≤ S → S < n → 0 ≤ V S ∧ V S ≤ 360) :
    dsIter (fun S a => if 0 < w S then dsw64 (a + w S * V S) else a) 0 n 0 = dsSm (fun S => w S * V S) 0 n 0 := by
  refine dsIter_congrI (fun i a => 0 ≤ a ∧ a ≤ 36000000000 * i) 0 0 (by omega) (fun j b j0 j1 hb => ?_)
  have h1 := hw j j0 j1
  have h2 := hV j j0 j1
  have h3 : w j * V j ≤ w j * 360 := Int.mul_le_mul_of_nonneg_left h2.2 h1.1
  have h4 : 0 ≤ w j * V j := Int.mul_nonneg h1.1 h2.1
  show (if 0 < w j then dsw64 (b + w j * V j) else b) = b + w j * V j ∧ 0 ≤ b + w j * V j ∧ b + w j * V j ≤ 36000000000 * (j + 1)
  refine ⟨?_, by omega, by omega⟩
  by_cases hp : 0 < w j
  · rw [if_pos hp, dsw64_id (by omega) (by omega)]
  · rw [if_neg hp, show w j = 0 by omega, Int.zero_mul, Int.add_zero]
-- values of a set
abbrev vSt (W : dsW) (w S : Int) : Int := dsAnd (dsShr (sU (stP (PR W S) (wY W))) w) 1
abbrev vHa (W : dsW) (S : Int) : Int := wTot (PR W S) (wY W)
theorem vHa_b {W : dsW} {S : Int} (h : WOK W) : 0 ≤ vHa W S ∧ vHa W S ≤ 360 := tot_b (PR_ok h trivial) (stP_WS (PR_ok h trivial) (PR_T h) _)
theorem vSt_b {W : dsW} {w S : Int} : 0 ≤ vSt W w S ∧ vSt W w S ≤ 360 := by
  show 0 ≤ dsAnd (dsShr (sU (stP (PR W S) (wY W))) w) 1 ∧ dsAnd (dsShr (sU (stP (PR W S) (wY W))) w) 1 ≤ 360
  have := ds_b01 (dsShr (sU (stP (PR W S) (wY W))) w); omega
theorem oHas_eq {W : dsW} (h : WOK W) : oHas W = zS (fun S => wC (wOd W) (inT W) (evN (wR W)) S * vHa W S) (evN (wR W)) := by
  have k := h.1
  have hs := @shl_j (evN (wR W)) (by omega)
  unfold oHas zS
  refine (dsIter_congr _ _ (fun S a s0 s1 => ?_)).trans (sum_w (w := fun S => wC (wOd W) (inT W) (evN (wR W)) S) (V := fun S => vHa W S) (by omega) (fun S s0 s1 => by have := wgt2_eq h ⟨s0, s1⟩; rw [← this.1]; exact this.2) (fun S _ _ => vHa_b h))
  rw [(wgt2_eq h ⟨s0, s1⟩).1]
theorem oSta_eq {W : dsW} {w : Int} (h : WOK W) : oSta W w = zS (fun S => wC (wOd W) (inT W) (evN (wR W)) S * vSt W w S) (evN (wR W)) := by
  have k := h.1
  have hs := @shl_j (evN (wR W)) (by omega)
  unfold oSta zS
  refine (dsIter_congrI (fun i a => 0 ≤ a ∧ a ≤ 36000000000 * i) 0 0 (by omega) (fun S a s0 s1 ha => ?_)).trans (sum_w (w := fun S => wC (wOd W) (inT W) (evN (wR W)) S) (V := fun S => vSt W w S) (by omega) (fun S s0 s1 => by have := wgt2_eq h ⟨s0, s1⟩; rw [← this.1]; exact this.2) (fun S _ _ => vSt_b))
  have hw := wgt2_eq h ⟨s0, s1⟩
  have h01 := ds_b01 (dsShr (sU (stP (PR W S) (wY W))) w)
  show (if 0 < wgt2 W S ∧ dsBit (sU (stP (PR W S) (wY W))) w then dsw64 (a + wgt2 W S) else a) = (if 0 < wC (wOd W) (inT W) (evN (wR W)) S then dsw64 (a + wC (wOd W) (inT W) (evN (wR W)) S * vSt W w S) else a) ∧ (0 ≤ (if 0 < wC (wOd W) (inT W) (evN (wR W)) S then dsw64 (a + wC (wOd W) (inT W) (evN (wR W)) S * vSt W w S) else a) ∧ (if 0 < wC (wOd W) (inT W) (evN (wR W)) S then dsw64 (a + wC (wOd W) (inT W) (evN (wR W)) S * vSt W w S) else a) ≤ 36000000000 * (S + 1))
  rw [← hw.1]
  by_cases hp : 0 < wgt2 W S
  · rw [if_pos hp]
    rcases h01 with e | e
    · rw [if_neg (fun q => by have : dsAnd (dsShr (sU (stP (PR W S) (wY W))) w) 1 = 1 := q.2; omega)]
      show a = dsw64 (a + wgt2 W S * dsAnd (dsShr (sU (stP (PR W S) (wY W))) w) 1) ∧ 0 ≤ dsw64 (a + wgt2 W S * dsAnd (dsShr (sU (stP (PR W S) (wY W))) w) 1) ∧ dsw64 (a + wgt2 W S * dsAnd (dsShr (sU (stP (PR W S) (wY W))) w) 1) ≤ _
      rw [e, Int.mul_zero, Int.add_zero, dsw64_id (by omega) (by omega)]
      exact ⟨rfl, by omega, by omega⟩
    · rw [if_pos ⟨hp, e⟩]
      show dsw64 (a + wgt2 W S) = dsw64 (a + wgt2 W S * dsAnd (dsShr (sU (stP (PR W S) (wY W))) w) 1) ∧ 0 ≤ dsw64 (a + wgt2 W S * dsAnd (dsShr (sU (stP (PR W S) (wY W))) w) 1) ∧ dsw64 (a + wgt2 W S * dsAnd (dsShr (sU (stP (PR W S) (wY W))) w) 1) ≤ _
      rw [e, Int.mul_one, dsw64_id (by omega) (by omega)]
      exact ⟨rfl, by omega, by omega⟩
  · rw [if_neg (fun q => hp q.1), if_neg hp]
    exact ⟨rfl, by omega, by omega⟩
-- ten for each rain in time
theorem wC_one (d u : Int) : ∀ k : Nat, k ≤ 8 → zS (fun S => wC d u k S * 1) k = dsIter (fun i a => if dsBit u i then a * 10 else a) 0 k 1
  | 0, _ => by
    show dsSm _ 0 (dsShl 1 0) 0 = _
    rw [show dsShl 1 0 = (1 : Int) by decide]
    unfold dsSm
    rw [dsIter_step (by omega), dsIter_end (by omega)]
    have e2 : wC d u ((0 : Nat) : Int) 0 = 1 := dsIter_end (by omega)
    show 0 + wC d u ((0 : Nat) : Int) 0 * 1 = _
    rw [e2]
    exact (dsIter_end (by omega)).symm
  | k + 1, hk => by
    have ih := wC_one d u k (by omega)
    have ec : ((k + 1 : Nat) : Int) = (k : Int) + 1 := by omega
    have h2 := @shl_i (k : Int) (by omega)
    rw [ec, zS_step _ (by omega), iter_last (by omega), ← ih]
    have e : ∀ S, 0 ≤ S → S < dsShl 1 (k : Int) → wC d u (k + 1) S * 1 + wC d u (k + 1) (S + dsShl 1 k) * 1 = (if dsBit u k then 10 else 1) * (wC d u k S * 1) := by
      intro S s0 s1
      have hA := bitA (k := k) (S := S) (by omega) ⟨s0, s1⟩
      rw [wC_s (by omega), wC_s (by omega), wC_bits (S := S + dsShl 1 k) (T := S) hA.2.2.2]
      by_cases hu : dsBit u k
      · rw [if_pos hu, if_pos hu, if_neg hA.2.2.1, if_pos hA.2.1, if_pos hu, Int.mul_one, Int.mul_one, Int.mul_one, ← Int.mul_add, show 10 - d + d = (10 : Int) by omega]; omega
      · rw [if_neg hu, if_neg hu, if_neg hA.2.2.1, if_pos hA.2.1, if_neg hu]; omega
    have e1 : zS (fun S => wC d u (k + 1) S * 1 + wC d u (k + 1) (S + dsShl 1 k) * 1) k = (if dsBit u k then 10 else 1) * zS (fun S => wC d u k S * 1) k := by
      unfold zS
      rw [sm_congr (fun S s0 s1 => e S s0 s1)]
      have := sm_mul (if dsBit u k then 10 else 1) (fun S => wC d u k S * 1) (n := dsShl 1 k) 0 0
      rw [Int.mul_zero] at this
      exact this
    rw [e1]
    split <;> omega
theorem oAll_eq {W : dsW} (h : WOK W) : oAll W = zS (fun S => wC (wOd W) (inT W) (evN (wR W)) S * 1) (evN (wR W)) ∧ 1 ≤ oAll W ∧ oAll W ≤ 100000000 := by
  have k := h.1
  have hu := inT_all h
  have h1 := wC_one (wOd W) (inT W) (evN (wR W)).toNat (by omega)
  rw [show (((evN (wR W)).toNat : Nat) : Int) = evN (wR W) by omega] at h1
  have h8 : oAll W = dsIter (fun i a => if dsBit (inT W) i then a * 10 else a) 0 (evN (wR W)) 1 := by
    show dsIter (fun i a => if dsBit (inT W) i then a * 10 else a) 0 8 1 = _
    rw [dsIter_split (m := evN (wR W)) (by omega) 0 (by omega)]
    refine (dsIter_congr (g := fun _ a => a) _ _ (fun i a i0 i1 => ?_)).trans (dsIter_pres (g := fun a : Int => a) (fun j b => rfl) _ _)
    rw [if_neg (fun q => by have := (hu.2 i (by omega) (by omega)).1 q; omega)]
  have h9 := prod_w (f := fun i a => if dsBit (inT W) i then a * 10 else a) (g := fun i a => if dsBit (inT W) i then a * 10 else a) (n := 8) (by omega) (fun i a _ _ ha => by
    show 0 ≤ (if dsBit (inT W) i then a * 10 else a) ∧ (if dsBit (inT W) i then a * 10 else a) ≤ 10 * a
    split <;> omega) (fun i a _ _ _ _ => rfl)
  have h10 := dsIter_all (fun a : Int => 1 ≤ a) (f := fun i a => if dsBit (inT W) i then a * 10 else a) (n := 8) 0 1 (by omega) (fun j b _ _ hb => by
    show 1 ≤ (if dsBit (inT W) j then b * 10 else b)
    split <;> omega)
  exact ⟨by rw [h8, h1], h10, h9.2.2⟩
-- rains out of time
theorem bitD0 : ∀ S : Fin 256, ∀ i : Fin 8, ¬ dsBit ((S.val : Nat) : Int) ((i.val : Nat) : Int) → dsOr ((S.val : Nat) : Int) (dsShl 1 ((i.val : Nat) : Int)) = ((S.val : Nat) : Int) + dsShl 1 ((i.val : Nat) : Int) := by decide +kernel
theorem PR_rf (W : dsW) (S T : Int) : PR W T = setRf (PR W S) (pRf (PR W T)) := rfl
theorem init_rf (P : dsP) (g : Int → Int → Option (Int × Int)) : dyInit (setRf P g) = dyInit P := rfl
theorem stP_rf {P Q : dsP} {g : Int → Int → Option (Int × Int)} (e : Q = setRf P g) {Y : Int} (h : ∀ y i, 0 ≤ y → y < ((Y.toNat : Nat) : Int) → 0 ≤ i → i < pRn P → g y i = pRf P y i) : stP Q Y = stP P Y := by
  subst e
  unfold stP
  rw [init_rf, stN_rf _ h]
theorem st_out {W : dsW} {S i : Int} (h : WOK W) (hS : 0 ≤ S ∧ S < 256) (hi : 0 ≤ i ∧ i < evN (wR W)) (hb : ¬ dsBit S i) (ho : wY W ≤ evY (wR W) i) : stP (PR W (S + dsShl 1 i)) (wY W) = stP (PR W S) (wY W) := by
  have k := h.1
  have hor : dsOr S (dsShl 1 i) = S + dsShl 1 i := by
    obtain ⟨i, rfl⟩ : ∃ m : Nat, i = m := ⟨i.toNat, by omega⟩
    obtain ⟨S, rfl⟩ : ∃ m : Nat, S = m := ⟨S.toNat, by omega⟩
    exact bitD0 ⟨S, by omega⟩ ⟨i, by omega⟩ hb
  have hB := bitB hS (k := i) (by omega)
  rw [hor] at hB
  refine stP_rf (PR_rf W S (S + dsShl 1 i)) (fun y j y0 y1 j0 j1 => ?_)
  show wEf (wR W) (wA W) 0 (fun s => decide (dsBit (S + dsShl 1 i) s)) y j = wEf (wR W) (wA W) 0 (fun s => decide (dsBit S s)) y j
  unfold wEf
  by_cases hj : 0 ≤ j ∧ j < evN (wR W)
  · rw [if_pos hj, if_pos hj]
    refine if_iff ?_
    by_cases hji : j = i
    · subst hji
      exact ⟨fun q => by omega, fun q => by omega⟩
    · have e := hB.2.2.2 j hj.1 (by omega) hji
      exact ⟨fun q => ⟨dec_iff.1 (e.1 (dec_iff.2 q.1)), q.2⟩, fun q => ⟨dec_iff.1 (e.2 (dec_iff.2 q.1)), q.2⟩⟩
  · rw [if_neg hj, if_neg hj]
theorem sets_W {W : dsW} (h : WOK W) (F : dsS → Int) : zS (fun S => wF (wOd W) (evN (wR W)) S * F (stP (PR W S) (wY W))) (evN (wR W)) = cW (inT W) (evN (wR W)) * zS (fun S => wC (wOd W) (inT W) (evN (wR W)) S * F (stP (PR W S) (wY W))) (evN (wR W)) := by
  have k := h.1
  have hu := inT_all h
  have hs := @shl_j (evN (wR W)) (by omega)
  have h1 := sets_eq (wOd W) (inT W) (evN (wR W)).toNat (by omega) (fun S => F (stP (PR W S) (wY W)))
  rw [show (((evN (wR W)).toNat : Nat) : Int) = evN (wR W) by omega] at h1
  refine h1 (fun i i0 i1 hn S s0 s1 hb hl => ?_)
  show F (stP (PR W (S + dsShl 1 i)) (wY W)) = F (stP (PR W S) (wY W))
  rw [st_out h ⟨s0, by omega⟩ ⟨i0, i1⟩ hb ?_]
  refine Classical.byContradiction fun q => hn ((hu.2 i i0 (by omega)).2 ⟨i1, q⟩)
theorem cW_pos (u : Int) : ∀ k : Nat, 1 ≤ cW u k
  | 0 => by show 1 ≤ dsIter _ 0 0 1; rw [dsIter_end (by omega)]; omega
  | k + 1 => by
    have := cW_pos u k
    rw [show ((k + 1 : Nat) : Int) = (k : Int) + 1 by omega, cW_s (by omega)]
    split <;> omega
def pA (W : dsW) (x : Int) : Int := dsSm (fun S => wF (wOd W) (evN (wR W)) S * 1) 0 x 0
def pS (W : dsW) (w x : Int) : Int := dsSm (fun S => wF (wOd W) (evN (wR W)) S * vSt W w S) 0 x 0
def pH (W : dsW) (x : Int) : Int := dsSm (fun S => wF (wOd W) (evN (wR W)) S * vHa W S) 0 x 0
theorem low_sta {W : dsW} {w x : Int} (h : WOK W) : lowT (pS W w (dsShl 1 (evN (wR W)))) (pA W (dsShl 1 (evN (wR W)))) x = lowT (oSta W w) (oAll W) x := by
  have k := h.1
  have hc := cW_pos (inT W) (evN (wR W)).toNat
  rw [show (((evN (wR W)).toNat : Nat) : Int) = evN (wR W) by omega] at hc
  have e1 : pS W w (dsShl 1 (evN (wR W))) = cW (inT W) (evN (wR W)) * oSta W w := by
    rw [oSta_eq h]; exact sets_W h (fun S => dsAnd (dsShr (sU S) w) 1)
  have e2 : pA W (dsShl 1 (evN (wR W))) = cW (inT W) (evN (wR W)) * oAll W := by
    rw [(oAll_eq h).1]; exact sets_W h (fun _ => 1)
  rw [e1, e2, lowT_k (by omega)]
theorem low_has {W : dsW} {x : Int} (h : WOK W) : lowT (pH W (dsShl 1 (evN (wR W)))) (pA W (dsShl 1 (evN (wR W)))) x = lowT (oHas W) (oAll W) x := by
  have k := h.1
  have hc := cW_pos (inT W) (evN (wR W)).toNat
  rw [show (((evN (wR W)).toNat : Nat) : Int) = evN (wR W) by omega] at hc
  have e1 : pH W (dsShl 1 (evN (wR W))) = cW (inT W) (evN (wR W)) * oHas W := by
    rw [oHas_eq h]; exact sets_W h (fun S => dsIter (fun s a => dsw (a + dySum (sL S s))) 0 (wN W) 0)
  have e2 : pA W (dsShl 1 (evN (wR W))) = cW (inT W) (evN (wR W)) * oAll W := by
    rw [(oAll_eq h).1]; exact sets_W h (fun _ => 1)
  rw [e1, e2, lowT_k (by omega)]
