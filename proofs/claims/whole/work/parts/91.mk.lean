/-! the class's row and image: they make cells -/
section
variable {m pc nx tg : Nat} {ls st r : List dsV} {u : Nat × Nat} {M : dsMem} {Q : dsQT}
theorem a_calls {i t w : Nat} {as st' : List dsV} (hd : dcd m pc (.invokestatic i) nx tg) (hk : dsLk (dsKT (dsCl m)) i = some (1, t, w) ∨ dsLk (dsKT (dsCl m)) i = some (3, t, w)) (hp : dsPop (dsNa t) st' [] = some (as, r)) (hr : dsRk t < dsRk m ∧ dsCs r ≤ 8 ∧ (dsFl as).length ≤ dsMx t) (hu : u.1 + dsMc t ≤ dsMc m ∧ u.2 + dsMs t ≤ dsMs m) (u' : Nat × Nat) (hu' : (u.1 + dsMc t, u.2 + dsMs t) = u')
    (k : dsA t 0 (dsIn t as) [] (0, 0) M (fun v M' => dsA m nx ls (v ++ r) u' M' Q)) : dsA m pc ls st' u M Q := by
  subst hu'
  obtain ⟨len, h1, h2, h3, h4⟩ := hd
  obtain rfl : len = 3 := h2.resolve_left (fun q => by cases q)
  obtain rfl : pc + 3 = nx := h3.resolve_left (fun q => by cases q)
  refine dsA_st h1 h2 ?_
  rcases hk with hk | hk
  · simp only [dsI, hk, hp]
    unfold dsCa
    rw [if_pos hr]
    exact ⟨hu, k⟩
  · simp only [dsI, hk, hp]
    unfold dsCa
    rw [if_pos hr]
    exact ⟨hu, k⟩
theorem a_ifeq {x off : Int} (hd : dcd m pc (.ifCond .eq off) nx tg) (kt : x = 0 → dsA m tg ls r u M Q) (kf : ¬ (x = 0) → dsA m nx ls r u M Q) : dsA m pc ls (vI x :: r) u M Q := by
  obtain ⟨len, h1, h2, h3, h4⟩ := hd
  obtain rfl : len = 3 := h2.resolve_left (fun q => by cases q)
  obtain rfl : pc + 3 = nx := h3.resolve_left (fun q => by cases q)
  have ht := h4 _ rfl
  refine dsA_st h1 h2 ?_
  simp only [dsI, dsTg]
  rw [if_pos (by omega), show ((pc : Int) + off).toNat = tg by omega]
  exact ⟨kt, kf⟩
theorem a_ifne {x off : Int} (hd : dcd m pc (.ifCond .ne off) nx tg) (kt : ¬ x = 0 → dsA m tg ls r u M Q) (kf : ¬ ¬ (x = 0) → dsA m nx ls r u M Q) : dsA m pc ls (vI x :: r) u M Q := by
  obtain ⟨len, h1, h2, h3, h4⟩ := hd
  obtain rfl : len = 3 := h2.resolve_left (fun q => by cases q)
  obtain rfl : pc + 3 = nx := h3.resolve_left (fun q => by cases q)
  have ht := h4 _ rfl
  refine dsA_st h1 h2 ?_
  simp only [dsI, dsTg]
  rw [if_pos (by omega), show ((pc : Int) + off).toNat = tg by omega]
  exact ⟨kt, kf⟩
theorem a_ifge {x off : Int} (hd : dcd m pc (.ifCond .ge off) nx tg) (kt : 0 ≤ x → dsA m tg ls r u M Q) (kf : ¬ (0 ≤ x) → dsA m nx ls r u M Q) : dsA m pc ls (vI x :: r) u M Q := by
  obtain ⟨len, h1, h2, h3, h4⟩ := hd
  obtain rfl : len = 3 := h2.resolve_left (fun q => by cases q)
  obtain rfl : pc + 3 = nx := h3.resolve_left (fun q => by cases q)
  have ht := h4 _ rfl
  refine dsA_st h1 h2 ?_
  simp only [dsI, dsTg]
  rw [if_pos (by omega), show ((pc : Int) + off).toNat = tg by omega]
  exact ⟨kt, kf⟩
theorem a_icmp_le {x y off : Int} (hd : dcd m pc (.if_icmp .le off) nx tg) (kt : x ≤ y → dsA m tg ls r u M Q) (kf : ¬ (x ≤ y) → dsA m nx ls r u M Q) : dsA m pc ls (vI y :: vI x :: r) u M Q := by
  obtain ⟨len, h1, h2, h3, h4⟩ := hd
  obtain rfl : len = 3 := h2.resolve_left (fun q => by cases q)
  obtain rfl : pc + 3 = nx := h3.resolve_left (fun q => by cases q)
  have ht := h4 _ rfl
  refine dsA_st h1 h2 ?_
  simp only [dsI, dsTg]
  rw [if_pos (by omega), show ((pc : Int) + off).toNat = tg by omega]
  exact ⟨kt, kf⟩
end
theorem Lay_o {G : Int → Nat} {M : dsMem} {a : Int} {t : Nat} (hL : Lay G M) (hg : G a = t) (ht : t < 90) : M a (-1) = bkC t := by
  have := (hL.1 a (by omega)).1.1
  rw [hg] at this; exact this
theorem Lay_n {G : Int → Nat} {M : dsMem} {a : Int} {t : Nat} (hL : Lay G M) (hg : G a = t) (ht : t < 90) (hc : 100 ≤ bkC t) : M a (-2) = bkL t := by
  have := (hL.1 a (by omega)).2.1
  rw [hg] at this; exact this hc
theorem Lay_f {G : Int → Nat} {M : dsMem} {a o : Int} {t k t' : Nat} (hL : Lay G M) (hg : G a = t) (ht : t < 90) (hf : bkF t k = some (t', false, o)) : M a (k : Int) = a + o ∧ G (a + o) = t' := by
  have := (hL.1 a (by omega)).2.2
  rw [hg] at this
  have z := this k t' false o hf
  exact ⟨z.1, z.2.1⟩
theorem Lay_aset {G : Int → Nat} {M : dsMem} {a i x : Int} (hL : Lay G M) (ht : (G a = 35 ∧ G x = 4) ∨ (G a = 36 ∧ G x = 9)) (hi : 0 ≤ i) : Lay G (dsSet M a i x) := by
  have hne : ∀ b : Int, b ≠ a → dsSet M a i x b = M b := fun b q => dsSet_ne q
  refine ⟨fun b hb => ?_, fun b hb => ?_⟩
  · by_cases e : b = a
    · subst e
      obtain ⟨h1, h2, h3⟩ := hL.1 b hb
      refine ⟨by rw [dsSet_at, if_neg (by omega)]; exact h1, fun q => by rw [dsSet_at, if_neg (by omega)]; exact h2 q, fun k t ab o hk => ?_⟩
      rcases ht with ⟨h, -⟩ | ⟨h, -⟩ <;> (rw [h] at hk; cases hk)
    · rw [hne b e]; exact hL.1 b hb
  · by_cases e : b = a
    · subst e
      obtain ⟨h1, h2⟩ := hL.2 b hb
      rcases ht with ⟨h, hx⟩ | ⟨h, hx⟩
      · refine ⟨fun q j j0 j1 => ?_, fun q => ?_⟩
        · rw [dsSet_at]
          split
          · exact Or.inr hx
          · exact h1 q j j0 j1
        · rw [h] at q; cases q
      · refine ⟨fun q => ?_, fun q j j0 j1 => ?_⟩
        · rw [h] at q; cases q
        · rw [dsSet_at]
          split
          · exact Or.inr hx
          · exact h2 q j j0 j1
    · rw [hne b e]; exact hL.2 b hb
theorem Vd_k {G : Int → Nat} {t : Nat} {a : Int} (hg : G a = t) (ht : t < 90) (hn : bkN t = false) : Vd G (uR t a) := by
  refine ⟨ht, ?_⟩
  rw [if_neg (by rw [hn]; decide)]
  exact hg
theorem within_ct {x0 x1 x2 : Int} {M : dsMem} : bCt 144 [uI x0, uI x1, uI x2] M (fun _ => [uI (if (x1 ≤ x0 ∧ x0 ≤ x2) then 1 else 0)]) (fun M' => M' = M) := fun _ hQ => pu144 (hQ M rfl)
theorem slot_ct {x0 : Int} {M : dsMem} : bCt 148 [uI x0] M (fun _ => [uI (if (0 ≤ x0 ∧ x0 ≤ 3) then 1 else 0)]) (fun M' => M' = M) := fun _ hQ => pu148 (hQ M rfl)
theorem rbegin_ct {M : dsMem} {x0 x1 x2 : Int} : bCt 40 [uR 9 x0, uI x1, uI x2, uX 0] M (fun _ => []) (fun M' => M' x0 0 = x1 ∧ M' x0 1 = x2 ∧ (∀ j, 0 ≤ j → j < 60 → M' (x0 + 1) j = 0) ∧ Fr (fun a _ => a = x0 ∨ a = x0 + 1) M M') := by
  intro Q hQ
  refine r40_0 (k1 := ?_)
  refine b_loop (fun (x : Int) => [uR 9 x0, uX 0, uX 0, uI x]) (fun x M' => (0 ≤ x ∧ x ≤ 60) ∧ M' x0 0 = x1 ∧ M' x0 1 = x2 ∧ (∀ j, 0 ≤ j → j < x → M' (x0 + 1) j = 0) ∧ Fr (fun a _ => a = x0 ∨ a = x0 + 1) M M') (fun x => (60 - x).toNat) ?_ 0 _ ⟨by omega, by rw [ds_gn (by omega), ds_ge ⟨rfl, rfl⟩], by rw [ds_ge ⟨rfl, rfl⟩], fun j j0 j1 => by omega, Fr_set (Fr_set Fr_refl (Or.inl rfl)) (Or.inl rfl)⟩
  rintro x M1 ⟨hx, h1, h2, hj, hF⟩ ih
  refine r40_12 (k1 := fun p => hQ M1 ⟨h1, h2, fun j j0 j1 => hj j j0 (by omega), hF⟩) (k2 := fun p => ?_)
  refine ih (x + 1) _ (by show (60 - (x + 1)).toNat < (60 - x).toNat; omega) ⟨by omega, by rw [ds_gn (by omega)]; exact h1, by rw [ds_gn (by omega)]; exact h2, fun j j0 j1 => ?_, Fr_set hF (Or.inr rfl)⟩
  by_cases e : j = x
  · subst e; rw [ds_ge ⟨rfl, rfl⟩]
  · rw [ds_gn (by omega)]; exact hj j j0 (by omega)
theorem row_fin {G G1 : Int → Nat} {M M' : dsMem} {F : Int → Int} {s r : gST} {t w n x : Int} (h : JN G M F s r) (ok : (0 ≤ t ∧ t ≤ 3) ∧ (0 ≤ w ∧ w ≤ 3) ∧ 0 ≤ n ∧ n ≤ 60) (hL' : Lay G1 M') (hg : (∀ a, M' (-1) 0 ≤ a → G1 a = 99) ∧ G1 0 = 10 ∧ G1 84 = 11 ∧ ∀ a, a < 0 → G1 a = 99) (hN : M (-1) 0 ≤ M' (-1) 0) (hx : 115 ≤ x ∧ x + 1 < M' (-1) 0) (h46 : M' 46 t = x)
    (hdis : ∀ u, 0 ≤ u → u < 4 → u ≠ t → 0 ≤ slN (gS s) u → M 46 u ≠ x ∧ M 46 u ≠ x + 1 ∧ M 46 u + 1 ≠ x) (himg : ∀ k, 0 ≤ k → k < 3 → (gI s k).1 = 1 → M 45 k + 20 < x ∨ x + 1 < M 45 k)
    (hv : M' x 0 = w ∧ M' x 1 = n ∧ ∀ j, 0 ≤ j → j < 60 → M' (x + 1) j = 0) (ho : ∀ a j, ¬ (a = 46 ∧ j = t) → a ≠ x → a ≠ x + 1 → ¬ (a = -1 ∧ j = 0) → M' a j = M a j) : JN G1 M' F (gW s, dsUpd (gS s) t (n, w, fun _ => 0), s.2.2) r := by
  obtain ⟨hL, ⟨⟨a1, a2, a3, a4, a5, a6⟩, hneg⟩, c, d, f⟩ := id h
  have e : ∀ a j, a ≤ 114 → a ≠ 46 → a ≠ -1 → M' a j = M a j := fun a j q1 q2 q3 => ho a j (by omega) (by omega) (by omega) (by omega)
  have e46 : ∀ u, u ≠ t → M' 46 u = M 46 u := fun u q => ho 46 u (by omega) (by omega) (by omega) (by omega)
  have hsl : ∀ u, u ≠ t → dsUpd (gS s) t (n, w, fun _ => 0) u = gS s u := fun u q => upd_n _ _ q
  have hst : dsUpd (gS s) t (n, w, fun _ => 0) t = (n, w, fun _ => 0) := upd_e _ _ _
  refine JN_c h hL' ⟨⟨by omega, hg.1, hg.2.1, hg.2.2.1, fun u u0 u1 n0 => ?_, fun k k0 k1 i0 => ?_⟩, hg.2.2.2⟩ ⟨CI_e2 c.1 (fun a j q1 q2 q3 q4 => e a j (by omega) (by omega) (by omega)), ⟨fun u u0 u1 => ?_, fun u v u0 u1 v0 v1 q n1 n2 => ?_⟩, ⟨fun k k0 k1 => ?_, fun k l k0 k1 l0 l1 q i1 i2 => ?_, fun k u k0 k1 u0 u1 i1 i2 => ?_⟩, CTt_e c.2.2.2 (fun a j q => e a j (by omega) (by omega) (by omega))⟩ (fun a j q => e a j (by omega) (by omega) (by omega))
  · by_cases q : u = t
    · subst q; rw [h46]; omega
    · have n0 : 0 ≤ (dsUpd (gS s) t (n, w, fun _ => 0) u).1 := n0
      rw [hsl u q] at n0
      rw [e46 u q]
      have := a5 u u0 u1 n0
      omega
  · rw [e 45 _ (by omega) (by omega) (by omega)]
    have := a6 k k0 k1 i0
    omega
  · show ((dsUpd (gS s) t (n, w, fun _ => 0) u).1 = -1 ∧ _) ∨ (0 ≤ (dsUpd (gS s) t (n, w, fun _ => 0) u).1 ∧ (dsUpd (gS s) t (n, w, fun _ => 0) u).1 ≤ 60 ∧ 0 ≤ (dsUpd (gS s) t (n, w, fun _ => 0) u).2.1 ∧ (dsUpd (gS s) t (n, w, fun _ => 0) u).2.1 ≤ 3 ∧ _ ∧ _ = (dsUpd (gS s) t (n, w, fun _ => 0) u).2.1 ∧ _ = (dsUpd (gS s) t (n, w, fun _ => 0) u).1 ∧ ∀ j, _ → _ → _ = (dsUpd (gS s) t (n, w, fun _ => 0) u).2.2 j)
    by_cases q : u = t
    · subst q
      rw [hst, h46]
      exact Or.inr ⟨ok.2.2.1, ok.2.2.2, ok.2.1.1, ok.2.1.2, hx.1, hv.1, hv.2.1, fun j j0 j1 => hv.2.2 j j0 j1⟩
    · rw [hsl u q, e46 u q]
      rcases c.2.1.1 u u0 u1 with z | z
      · exact Or.inl z
      · have hd := hdis u u0 u1 q z.1
        obtain ⟨z1, z2, z3, z4, z5, z6, z7, z8⟩ := z
        refine Or.inr ⟨z1, z2, z3, z4, z5, ?_, ?_, fun j j0 j1 => ?_⟩
        · rw [ho _ _ (by omega) (by omega) (by omega) (by omega)]; exact z6
        · rw [ho _ _ (by omega) (by omega) (by omega) (by omega)]; exact z7
        · rw [ho _ _ (by omega) (by omega) (by omega) (by omega)]; exact z8 j j0 j1
  · have m1 : 0 ≤ (dsUpd (gS s) t (n, w, fun _ => 0) u).1 := n1
    have m2 : 0 ≤ (dsUpd (gS s) t (n, w, fun _ => 0) v).1 := n2
    by_cases q1 : u = t
    · subst q1
      rw [hsl v (Ne.symm q)] at m2
      rw [h46, e46 v (Ne.symm q)]
      have := hdis v v0 v1 (Ne.symm q) m2
      omega
    · rw [hsl u q1] at m1
      rw [e46 u q1]
      by_cases q2 : v = t
      · subst q2
        rw [h46]
        have := hdis u u0 u1 q1 m1
        omega
      · rw [hsl v q2] at m2
        rw [e46 v q2]
        exact c.2.1.2 u v u0 u1 v0 v1 q m1 m2
  · rw [e 45 _ (by omega) (by omega) (by omega)]
    rcases c.2.2.1.1 k k0 k1 with z | z
    · exact Or.inl z
    · have hd := himg k k0 k1 z.1
      exact Or.inr ⟨z.1, z.2.1, z.2.2.1, CWd_e z.2.2.2 (fun b j q1 q2 => ho b j (by omega) (by omega) (by omega) (by omega))⟩
  · rw [e 45 _ (by omega) (by omega) (by omega), e 45 _ (by omega) (by omega) (by omega)]
    exact c.2.2.1.2.1 k l k0 k1 l0 l1 q i1 i2
  · have i2 : 0 ≤ (dsUpd (gS s) t (n, w, fun _ => 0) u).1 := i2
    rw [e 45 _ (by omega) (by omega) (by omega)]
    by_cases q : u = t
    · subst q
      rw [h46]
      exact himg k k0 k1 i1
    · rw [hsl u q] at i2
      rw [e46 u q]
      exact c.2.2.1.2.2 k u k0 k1 u0 u1 i1 i2
theorem img_fin {G G1 : Int → Nat} {M M' : dsMem} {F : Int → Int} {s r : gST} {k x : Int} (h : JN G M F s r) (ok : 0 ≤ k ∧ k ≤ 2) (hL' : Lay G1 M') (hg : (∀ a, M' (-1) 0 ≤ a → G1 a = 99) ∧ G1 0 = 10 ∧ G1 84 = 11 ∧ ∀ a, a < 0 → G1 a = 99) (hN : M (-1) 0 ≤ M' (-1) 0) (hx : 115 ≤ x ∧ x + 20 < M' (-1) 0) (h45 : M' 45 k = x)
    (hdis : ∀ l, 0 ≤ l → l < 3 → l ≠ k → (gI s l).1 = 1 → M 45 l + 20 < x ∨ x + 20 < M 45 l) (hrow : ∀ u, 0 ≤ u → u < 4 → 0 ≤ slN (gS s) u → x + 20 < M 46 u ∨ M 46 u + 1 < x)
    (hv : CWd M' x (gW s)) (ho : ∀ a j, ¬ (a = 45 ∧ j = k) → ¬ (x ≤ a ∧ a ≤ x + 20) → ¬ (a = -1 ∧ j = 0) → M' a j = M a j) : JN G1 M' F (gW s, gS s, dsUpd (gI s) k (1, gW s), s.2.2.2) r := by
  obtain ⟨hL, ⟨⟨a1, a2, a3, a4, a5, a6⟩, hneg⟩, c, d, f⟩ := id h
  have e : ∀ a j, a ≤ 114 → a ≠ 45 → a ≠ -1 → M' a j = M a j := fun a j q1 q2 q3 => ho a j (by omega) (by omega) (by omega)
  have e45 : ∀ l, l ≠ k → M' 45 l = M 45 l := fun l q => ho 45 l (by omega) (by omega) (by omega)
  have hil : ∀ l, l ≠ k → dsUpd (gI s) k (1, gW s) l = gI s l := fun l q => upd_n _ _ q
  have hik : dsUpd (gI s) k (1, gW s) k = (1, gW s) := upd_e _ _ _
  refine JN_c h hL' ⟨⟨by omega, hg.1, hg.2.1, hg.2.2.1, fun u u0 u1 n0 => ?_, fun l l0 l1 i0 => ?_⟩, hg.2.2.2⟩ ⟨CI_e2 c.1 (fun a j q1 q2 q3 q4 => e a j (by omega) (by omega) (by omega)), ⟨fun u u0 u1 => ?_, fun u v u0 u1 v0 v1 q n1 n2 => ?_⟩, ⟨fun l l0 l1 => ?_, fun l l' k0 k1 l0 l1 q i1 i2 => ?_, fun l u k0 k1 u0 u1 i1 i2 => ?_⟩, CTt_e c.2.2.2 (fun a j q => e a j (by omega) (by omega) (by omega))⟩ (fun a j q => e a j (by omega) (by omega) (by omega))
  · rw [e 46 _ (by omega) (by omega) (by omega)]
    have := a5 u u0 u1 n0
    omega
  · by_cases q : l = k
    · subst q; rw [h45]; omega
    · have i0 : (dsUpd (gI s) k (1, gW s) l).1 = 1 := i0
      rw [hil l q] at i0
      rw [e45 l q]
      have := a6 l l0 l1 i0
      omega
  · rw [e 46 _ (by omega) (by omega) (by omega)]
    rcases c.2.1.1 u u0 u1 with z | z
    · exact Or.inl z
    · have hd := hrow u u0 u1 z.1
      obtain ⟨z1, z2, z3, z4, z5, z6, z7, z8⟩ := z
      refine Or.inr ⟨z1, z2, z3, z4, z5, ?_, ?_, fun j j0 j1 => ?_⟩
      · rw [ho _ _ (by omega) (by omega) (by omega)]; exact z6
      · rw [ho _ _ (by omega) (by omega) (by omega)]; exact z7
      · rw [ho _ _ (by omega) (by omega) (by omega)]; exact z8 j j0 j1
  · rw [e 46 _ (by omega) (by omega) (by omega), e 46 _ (by omega) (by omega) (by omega)]
    exact c.2.1.2 u v u0 u1 v0 v1 q n1 n2
  · show ((dsUpd (gI s) k (1, gW s) l).1 = 0 ∧ _) ∨ ((dsUpd (gI s) k (1, gW s) l).1 = 1 ∧ WOK (dsUpd (gI s) k (1, gW s) l).2 ∧ _ ∧ CWd _ _ (dsUpd (gI s) k (1, gW s) l).2)
    by_cases q : l = k
    · subst q
      rw [hik, h45]
      exact Or.inr ⟨rfl, c.1.1, hx.1, hv⟩
    · rw [hil l q, e45 l q]
      rcases c.2.2.1.1 l l0 l1 with z | z
      · exact Or.inl z
      · have hd := hdis l l0 l1 q z.1
        exact Or.inr ⟨z.1, z.2.1, z.2.2.1, CWd_e z.2.2.2 (fun b j q1 q2 => ho b j (by omega) (by omega) (by omega))⟩
  · have m1 : (dsUpd (gI s) k (1, gW s) l).1 = 1 := i1
    have m2 : (dsUpd (gI s) k (1, gW s) l').1 = 1 := i2
    by_cases q1 : l = k
    · subst q1
      rw [hil l' (Ne.symm q)] at m2
      rw [h45, e45 l' (Ne.symm q)]
      have := hdis l' l0 l1 (Ne.symm q) m2
      omega
    · rw [hil l q1] at m1
      rw [e45 l q1]
      by_cases q2 : l' = k
      · subst q2
        rw [h45]
        exact hdis l k0 k1 q1 m1
      · rw [hil l' q2] at m2
        rw [e45 l' q2]
        exact c.2.2.1.2.1 l l' k0 k1 l0 l1 q m1 m2
  · have i1 : (dsUpd (gI s) k (1, gW s) l).1 = 1 := i1
    rw [e 46 _ (by omega) (by omega) (by omega)]
    by_cases q : l = k
    · subst q
      rw [h45]
      exact hrow u u0 u1 i2
    · rw [hil l q] at i1
      rw [e45 l q]
      exact c.2.2.1.2.2 l u k0 k1 u0 u1 i1 i2
