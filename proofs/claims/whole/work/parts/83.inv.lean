/-! back on machine A: calls by contract, the steps of the law -/
theorem a_ct {G : Int → Nat} {m : Nat} {as ls : List dsU} {M : dsMem} {g : dsMem → List dsU} {R : dsMem → Prop} {K : dsQT} (hL : Lay G M) (hV : Vs G as) (hn : (bFl as).length ≤ dsMx m) (hls : bIn m as = ls) (c : bCt m ls M g R)
    (hK : ∀ M', Lay G M' → R M' → K ((g M').map er) M') : dsA m 0 (dsIn m (as.map er)) [] (0, 0) M K := by
  subst hls
  refine dsA_mono ?_ (bB_sound (Q := fun r M' => r = g M' ∧ R M') hL hV hn (c _ (fun M1 r => ⟨rfl, r⟩)))
  rintro r M' ⟨r', e, _, hL', e2, hR⟩
  rw [e, e2]
  exact hK M' hL' hR
section
variable {m pc nx tg : Nat} {ls st r : List dsV} {u : Nat × Nat} {M : dsMem} {Q : dsQT}
theorem a_iconst {n : Int} (hd : dcd m pc (.iconst n) nx tg) (hn : -100 ≤ n ∧ n ≤ 100) (k : dsA m nx ls (vI n :: r) u M Q) : dsA m pc ls r u M Q := by
  obtain ⟨len, h1, h2, h3, h4⟩ := hd
  obtain rfl : len = 1 := h2.resolve_left (fun q => by cases q)
  obtain rfl : pc + 1 = nx := h3.resolve_left (fun q => by cases q)
  exact dsA_st h1 h2 (by show ite _ _ _; rw [if_pos hn]; exact k)
theorem a_bipush {n : Int} (hd : dcd m pc (.bipush n) nx tg) (hn : -128 ≤ n ∧ n ≤ 127) (k : dsA m nx ls (vI n :: r) u M Q) : dsA m pc ls r u M Q := by
  obtain ⟨len, h1, h2, h3, h4⟩ := hd
  obtain rfl : len = 2 := h2.resolve_left (fun q => by cases q)
  obtain rfl : pc + 2 = nx := h3.resolve_left (fun q => by cases q)
  exact dsA_st h1 h2 (by show ite _ _ _; rw [if_pos hn]; exact k)
theorem a_sipush {n : Int} (hd : dcd m pc (.sipush n) nx tg) (hn : -32768 ≤ n ∧ n ≤ 32767) (k : dsA m nx ls (vI n :: r) u M Q) : dsA m pc ls r u M Q := by
  obtain ⟨len, h1, h2, h3, h4⟩ := hd
  obtain rfl : len = 3 := h2.resolve_left (fun q => by cases q)
  obtain rfl : pc + 3 = nx := h3.resolve_left (fun q => by cases q)
  exact dsA_st h1 h2 (by show ite _ _ _; rw [if_pos hn]; exact k)
theorem a_iload_n {i : Fin 4} {x : Int} (hd : dcd m pc (.iload_n i) nx tg) (hx : dsg ls i = vI x) (k : dsA m nx ls (vI x :: r) u M Q) : dsA m pc ls r u M Q := by
  obtain ⟨len, h1, h2, h3, h4⟩ := hd
  obtain rfl : len = 1 := h2.resolve_left (fun q => by cases q)
  obtain rfl : pc + 1 = nx := h3.resolve_left (fun q => by cases q)
  exact dsA_st h1 h2 (by simp only [dsI, hx]; exact k)
theorem a_aload_n {i : Fin 4} {x : Int} (hd : dcd m pc (.aload_n i) nx tg) (hx : dsg ls i = vR x) (k : dsA m nx ls (vR x :: r) u M Q) : dsA m pc ls r u M Q := by
  obtain ⟨len, h1, h2, h3, h4⟩ := hd
  obtain rfl : len = 1 := h2.resolve_left (fun q => by cases q)
  obtain rfl : pc + 1 = nx := h3.resolve_left (fun q => by cases q)
  exact dsA_st h1 h2 (by simp only [dsI, hx]; exact k)
theorem a_aload_nX {i : Fin 4} {t : Nat} (hd : dcd m pc (.aload_n i) nx tg) (hx : dsg ls i = vX (t + 1)) (k : dsA m nx ls (vX (t + 1) :: r) u M Q) : dsA m pc ls r u M Q := by
  obtain ⟨len, h1, h2, h3, h4⟩ := hd
  obtain rfl : len = 1 := h2.resolve_left (fun q => by cases q)
  obtain rfl : pc + 1 = nx := h3.resolve_left (fun q => by cases q)
  exact dsA_st h1 h2 (by simp only [dsI, hx]; exact k)
theorem a_istore_n {i : Fin 4} {x : Int} (ls' : List dsV) (hd : dcd m pc (.istore_n i) nx tg) (hi : (i : Nat) < dsMx m) (hl : dsp1 ls i (vI x) = ls') (k : dsA m nx ls' r u M Q) : dsA m pc ls (vI x :: r) u M Q := by
  obtain ⟨len, h1, h2, h3, h4⟩ := hd
  obtain rfl : len = 1 := h2.resolve_left (fun q => by cases q)
  obtain rfl : pc + 1 = nx := h3.resolve_left (fun q => by cases q)
  exact dsA_st h1 h2 (by subst hl; show ite _ _ _; rw [if_pos hi]; exact k)
theorem a_astore_n {i : Fin 4} {x : Int} (ls' : List dsV) (hd : dcd m pc (.astore_n i) nx tg) (hi : (i : Nat) < dsMx m) (hl : dsp1 ls i (vR x) = ls') (k : dsA m nx ls' r u M Q) : dsA m pc ls (vR x :: r) u M Q := by
  obtain ⟨len, h1, h2, h3, h4⟩ := hd
  obtain rfl : len = 1 := h2.resolve_left (fun q => by cases q)
  obtain rfl : pc + 1 = nx := h3.resolve_left (fun q => by cases q)
  exact dsA_st h1 h2 (by subst hl; show ite _ _ _; rw [if_pos hi]; exact k)
theorem a_iinc {i : Nat} {n x : Int} (ls' : List dsV) (hd : dcd m pc (.iinc i n) nx tg) (hx : dsg ls i = vI x) (hi : i < dsMx m) (hr : -2147483648 ≤ x + n ∧ x + n < 2147483648) (hl : dsp1 ls i (vI (x + n)) = ls') (k : dsA m nx ls' r u M Q) : dsA m pc ls r u M Q := by
  obtain ⟨len, h1, h2, h3, h4⟩ := hd
  obtain rfl : len = 3 := h2.resolve_left (fun q => by cases q)
  obtain rfl : pc + 3 = nx := h3.resolve_left (fun q => by cases q)
  exact dsA_st h1 h2 (by subst hl; rw [← dsw_r hr] at k; simp only [dsI, hx]; rw [if_pos hi]; exact k)
theorem a_iadd {x y : Int} (hd : dcd m pc (.iadd) nx tg) (hr : -2147483648 ≤ x + y ∧ x + y < 2147483648) (k : dsA m nx ls (vI (x + y) :: r) u M Q) : dsA m pc ls (vI y :: vI x :: r) u M Q := by
  obtain ⟨len, h1, h2, h3, h4⟩ := hd
  obtain rfl : len = 1 := h2.resolve_left (fun q => by cases q)
  obtain rfl : pc + 1 = nx := h3.resolve_left (fun q => by cases q)
  exact dsA_st h1 h2 (by rw [← dsw_r hr] at k; exact k)
theorem a_isub {x y : Int} (hd : dcd m pc (.isub) nx tg) (hr : -2147483648 ≤ x - y ∧ x - y < 2147483648) (k : dsA m nx ls (vI (x - y) :: r) u M Q) : dsA m pc ls (vI y :: vI x :: r) u M Q := by
  obtain ⟨len, h1, h2, h3, h4⟩ := hd
  obtain rfl : len = 1 := h2.resolve_left (fun q => by cases q)
  obtain rfl : pc + 1 = nx := h3.resolve_left (fun q => by cases q)
  exact dsA_st h1 h2 (by rw [← dsw_r hr] at k; exact k)
theorem a_iand {x y : Int} (hd : dcd m pc (.iand) nx tg) (k : dsA m nx ls (vI (dsAnd x y) :: r) u M Q) : dsA m pc ls (vI y :: vI x :: r) u M Q := by
  obtain ⟨len, h1, h2, h3, h4⟩ := hd
  obtain rfl : len = 1 := h2.resolve_left (fun q => by cases q)
  obtain rfl : pc + 1 = nx := h3.resolve_left (fun q => by cases q)
  exact dsA_st h1 h2 (k)
theorem a_ialoadS {i : Int} (hd : dcd m pc (.iaload) nx tg) (hi : 0 ≤ i ∧ i < M (-2) (-2)) (k : dsA m nx ls (vI (M (-2) i) :: r) u M Q) : dsA m pc ls (vI i :: vX 1 :: r) u M Q := by
  obtain ⟨len, h1, h2, h3, h4⟩ := hd
  obtain rfl : len = 1 := h2.resolve_left (fun q => by cases q)
  obtain rfl : pc + 1 = nx := h3.resolve_left (fun q => by cases q)
  exact dsA_st h1 h2 (⟨hi, k⟩)
theorem a_lenS (hd : dcd m pc (.arraylength) nx tg) (k : dsA m nx ls (vI (M (-2) (-2)) :: r) u M Q) : dsA m pc ls (vX 1 :: r) u M Q := by
  obtain ⟨len, h1, h2, h3, h4⟩ := hd
  obtain rfl : len = 1 := h2.resolve_left (fun q => by cases q)
  obtain rfl : pc + 1 = nx := h3.resolve_left (fun q => by cases q)
  exact dsA_st h1 h2 (k)
theorem a_i2l {x : Int} (hd : dcd m pc (.i2l) nx tg) (k : dsA m nx ls (vJ x :: r) u M Q) : dsA m pc ls (vI x :: r) u M Q := by
  obtain ⟨len, h1, h2, h3, h4⟩ := hd
  obtain rfl : len = 1 := h2.resolve_left (fun q => by cases q)
  obtain rfl : pc + 1 = nx := h3.resolve_left (fun q => by cases q)
  exact dsA_st h1 h2 (k)
theorem a_lcmp {x y : Int} (hd : dcd m pc (.lcmp) nx tg) (k : dsA m nx ls (vI (dsLc x y) :: r) u M Q) : dsA m pc ls (vJ y :: vJ x :: r) u M Q := by
  obtain ⟨len, h1, h2, h3, h4⟩ := hd
  obtain rfl : len = 1 := h2.resolve_left (fun q => by cases q)
  obtain rfl : pc + 1 = nx := h3.resolve_left (fun q => by cases q)
  exact dsA_st h1 h2 (k)
theorem a_dupR {a : Int} (hd : dcd m pc (.dup) nx tg) (k : dsA m nx ls (vR a :: vR a :: r) u M Q) : dsA m pc ls (vR a :: r) u M Q := by
  obtain ⟨len, h1, h2, h3, h4⟩ := hd
  obtain rfl : len = 1 := h2.resolve_left (fun q => by cases q)
  obtain rfl : pc + 1 = nx := h3.resolve_left (fun q => by cases q)
  exact dsA_st h1 h2 (k)
theorem a_new {i c w : Nat} (hd : dcd m pc (.new i) nx tg) (hc : dsLk (dsCT (dsCl m)) i = some (c, w)) (hu : u.1 + 1 ≤ dsMc m ∧ u.2 + dsN c ≤ dsMs m) (k : dsA m nx ls (vR (M (-1) 0) :: r) (u.1 + 1, u.2 + dsN c) (dsNewO M c) Q) : dsA m pc ls r u M Q := by
  obtain ⟨len, h1, h2, h3, h4⟩ := hd
  obtain rfl : len = 3 := h2.resolve_left (fun q => by cases q)
  obtain rfl : pc + 3 = nx := h3.resolve_left (fun q => by cases q)
  exact dsA_st h1 h2 (by simp only [dsI, hc]; exact ⟨hu, k⟩)
theorem a_goto {off : Int} (hd : dcd m pc (.goto off) nx tg) (k : dsA m tg ls r u M Q) : dsA m pc ls r u M Q := by
  obtain ⟨len, h1, h2, h3, h4⟩ := hd
  have ht := h4 _ rfl
  refine dsA_st h1 h2 ?_
  simp only [dsI, dsTg]
  rw [if_pos (by omega), show ((pc : Int) + off).toNat = tg by omega]
  exact k
theorem a_icmp_eq {x y off : Int} (hd : dcd m pc (.if_icmp .eq off) nx tg) (kt : x = y → dsA m tg ls r u M Q) (kf : ¬ (x = y) → dsA m nx ls r u M Q) : dsA m pc ls (vI y :: vI x :: r) u M Q := by
  obtain ⟨len, h1, h2, h3, h4⟩ := hd
  obtain rfl : len = 3 := h2.resolve_left (fun q => by cases q)
  obtain rfl : pc + 3 = nx := h3.resolve_left (fun q => by cases q)
  have ht := h4 _ rfl
  refine dsA_st h1 h2 ?_
  simp only [dsI, dsTg]
  rw [if_pos (by omega), show ((pc : Int) + off).toNat = tg by omega]
  exact ⟨kt, kf⟩
theorem a_icmp_gt {x y off : Int} (hd : dcd m pc (.if_icmp .gt off) nx tg) (kt : y < x → dsA m tg ls r u M Q) (kf : ¬ (y < x) → dsA m nx ls r u M Q) : dsA m pc ls (vI y :: vI x :: r) u M Q := by
  obtain ⟨len, h1, h2, h3, h4⟩ := hd
  obtain rfl : len = 3 := h2.resolve_left (fun q => by cases q)
  obtain rfl : pc + 3 = nx := h3.resolve_left (fun q => by cases q)
  have ht := h4 _ rfl
  refine dsA_st h1 h2 ?_
  simp only [dsI, dsTg]
  rw [if_pos (by omega), show ((pc : Int) + off).toNat = tg by omega]
  exact ⟨kt, kf⟩
theorem a_ret1 (hd : dcd m pc .ireturn nx tg) (hr : dsRt m = some .boolean) (k : Q [vI 1] M) : dsA m pc ls [vI 1] u M Q := by
  obtain ⟨len, h1, h2, h3, h4⟩ := hd
  refine dsA_st h1 h2 ?_
  simp only [dsI, hr]
  exact ⟨Or.inr trivial, k⟩
theorem a_call {i t w : Nat} {a : Int} {as st' : List dsV} (hd : dcd m pc (.invokevirtual i) nx tg) (hk : dsLk (dsKT (dsCl m)) i = some (0, t, w)) (hp : dsPop (dsNa t + 1) st' [] = some (vR a :: as, r)) (hc : M a (-1) = (dsCl t : Int)) (hr : dsRk t < dsRk m ∧ dsCs r ≤ 8 ∧ (dsFl (vR a :: as)).length ≤ dsMx t) (hu : u.1 + dsMc t ≤ dsMc m ∧ u.2 + dsMs t ≤ dsMs m)
    (k : dsA t 0 (dsIn t (vR a :: as)) [] (0, 0) M (fun v M' => dsA m nx ls (v ++ r) (u.1 + dsMc t, u.2 + dsMs t) M' Q)) : dsA m pc ls st' u M Q := by
  obtain ⟨len, h1, h2, h3, h4⟩ := hd
  obtain rfl : len = 3 := h2.resolve_left (fun q => by cases q)
  obtain rfl : pc + 3 = nx := h3.resolve_left (fun q => by cases q)
  refine dsA_st h1 h2 ?_
  simp only [dsI, hk, hp]
  refine ⟨hc, ?_⟩
  unfold dsCa
  rw [if_pos hr]
  exact ⟨hu, k⟩
end
