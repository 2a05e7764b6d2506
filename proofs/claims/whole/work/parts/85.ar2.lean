/-! more steps of machine A: fields, rows, new cells, constructors -/
section
variable {m pc nx tg : Nat} {ls st r : List dsV} {u : Nat × Nat} {M : dsMem} {Q : dsQT}
theorem a_newarray {t : ArrayType} {n : Int} (hd : dcd m pc (.newarray t) nx tg) (ht : ¬ dsKn t = -7) (hn : 0 ≤ n ∧ n ≤ 100000) (hu : u.1 + 1 ≤ dsMc m ∧ u.2 + n.toNat ≤ dsMs m) (k : dsA m nx ls (vR (M (-1) 0) :: r) (u.1 + 1, u.2 + n.toNat) (dsNew M (dsKn t) n 0) Q) : dsA m pc ls (vI n :: r) u M Q := by
  obtain ⟨len, h1, h2, h3, h4⟩ := hd
  obtain rfl : len = 2 := h2.resolve_left (fun q => by cases q)
  obtain rfl : pc + 2 = nx := h3.resolve_left (fun q => by cases q)
  exact dsA_st h1 h2 (by show ite _ _ _; rw [if_neg ht]; exact ⟨⟨hn.1, hn.2, hu⟩, k⟩)
theorem a_anew7 {i w : Nat} {n : Int} (hd : dcd m pc (.anewarray i) nx tg) (hc : dsLk (dsCT (dsCl m)) i = some (7, w)) (hn : 0 ≤ n ∧ n ≤ 100000) (hu : u.1 + 1 ≤ dsMc m ∧ u.2 + n.toNat ≤ dsMs m) (k : dsA m nx ls (vR (M (-1) 0) :: r) (u.1 + 1, u.2 + n.toNat) (dsNew M 104 n (-1)) Q) : dsA m pc ls (vI n :: r) u M Q := by
  obtain ⟨len, h1, h2, h3, h4⟩ := hd
  obtain rfl : len = 3 := h2.resolve_left (fun q => by cases q)
  obtain rfl : pc + 3 = nx := h3.resolve_left (fun q => by cases q)
  exact dsA_st h1 h2 (by simp only [dsI, hc]; exact ⟨⟨hn.1, hn.2, hu⟩, k⟩)
theorem a_anew5 {i w : Nat} {n : Int} (hd : dcd m pc (.anewarray i) nx tg) (hc : dsLk (dsCT (dsCl m)) i = some (5, w)) (hn : 0 ≤ n ∧ n ≤ 100000) (hu : u.1 + 1 ≤ dsMc m ∧ u.2 + n.toNat ≤ dsMs m) (k : dsA m nx ls (vR (M (-1) 0) :: r) (u.1 + 1, u.2 + n.toNat) (dsNew M 105 n (-1)) Q) : dsA m pc ls (vI n :: r) u M Q := by
  obtain ⟨len, h1, h2, h3, h4⟩ := hd
  obtain rfl : len = 3 := h2.resolve_left (fun q => by cases q)
  obtain rfl : pc + 3 = nx := h3.resolve_left (fun q => by cases q)
  exact dsA_st h1 h2 (by simp only [dsI, hc]; exact ⟨⟨hn.1, hn.2, hu⟩, k⟩)
theorem a_getfield {i c j w : Nat} {a : Int} (hd : dcd m pc (.getfield i) nx tg) (hf : dsLk (dsFT (dsCl m)) i = some (c, j, w)) (hc : M a (-1) = (c : Int)) (k : dsA m nx ls (dsMk (dsY c j) (M a j) :: r) u M Q) : dsA m pc ls (vR a :: r) u M Q := by
  obtain ⟨len, h1, h2, h3, h4⟩ := hd
  obtain rfl : len = 3 := h2.resolve_left (fun q => by cases q)
  obtain rfl : pc + 3 = nx := h3.resolve_left (fun q => by cases q)
  exact dsA_st h1 h2 (by simp only [dsI, hf]; exact ⟨hc, k⟩)
theorem a_aaload {i a : Int} (hd : dcd m pc (.aaload) nx tg) (h : (M a (-1) = 104 ∨ M a (-1) = 105) ∧ 0 ≤ i ∧ i < M a (-2)) (k : dsA m nx ls (vR (M a i) :: r) u M Q) : dsA m pc ls (vI i :: vR a :: r) u M Q := by
  obtain ⟨len, h1, h2, h3, h4⟩ := hd
  obtain rfl : len = 1 := h2.resolve_left (fun q => by cases q)
  obtain rfl : pc + 1 = nx := h3.resolve_left (fun q => by cases q)
  exact dsA_st h1 h2 (⟨h, k⟩)
theorem a_aastore {i a x : Int} (hd : dcd m pc (.aastore) nx tg) (h : (M a (-1) = 104 ∧ M x (-1) = 7 ∨ M a (-1) = 105 ∧ M x (-1) = 5) ∧ 0 ≤ i ∧ i < M a (-2)) (k : dsA m nx ls r u (dsSet M a i x) Q) : dsA m pc ls (vR x :: vI i :: vR a :: r) u M Q := by
  obtain ⟨len, h1, h2, h3, h4⟩ := hd
  obtain rfl : len = 1 := h2.resolve_left (fun q => by cases q)
  obtain rfl : pc + 1 = nx := h3.resolve_left (fun q => by cases q)
  exact dsA_st h1 h2 (⟨h, k⟩)
theorem a_aload {i : Nat} {x : Int} (hd : dcd m pc (.aload i) nx tg) (hx : dsg ls i = vR x) (k : dsA m nx ls (vR x :: r) u M Q) : dsA m pc ls r u M Q := by
  obtain ⟨len, h1, h2, h3, h4⟩ := hd
  obtain rfl : len = 2 := h2.resolve_left (fun q => by cases q)
  obtain rfl : pc + 2 = nx := h3.resolve_left (fun q => by cases q)
  exact dsA_st h1 h2 (by simp only [dsI, hx]; exact k)
theorem a_astore {i : Nat} {x : Int} (ls' : List dsV) (hd : dcd m pc (.astore i) nx tg) (hi : i < dsMx m) (hl : dsp1 ls i (vR x) = ls') (k : dsA m nx ls' r u M Q) : dsA m pc ls (vR x :: r) u M Q := by
  obtain ⟨len, h1, h2, h3, h4⟩ := hd
  obtain rfl : len = 2 := h2.resolve_left (fun q => by cases q)
  obtain rfl : pc + 2 = nx := h3.resolve_left (fun q => by cases q)
  exact dsA_st h1 h2 (by subst hl; show ite _ _ _; rw [if_pos hi]; exact k)
theorem a_putfield {i c j w : Nat} {a : Int} {v : dsV} (hd : dcd m pc (.putfield i) nx tg) (hf : dsLk (dsFT (dsCl m)) i = some (c, j, w)) (hw : (dsT c j).2.2.2 = false ∨ (dsKd m = 2 ∧ dsCl m = c)) (hc : M a (-1) = (c : Int)) (k : dsPv (dsY c j) v (fun x => dsA m nx ls r u (dsSet M a j x) Q)) : dsA m pc ls (v :: vR a :: r) u M Q := by
  obtain ⟨len, h1, h2, h3, h4⟩ := hd
  obtain rfl : len = 3 := h2.resolve_left (fun q => by cases q)
  obtain rfl : pc + 3 = nx := h3.resolve_left (fun q => by cases q)
  refine dsA_st h1 h2 ?_
  simp only [dsI, hf]
  rw [if_pos hw]
  exact ⟨hc, k⟩
theorem a_return (hd : dcd m pc .return_ nx tg) (hr : dsRt m = none) (k : Q [] M) : dsA m pc ls [] u M Q := by
  obtain ⟨len, h1, h2, h3, h4⟩ := hd
  refine dsA_st h1 h2 ?_
  simp only [dsI, hr]
  exact k
theorem a_ireturn {x : Int} (hd : dcd m pc .ireturn nx tg) (hr : dsRt m = some .int) (k : Q [vI x] M) : dsA m pc ls [vI x] u M Q := by
  obtain ⟨len, h1, h2, h3, h4⟩ := hd
  refine dsA_st h1 h2 ?_
  simp only [dsI, hr]
  exact k
theorem a_objinit {i t w : Nat} {a : Int} (hd : dcd m pc (.invokespecial i) nx tg) (hk : dsLk (dsKT (dsCl m)) i = some (16, t, w)) (hr : 1 ≤ dsRk m ∧ dsCs r ≤ 8) (ha : 0 ≤ a) (k : dsA m nx ls r u M Q) : dsA m pc ls (vR a :: r) u M Q := by
  obtain ⟨len, h1, h2, h3, h4⟩ := hd
  obtain rfl : len = 3 := h2.resolve_left (fun q => by cases q)
  obtain rfl : pc + 3 = nx := h3.resolve_left (fun q => by cases q)
  refine dsA_st h1 h2 ?_
  simp only [dsI, hk]
  rw [if_pos hr]
  exact ⟨ha, k⟩
theorem a_init {i t w : Nat} {a : Int} {as st' : List dsV} (hd : dcd m pc (.invokespecial i) nx tg) (hk : dsLk (dsKT (dsCl m)) i = some (2, t, w) ∨ dsLk (dsKT (dsCl m)) i = some (4, t, w)) (hp : dsPop (dsNa t + 1) st' [] = some (vR a :: as, r)) (ha : 0 ≤ a) (hr : dsRk t < dsRk m ∧ dsCs r ≤ 8 ∧ (dsFl (vR a :: as)).length ≤ dsMx t) (hu : u.1 + dsMc t ≤ dsMc m ∧ u.2 + dsMs t ≤ dsMs m)
    (k : dsA t 0 (dsIn t (vR a :: as)) [] (0, 0) M (fun v M' => dsA m nx ls (v ++ r) (u.1 + dsMc t, u.2 + dsMs t) M' Q)) : dsA m pc ls st' u M Q := by
  obtain ⟨len, h1, h2, h3, h4⟩ := hd
  obtain rfl : len = 3 := h2.resolve_left (fun q => by cases q)
  obtain rfl : pc + 3 = nx := h3.resolve_left (fun q => by cases q)
  refine dsA_st h1 h2 ?_
  rcases hk with hk | hk
  · simp only [dsI, hk, hp]
    refine ⟨ha, ?_⟩
    unfold dsCa
    rw [if_pos hr]
    exact ⟨hu, k⟩
  · simp only [dsI, hk, hp]
    refine ⟨ha, ?_⟩
    unfold dsCa
    rw [if_pos hr]
    exact ⟨hu, k⟩
theorem a_ifnonnull {off a : Int} (hd : dcd m pc (.ifnonnull off) nx tg) (kt : ¬ a < 0 → dsA m tg ls r u M Q) (kf : a < 0 → dsA m nx ls r u M Q) : dsA m pc ls (vR a :: r) u M Q := by
  obtain ⟨len, h1, h2, h3, h4⟩ := hd
  obtain rfl : len = 3 := h2.resolve_left (fun q => by cases q)
  obtain rfl : pc + 3 = nx := h3.resolve_left (fun q => by cases q)
  have ht := h4 _ rfl
  refine dsA_st h1 h2 ?_
  simp only [dsI, dsTg]
  rw [if_pos (by omega), show ((pc : Int) + off).toNat = tg by omega]
  refine ⟨fun q => kt (by omega), fun q => kf (by omega)⟩
end
