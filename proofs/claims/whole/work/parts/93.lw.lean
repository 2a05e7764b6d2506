/-! steps of the law -/
section
variable {m pc nx tg : Nat} {ls st r : List dsV} {u : Nat × Nat} {M : dsMem} {Q : dsQT}
theorem a_lshl {x y : Int} (hd : dcd m pc (.lshl) nx tg) (k : dsA m nx ls (vJ (dsLsl x y) :: r) u M Q) : dsA m pc ls (vI y :: vJ x :: r) u M Q := by
  obtain ⟨len, h1, h2, h3, h4⟩ := hd
  obtain rfl : len = 1 := h2.resolve_left (fun q => by cases q)
  obtain rfl : pc + 1 = nx := h3.resolve_left (fun q => by cases q)
  exact dsA_st h1 h2 (k)
theorem a_land {x y : Int} (hd : dcd m pc (.land) nx tg) (k : dsA m nx ls (vJ (dsLand x y) :: r) u M Q) : dsA m pc ls (vJ y :: vJ x :: r) u M Q := by
  obtain ⟨len, h1, h2, h3, h4⟩ := hd
  obtain rfl : len = 1 := h2.resolve_left (fun q => by cases q)
  obtain rfl : pc + 1 = nx := h3.resolve_left (fun q => by cases q)
  exact dsA_st h1 h2 (k)
theorem a_lor {x y : Int} (hd : dcd m pc (.lor) nx tg) (k : dsA m nx ls (vJ (dsLor x y) :: r) u M Q) : dsA m pc ls (vJ y :: vJ x :: r) u M Q := by
  obtain ⟨len, h1, h2, h3, h4⟩ := hd
  obtain rfl : len = 1 := h2.resolve_left (fun q => by cases q)
  obtain rfl : pc + 1 = nx := h3.resolve_left (fun q => by cases q)
  exact dsA_st h1 h2 (k)
theorem a_ldc2 {i w : Nat} {v : Int} (hd : dcd m pc (.ldc2_w i) nx tg) (hk : dsLk (dsKL (dsCl m)) i = some (v, w)) (k : dsA m nx ls (vJ v :: r) u M Q) : dsA m pc ls r u M Q := by
  obtain ⟨len, h1, h2, h3, h4⟩ := hd
  obtain rfl : len = 3 := h2.resolve_left (fun q => by cases q)
  obtain rfl : pc + 3 = nx := h3.resolve_left (fun q => by cases q)
  refine dsA_st h1 h2 ?_
  simp only [dsI, hk]
  exact k
/-- a number of the script -/
theorem st_arg {p1 p2 p3 p4 p5 t1 t2 t3 t4 t5 : Nat} {F : Int → Int} {i n L : Int} (h0 : dsg ls 0 = vX 1) (h3 : dsg ls 3 = vI i) (d1 : dcd m pc (.aload_n 0) p1 t1) (d2 : dcd m p1 (.iload_n 3) p2 t2) (d3 : dcd m p2 (.iconst n) p3 t3) (d4 : dcd m p3 .iadd p4 t4) (d5 : dcd m p4 .iaload p5 t5) (hn : 0 ≤ n ∧ n ≤ 5) (hi : 0 ≤ i ∧ i + 6 ≤ L ∧ L ≤ 3072) (hL : F (-2) = L) (hF : ∀ j, M (-2) j = F j)
    (k : dsA m p5 ls (vI (F (i + n)) :: r) u M Q) : dsA m pc ls r u M Q := by
  refine a_aload_nX (t := 0) d1 h0 (a_iload_n d2 h3 (a_iconst d3 (by omega) (a_iadd d4 (by omega) (a_ialoadS d5 ⟨by omega, by rw [hF, hL]; omega⟩ ?_))))
  rw [hF]
  exact k
end
theorem lw_room2 : dsMc 334 = 600000 ∧ dsMs 334 = 7302250 := ⟨by decide +kernel, by decide +kernel⟩
theorem lw_call {pc nx tg i t w n1 n2 : Nat} {ls r as st' : List dsV} {u : Nat × Nat} {M : dsMem} {Q : dsQT} {a : Int} (hd : dcd 334 pc (.invokevirtual i) nx tg) (hk : dsLk (dsKT (dsCl 334)) i = some (0, t, w)) (hp : dsPop (dsNa t + 1) st' [] = some (vR a :: as, r)) (hc : M a (-1) = (dsCl t : Int)) (hr : dsRk t < dsRk 334 ∧ dsCs r ≤ 8 ∧ (dsFl (vR a :: as)).length ≤ dsMx t) (hm : dsMc t = n1 ∧ dsMs t = n2) (hu : u.1 + n1 ≤ 600000 ∧ u.2 + n2 ≤ 7302250)
    (k : dsA t 0 (dsIn t (vR a :: as)) [] (0, 0) M (fun v M' => dsA 334 nx ls (v ++ r) (u.1 + n1, u.2 + n2) M' Q)) : dsA 334 pc ls st' u M Q := by
  refine a_call hd hk hp hc hr ?_ ?_
  · rw [hm.1, hm.2, lw_room2.1, lw_room2.2]; exact hu
  · rw [hm.1, hm.2]; exact k
theorem JN_0 {G : Int → Nat} {M : dsMem} {F : Int → Int} {s r : gST} (h : JN G M F s r) : M 0 (-1) = 8 ∧ M 84 (-1) = 9 ∧ Vd G (uR 10 0) ∧ Vd G (uR 11 84) :=
  ⟨(Lay_o h.1 h.2.1.1.2.2.1 (by decide)).trans (by decide), (Lay_o h.1 h.2.1.1.2.2.2.1 (by decide)).trans (by decide), Vd_k h.2.1.1.2.2.1 (by decide) rfl, Vd_k h.2.1.1.2.2.2.1 (by decide) rfl⟩
theorem dsLc_self {x : Int} : dsLc x x = 0 := by
  unfold dsLc
  rw [if_neg (by omega), if_pos rfl]
theorem nWr_n {S : slT} {t i v u : Int} : slN (nWr S t i v) u = slN S u := by
  unfold nWr
  split
  · by_cases e : u = t
    · subst e; show (dsUpd S u _ u).1 = _; rw [upd_e]
    · show (dsUpd S t _ u).1 = _; rw [upd_n _ _ e]
  · rfl
theorem nPa_n {S : slT} {t i w k n u : Int} : slN (nPa S t i w k n) u = slN S u := by
  unfold nPa
  split
  · by_cases e : u = w
    · subst e; show (dsUpd S u _ u).1 = _; rw [upd_e]
    · show (dsUpd S w _ u).1 = _; rw [upd_n _ _ e]
  · rfl
abbrev lsL (i : Int) : List dsV := [vX 1, vR 0, vR 84, vI i]
/-- a case of the law: from its first instruction to the next turn -/
def lwC (pc : Nat) : Prop := ∀ (G : Int → Nat) (M : dsMem) (F : Int → Int) (s : gST) (i L : Int) (u : Nat × Nat) (Q : dsQT), JN G M F s s → (0 ≤ i ∧ i + 6 ≤ L ∧ L ≤ 3072) → F (-2) = L → (∀ j, 0 ≤ j → j < L → -2147483648 ≤ F j ∧ F j < 2147483648) → (u.1 + 21 ≤ 600000 ∧ u.2 + 413 ≤ 7302250) →
  (∀ (G' : Int → Nat) (M' : dsMem) (s' : gST) (u' : Nat × Nat), JN G' M' F s' s' → (u'.1 ≤ u.1 + 21 ∧ u'.2 ≤ u.2 + 413) → dsA 334 2485 (lsL i) [] u' M' Q) → dsA 334 pc (lsL i) [] u M Q
