/-! the law's loop -/
def swO : Array Int := #[315, 378, 401, 414, 437, 470, 503, 536, 559, 592, 625, 678, 721, 754, 787, 820, 853, 866, 879, 902, 935, 948, 971, 994, 1017, 1040, 1063, 1086, 1109, 1142, 1175, 1198, 1221, 1234, 1257, 1280, 1303, 1326, 1349, 1382, 1405, 1438, 1461, 1484, 1497, 1510, 1523, 1546, 1559, 1592, 1625, 1658, 1691, 1724, 1747, 1770, 1783, 1806, 1839, 1872, 1925, 1959, 1983, 2026, 2069, 2082, 2095, 2128, 2171, 2204, 2227, 2250, 2273, 2316, 2389]
def swT : List Nat := [348, 411, 434, 447, 470, 503, 536, 569, 592, 625, 658, 711, 754, 787, 820, 853, 886, 899, 912, 935, 968, 981, 1004, 1027, 1050, 1073, 1096, 1119, 1142, 1175, 1208, 1231, 1254, 1267, 1290, 1313, 1336, 1359, 1382, 1415, 1438, 1471, 1494, 1517, 1530, 1543, 1556, 1579, 1592, 1625, 1658, 1691, 1724, 1757, 1780, 1803, 1816, 1839, 1872, 1905, 1958, 1992, 2016, 2059, 2102, 2115, 2128, 2161, 2204, 2237, 2260, 2283, 2306, 2349, 2422]
theorem sw_ok : ∀ n, n < 75 → swO[n]? = some ((swT.getD n 0 : Int) - 33) := by decide +kernel
theorem a_switch {ls r : List dsV} {u : Nat × Nat} {M : dsMem} {Q : dsQT} {x : Int} {nx tg : Nat} (hd : dcd 334 33 (.tableswitch 2452 0 74 swO) nx tg) (kd : dsA 334 2485 ls r u M Q) (kk : ∀ n : Nat, n < 75 → dsA 334 (swT.getD n 0) ls r u M Q) : dsA 334 33 ls (vI x :: r) u M Q := by
  obtain ⟨len, h1, h2, h3, h4⟩ := hd
  refine dsA_st h1 h2 ?_
  simp only [dsI]
  refine ⟨fun q => kd, fun q => ?_⟩
  have hn : (x - 0).toNat < 75 := by omega
  rw [sw_ok _ hn]
  show dsTg 33 _ _
  unfold dsTg
  rw [if_pos (by omega), show (((33 : Nat) : Int) + ((swT.getD (x - 0).toNat 0 : Int) - 33)).toNat = swT.getD (x - 0).toNat 0 by omega]
  exact kk _ hn
theorem lw_cases : ∀ n : Nat, n < 75 → lwC (swT.getD n 0)
  | 0, _ => case0
  | 1, _ => case1
  | 2, _ => case2
  | 3, _ => case3
  | 4, _ => case4
  | 5, _ => case5
  | 6, _ => case6
  | 7, _ => case7
  | 8, _ => case8
  | 9, _ => case9
  | 10, _ => case10
  | 11, _ => case11
  | 12, _ => case12
  | 13, _ => case13
  | 14, _ => case14
  | 15, _ => case15
  | 16, _ => case16
  | 17, _ => case17
  | 18, _ => case18
  | 19, _ => case19
  | 20, _ => case20
  | 21, _ => case21
  | 22, _ => case22
  | 23, _ => case23
  | 24, _ => case24
  | 25, _ => case25
  | 26, _ => case26
  | 27, _ => case27
  | 28, _ => case28
  | 29, _ => case29
  | 30, _ => case30
  | 31, _ => case31
  | 32, _ => case32
  | 33, _ => case33
  | 34, _ => case34
  | 35, _ => case35
  | 36, _ => case36
  | 37, _ => case37
  | 38, _ => case38
  | 39, _ => case39
  | 40, _ => case40
  | 41, _ => case41
  | 42, _ => case42
  | 43, _ => case43
  | 44, _ => case44
  | 45, _ => case45
  | 46, _ => case46
  | 47, _ => case47
  | 48, _ => case48
  | 49, _ => case49
  | 50, _ => case50
  | 51, _ => case51
  | 52, _ => case52
  | 53, _ => case53
  | 54, _ => case54
  | 55, _ => case55
  | 56, _ => case56
  | 57, _ => case57
  | 58, _ => case58
  | 59, _ => case59
  | 60, _ => case60
  | 61, _ => case61
  | 62, _ => case62
  | 63, _ => case63
  | 64, _ => case64
  | 65, _ => case65
  | 66, _ => case66
  | 67, _ => case67
  | 68, _ => case68
  | 69, _ => case69
  | 70, _ => case70
  | 71, _ => case71
  | 72, _ => case72
  | 73, _ => case73
  | 74, _ => case74
  | n + 75, h => absurd h (by omega)
set_option maxHeartbeats 2000000 in
theorem law_loop {F : Int → Int} {L : Int} {Q : dsQT} (hL : F (-2) = L) (hLL : 0 ≤ L ∧ L ≤ 3072) (hr : ∀ j, 0 ≤ j → j < L → -2147483648 ≤ F j ∧ F j < 2147483648) (hQ : ∀ M, Q [vI 1] M) :
    ∀ (n : Nat) (i : Int) (G : Int → Nat) (M : dsMem) (s : gST) (u : Nat × Nat), (L - i).toNat ≤ n → JN G M F s s → (0 ≤ i ∧ i ≤ 4000) → ((u.1 : Int) ≤ 1000 + 4 * i ∧ (u.2 : Int) ≤ 1000000 + 70 * i) → dsA 334 18 (lsL i) [] u M Q := by
  intro n
  induction n with
  | zero =>
    intro i G M s u hn h hi hu
    refine a_iload_n (d334_0 (j := 10) rfl) rfl (a_aload_nX (t := 0) (d334_0 (j := 11) rfl) rfl (a_lenS (d334_0 (j := 12) rfl) (a_bipush (d334_0 (j := 13) rfl) (by decide) (a_isub (d334_0 (j := 14) rfl) (by rw [h.2.2.2.2, hL]; omega) ?_))))
    rw [h.2.2.2.2, hL]
    exact a_icmp_gt (d334_0 (j := 15) rfl) (fun _ => a_iconst (d334_34 (j := 5) rfl) (by decide) (a_ret1 (d334_34 (j := 6) rfl) (by decide +kernel) (hQ _))) (fun q => by omega)
  | succ n ih =>
    intro i G M s u hn h hi hu
    refine a_iload_n (d334_0 (j := 10) rfl) rfl (a_aload_nX (t := 0) (d334_0 (j := 11) rfl) rfl (a_lenS (d334_0 (j := 12) rfl) (a_bipush (d334_0 (j := 13) rfl) (by decide) (a_isub (d334_0 (j := 14) rfl) (by rw [h.2.2.2.2, hL]; omega) ?_))))
    rw [h.2.2.2.2, hL]
    refine a_icmp_gt (d334_0 (j := 15) rfl) (fun _ => a_iconst (d334_34 (j := 5) rfl) (by decide) (a_ret1 (d334_34 (j := 6) rfl) (by decide +kernel) (hQ _))) (fun q => ?_)
    have nx : ∀ (G' : Int → Nat) (M' : dsMem) (s' : gST) (u' : Nat × Nat), JN G' M' F s' s' → (u'.1 ≤ u.1 + 21 ∧ u'.2 ≤ u.2 + 413) → dsA 334 2485 (lsL i) [] u' M' Q := by
      intro G' M' s' u' h' hu'
      refine a_iinc (lsL (i + 6)) (d334_34 (j := 3) rfl) rfl (by decide +kernel) (by omega) rfl (a_goto (d334_34 (j := 4) rfl) ?_)
      exact ih (i + 6) G' M' s' u' (by omega) h' (by omega) (by omega)
    refine a_aload_nX (t := 0) (d334_0 (j := 16) rfl) rfl (a_iload_n (d334_0 (j := 17) rfl) rfl (a_ialoadS (d334_0 (j := 18) rfl) ⟨by omega, by rw [h.2.2.2.2, hL]; omega⟩ (a_bipush (d334_0 (j := 19) rfl) (by decide) (a_iand (d334_0 (j := 20) rfl) ?_))))
    exact a_switch (d334_0 (j := 21) rfl) (nx G M s u h (by omega)) (fun k hk => lw_cases k hk G M F s i L u Q h (by omega) hL hr (by omega) nx)
