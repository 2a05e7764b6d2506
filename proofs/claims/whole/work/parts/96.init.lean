/-! the law's start: the cells of both sides, the first state -/
def ks0 : List Nat := [10, 6, 29, 4, 23, 23, 21, 21, 21, 1, 20, 20, 20, 20, 2, 21, 21, 21, 21, 3, 22, 22, 22, 22, 4, 23, 23, 21, 21, 21, 1, 20, 20, 20, 20, 2, 21, 21, 21, 21, 3, 22, 22, 22, 22, 35, 36, 5, 0, 24, 24, 25, 25, 26, 27, 28, 28, 21, 21, 21, 21, 21, 5, 0, 24, 24, 25, 25, 26, 27, 28, 28, 21, 21, 21, 21, 21, 7, 30, 31, 32, 8, 33, 37, 11, 38, 39, 40, 29, 41, 38, 21, 23, 42, 42, 21, 21, 23, 21, 43, 28, 28, 25, 25, 24, 24, 26, 27, 30, 31, 37, 44, 44, 45, 34]
def bt0 : zBt := [(8, 0, 0, [(true, 1), (true, 3), (true, 24), (true, 45), (true, 46), (true, 47), (true, 62), (true, 77), (true, 81), (true, 83), (false, 0), (false, 0)]), (6, 0, 0, [(false, 0), (false, 0), (false, -1), (true, 2), (false, 0), (false, 0)]), (101, 600, 0, []), (7, 0, 0, [(false, 0), (false, 0), (false, 0), (false, 0), (false, 0), (false, 0), (true, 4), (true, 5), (true, 6), (true, 7), (true, 8), (true, 9), (true, 14), (true, 19)]), (100, 3, 0, []), (100, 3, 0, []), (100, 6, 0, []), (100, 6, 0, []), (100, 6, 0, []), (1, 0, 0, [(false, 0), (true, 10), (true, 11), (true, 12), (true, 13)]), (100, 8, 0, []), (100, 8, 0, []), (100, 8, 0, []), (100, 8, 0, []), (1, 0, 0, [(false, 0), (true, 15), (true, 16), (true, 17), (true, 18)]), (100, 6, 0, []), (100, 6, 0, []), (100, 6, 0, []), (100, 6, 0, []), (1, 0, 0, [(false, 0), (true, 20), (true, 21), (true, 22), (true, 23)]), (100, 30, 0, []), (100, 30, 0, []), (100, 30, 0, []), (100, 30, 0, []), (7, 0, 0, [(false, 0), (false, 0), (false, 0), (false, 0), (false, 0), (false, 0), (true, 25), (true, 26), (true, 27), (true, 28), (true, 29), (true, 30), (true, 35), (true, 40)]), (100, 3, 0, []), (100, 3, 0, []), (100, 6, 0, []), (100, 6, 0, []), (100, 6, 0, []), (1, 0, 0, [(false, 0), (true, 31), (true, 32), (true, 33), (true, 34)]), (100, 8, 0, []), (100, 8, 0, []), (100, 8, 0, []), (100, 8, 0, []), (1, 0, 0, [(false, 0), (true, 36), (true, 37), (true, 38), (true, 39)]), (100, 6, 0, []), (100, 6, 0, []), (100, 6, 0, []), (100, 6, 0, []), (1, 0, 0, [(false, 0), (true, 41), (true, 42), (true, 43), (true, 44)]), (100, 30, 0, []), (100, 30, 0, []), (100, 30, 0, []), (100, 30, 0, []), (104, 3, -1, []), (105, 4, -1, []), (2, 0, 0, [(true, 48), (true, 49), (true, 50), (true, 51), (true, 52), (true, 53), (true, 54), (true, 55), (true, 56), (true, 57), (true, 58), (true, 59), (true, 60), (true, 61), (false, 0), (false, 24)]), (0, 0, 0, [(false, -1), (false, -1), (false, -1), (false, 0), (false, -1), (false, -1), (false, 0), (false, -1), (false, 0)]), (100, 4680, 0, []), (100, 4680, 0, []), (100, 78, 0, []), (100, 78, 0, []), (100, 39, 0, []), (100, 13, 0, []), (100, 12, 0, []), (100, 12, 0, []), (100, 6, 0, []), (100, 6, 0, []), (100, 6, 0, []), (100, 6, 0, []), (100, 6, 0, []), (2, 0, 0, [(true, 63), (true, 64), (true, 65), (true, 66), (true, 67), (true, 68), (true, 69), (true, 70), (true, 71), (true, 72), (true, 73), (true, 74), (true, 75), (true, 76), (false, 0), (false, 24)]), (0, 0, 0, [(false, -1), (false, -1), (false, -1), (false, 0), (false, -1), (false, -1), (false, 0), (false, -1), (false, 0)]), (100, 4680, 0, []), (100, 4680, 0, []), (100, 78, 0, []), (100, 78, 0, []), (100, 39, 0, []), (100, 13, 0, []), (100, 12, 0, []), (100, 12, 0, []), (100, 6, 0, []), (100, 6, 0, []), (100, 6, 0, []), (100, 6, 0, []), (100, 6, 0, []), (3, 0, 0, [(false, 0), (true, 78), (true, 79), (true, 80)]), (100, 60, 0, []), (100, 780, 0, []), (100, 61, 0, []), (4, 0, 0, [(false, 0), (false, 1), (false, 0), (true, 82)]), (103, 3, 0, []), (100, 64, 0, []), (9, 0, 0, [(false, 0), (true, 85), (true, 86), (true, 87), (true, 88), (false, 0), (true, 89), (false, 0), (false, 0), (false, 0), (false, 0), (false, 0), (false, 0), (false, -1), (true, 90), (true, 91), (true, 92), (false, 0), (false, 0), (false, 0), (false, 0), (false, 0), (false, 0), (false, 0), (true, 93), (true, 94), (true, 95), (true, 96), (true, 97), (true, 98), (true, 99), (true, 100), (true, 101), (false, 0), (false, 0), (true, 102), (true, 103), (true, 104), (true, 105), (true, 106), (true, 107), (true, 108), (true, 109), (false, 0), (false, 0), (true, 110), (false, 0), (false, 0), (false, 0), (true, 111), (true, 112), (true, 113), (true, 114)]), (100, 105, 0, []), (100, 315, 0, []), (102, 3, 0, []), (101, 600, 0, []), (100, 5, 0, []), (100, 105, 0, []), (100, 6, 0, []), (100, 3, 0, []), (100, 360, 0, []), (100, 360, 0, []), (100, 6, 0, []), (100, 6, 0, []), (100, 3, 0, []), (100, 6, 0, []), (100, 36, 0, []), (100, 12, 0, []), (100, 12, 0, []), (100, 78, 0, []), (100, 78, 0, []), (100, 4680, 0, []), (100, 4680, 0, []), (100, 39, 0, []), (100, 13, 0, []), (100, 60, 0, []), (100, 780, 0, []), (100, 64, 0, []), (100, 4, 0, [(false, -1), (false, -1), (false, -1), (false, -1)]), (100, 4, 0, []), (103, 240, 0, []), (103, 60, 0, [])]
def cs0 : List zCl := cs68 ++ cs176
set_option maxRecDepth 100000 in
theorem bt0_ok : zAbs 0 bt0 = cs0 := by decide +kernel
set_option maxRecDepth 100000 in
theorem bt0_chk : zChk true bt0 ks0 = true := by decide +kernel
abbrev z0 : Int → Int := fun _ => 0
abbrev E0 : wEv := (0, z0, z0, z0, z0)
abbrev W0 : dsW := ((0, 0, 0, 0, 0, 0), (z0, z0), (z0, z0, z0), E0, E0, E0)
abbrev S0 : slT := fun _ => (-1, 0, z0)
abbrev I0 : imT := fun _ => (0, W0)
abbrev s0 : gST := (W0, S0, I0, (0, z0), (0, -1))
theorem zvac {P : Prop} {j n : Int} (h0 : 0 ≤ j) (h1 : j < n) (hn : n = 0) : P := by omega
theorem W0_ok : WOK W0 := by
  refine ⟨?_, fun j a b => zvac a b rfl, fun j a b => zvac a b rfl, fun j a b => zvac a b rfl, fun j a b => zvac a b rfl, fun j a b => zvac a b rfl⟩
  show (0 : Int) ≤ 0 ∧ (0 : Int) ≤ 1000 ∧ (0 : Int) ≤ 0 ∧ (0 : Int) ≤ 12 ∧ (0 : Int) ≤ 0 ∧ (0 : Int) ≤ 3 ∧ (0 : Int) ≤ 0 ∧ (0 : Int) ≤ 10 ∧ (0 : Int) ≤ 0 ∧ (0 : Int) ≤ 3 ∧ (0 : Int) ≤ 0 ∧ (0 : Int) ≤ 6 ∧ (0 : Int) ≤ 0 ∧ (0 : Int) ≤ 8 ∧ (0 : Int) ≤ 0 ∧ (0 : Int) ≤ 6 ∧ (0 : Int) ≤ 0 ∧ (0 : Int) ≤ 30 ∧ ((0 : Int) = 0 → (0 : Int) = 0 ∧ (0 : Int) = 0 ∧ (0 : Int) = 0 ∧ (0 : Int) = 0 ∧ (0 : Int) = 0 ∧ (0 : Int) = 0) ∧ ((0 : Int) < 0 → (1 : Int) ≤ 0)
  decide
theorem zrow {kd n d : Int} {r : Int → Int} (h : zCd (kd, n, d, []) r) (hk : 100 ≤ kd) {i : Int} (hi : 0 ≤ i) : r i = d := (h.2.1 hk).2 i hi
set_option maxRecDepth 100000 in
theorem JN_s0 {M0 M : dsMem} {F : Int → Int} (hB : zB M0 0 cs0 M) (hF : ∀ j, M0 (-2) j = F j) : JN (zG (fun _ => 99) 0 ks0) M F s0 s0 := by
  have hn : M (-1) 0 = 115 := hB.1
  have c0 : zCd (8, 0, 0, [1, 3, 24, 45, 46, 47, 62, 77, 81, 83, 0, 0]) (M 0) := hB.2.1 0 _ rfl
  have c1 : zCd (6, 0, 0, [0, 0, -1, 2, 0, 0]) (M 1) := hB.2.1 1 _ rfl
  have c24 : zCd (7, 0, 0, [0, 0, 0, 0, 0, 0, 25, 26, 27, 28, 29, 30, 35, 40]) (M 24) := hB.2.1 24 _ rfl
  have c30 : zCd (1, 0, 0, [0, 31, 32, 33, 34]) (M 30) := hB.2.1 30 _ rfl
  have c35 : zCd (1, 0, 0, [0, 36, 37, 38, 39]) (M 35) := hB.2.1 35 _ rfl
  have c40 : zCd (1, 0, 0, [0, 41, 42, 43, 44]) (M 40) := hB.2.1 40 _ rfl
  have c45 : zCd (104, 3, -1, []) (M 45) := hB.2.1 45 _ rfl
  have c46 : zCd (105, 4, -1, []) (M 46) := hB.2.1 46 _ rfl
  have c48 : zCd (0, 0, 0, [-1, -1, -1, 0, -1, -1, 0, -1, 0]) (M 48) := hB.2.1 48 _ rfl
  have c81 : zCd (4, 0, 0, [0, 1, 0, 82]) (M 81) := hB.2.1 81 _ rfl
  have c84 : zCd (9, 0, 0, [0, 85, 86, 87, 88, 0, 89, 0, 0, 0, 0, 0, 0, -1, 90, 91, 92, 0, 0, 0, 0, 0, 0, 0, 93, 94, 95, 96, 97, 98, 99, 100, 101, 0, 0, 102, 103, 104, 105, 106, 107, 108, 109, 0, 0, 110, 0, 0, 0, 111, 112, 113, 114]) (M 84) := hB.2.1 84 _ rfl
  have c85 : zCd (100, 105, 0, []) (M 85) := hB.2.1 85 _ rfl
  have c87 : zCd (102, 3, 0, []) (M 87) := hB.2.1 87 _ rfl
  have c111 : zCd (100, 4, 0, [-1, -1, -1, -1]) (M 111) := hB.2.1 111 _ rfl
  refine ⟨Lay_ext (z := true) (bt := bt0) (M := M0) ⟨fun a ha => absurd ha (show ¬ (99 : Nat) < 90 by decide), fun a ha => absurd ha (show ¬ (99 : Nat) < 90 by decide)⟩ (fun _ _ => rfl) (by decide) (fun _ => rfl) bt0_ok hB (by decide +kernel) rfl bt0_chk, ⟨⟨by omega, fun a q => zG_up (by show 0 + ((115 : Nat) : Int) ≤ a; omega) (fun _ _ => rfl), by decide +kernel, by decide +kernel, fun t t0 t1 n0 => absurd n0 (show ¬ (0 : Int) ≤ -1 by decide), fun k k0 k1 i0 => absurd i0 (show ¬ (0 : Int) = 1 by decide)⟩, fun a q => by rw [zG_out (by omega)]⟩, ⟨?_, ?_, ?_, ?_⟩, ⟨?_, ?_, ?_, ?_⟩, fun j => ?_⟩
  · refine ⟨W0_ok, ⟨⟨c24.2.2 0 (by decide), c24.2.2 1 (by decide), c24.2.2 2 (by decide), c24.2.2 3 (by decide), c24.2.2 4 (by decide), c24.2.2 5 (by decide)⟩, fun j a b => zvac a b rfl, fun j a b => zvac a b rfl, ⟨c30.2.2 0 (by decide), fun j a b => zvac a b rfl⟩, ⟨c35.2.2 0 (by decide), fun j a b => zvac a b rfl⟩, ⟨c40.2.2 0 (by decide), fun j a b => zvac a b rfl⟩⟩, ⟨c48.2.2 0 (by decide), c48.2.2 1 (by decide), c48.2.2 2 (by decide), c48.2.2 3 (by decide), c48.2.2 4 (by decide), c48.2.2 5 (by decide), c48.2.2 6 (by decide), c48.2.2 7 (by decide), c48.2.2 8 (by decide)⟩, Or.inl (c0.2.2 10 (by decide)), Or.inl (c0.2.2 11 (by decide)), Or.inl (c81.2.2 0 (by decide))⟩
  · exact ⟨fun t t0 t1 => Or.inl ⟨rfl, zrow c46 (by decide) t0⟩, fun t u t0 t1 u0 u1 q n1 n2 => absurd n1 (show ¬ (0 : Int) ≤ -1 by decide)⟩
  · exact ⟨fun k k0 k1 => Or.inl ⟨rfl, zrow c45 (by decide) k0⟩, fun k l k0 k1 l0 l1 q i1 i2 => absurd i1 (show ¬ (0 : Int) = 1 by decide), fun k t k0 k1 t0 t1 i1 i2 => absurd i1 (show ¬ (0 : Int) = 1 by decide)⟩
  · exact ⟨⟨c1.2.2 0 (by decide), by decide, fun j a b => zvac a b rfl⟩, c1.2.2 1 (by decide), c1.2.2 2 (by decide)⟩
  · exact ⟨W0_ok, ⟨zrow c85 (by decide) (by decide), zrow c85 (by decide) (by decide), zrow c85 (by decide) (by decide), zrow c85 (by decide) (by decide), zrow c85 (by decide) (by decide), zrow c85 (by decide) (by decide), zrow c85 (by decide) (by decide), zrow c85 (by decide) (by decide), zrow c85 (by decide) (by decide)⟩, fun j a b => zvac a b rfl, fun j a b => zvac a b rfl, fun j a b => zvac a b rfl, fun j a b => zvac a b rfl, fun j a b => zvac a b rfl⟩
  · intro t t0 t1
    refine Or.inl ⟨rfl, ?_⟩
    rcases (show t = 0 ∨ t = 1 ∨ t = 2 ∨ t = 3 by omega) with rfl | rfl | rfl | rfl
    · exact c111.2.2 0 (by decide)
    · exact c111.2.2 1 (by decide)
    · exact c111.2.2 2 (by decide)
    · exact c111.2.2 3 (by decide)
  · exact fun k k0 k1 => Or.inl ⟨rfl, zrow c87 (by decide) k0⟩
  · exact ⟨c84.2.2 5 (by decide), by decide, fun j a b => zvac a b rfl, c84.2.2 12 (by decide), c84.2.2 13 (by decide)⟩
  · rw [hB.2.2 (-2) j (by omega) (by omega)]
    exact hF j
set_option maxHeartbeats 2000000 in
theorem law_all {M0 : dsMem} {F : Int → Int} {L : Int} {Q : dsQT} (h0 : M0 (-1) 0 = 0) (hF : ∀ j, M0 (-2) j = F j) (hL : F (-2) = L) (hLL : 0 ≤ L ∧ L ≤ 3072) (hr : ∀ j, 0 ≤ j → j < L → -2147483648 ≤ F j ∧ F j < 2147483648) (hQ : ∀ M, Q [vI 1] M) : dsA 334 0 (dsIn 334 [vX 1]) [] (0, 0) M0 Q := by
  show dsA 334 0 [vX 1, vX 0, vX 0, vX 0] [] (0, 0) M0 Q
  refine a_new (c := 8) (d334_0 (j := 0) rfl) rfl ⟨by decide +kernel, by decide +kernel⟩ ?_
  rw [h0]
  refine a_dupR (d334_0 (j := 1) rfl) ?_
  refine a_init (t := 68) (a := 0) (as := []) (r := [vR 0]) (d334_0 (j := 2) rfl) (Or.inl rfl) rfl (by decide) ⟨by decide +kernel, Nat.le_of_ble_eq_true rfl, (show 1 ≤ dsMx 68 by decide +kernel)⟩ ⟨by decide +kernel, by decide +kernel⟩ ?_
  have b0 : zB M0 0 [(8, 0, 0, [-1, -1, -1, -1, -1, -1, -1, -1, -1, -1, 0, 0])] (dsNewO M0 8) := zB_obj (cs := []) (c := 8) (fs := [-1, -1, -1, -1, -1, -1, -1, -1, -1, -1, 0, 0]) (by have := zB_nil (M := M0); rw [h0] at this; exact this) (by decide) (by decide) (by decide +kernel)
  refine ct68 (by decide) b0 (fun M1 hB1 => ?_)
  have hB1 : zB M0 0 cs68 M1 := hB1
  have e1 : M1 (-1) 0 = 84 := hB1.1
  show dsA 334 7 [vX 1, vX 0, vX 0, vX 0] [vR 0] _ M1 Q
  refine a_astore_n [vX 1, vR 0, vX 0, vX 0] (d334_0 (j := 3) rfl) (by decide +kernel) rfl ?_
  refine a_new (c := 9) (d334_0 (j := 4) rfl) rfl ⟨by decide +kernel, by decide +kernel⟩ ?_
  rw [e1]
  refine a_dupR (d334_0 (j := 5) rfl) ?_
  refine a_init (t := 176) (a := 84) (as := []) (r := [vR 84]) (d334_0 (j := 6) rfl) (Or.inl rfl) rfl (by decide) ⟨by decide +kernel, Nat.le_of_ble_eq_true rfl, (show 1 ≤ dsMx 176 by decide +kernel)⟩ ⟨by decide +kernel, by decide +kernel⟩ ?_
  have b1 : zB M1 84 [(9, 0, 0, [0, -1, -1, -1, -1, 0, -1, 0, 0, 0, 0, 0, 0, 0, -1, -1, -1, 0, 0, 0, 0, 0, 0, 0, -1, -1, -1, -1, -1, -1, -1, -1, -1, 0, 0, -1, -1, -1, -1, -1, -1, -1, -1, 0, 0, -1, 0, 0, 0, -1, -1, -1, -1])] (dsNewO M1 9) := zB_obj (cs := []) (c := 9) (fs := [0, -1, -1, -1, -1, 0, -1, 0, 0, 0, 0, 0, 0, 0, -1, -1, -1, 0, 0, 0, 0, 0, 0, 0, -1, -1, -1, -1, -1, -1, -1, -1, -1, 0, 0, -1, -1, -1, -1, -1, -1, -1, -1, 0, 0, -1, 0, 0, 0, -1, -1, -1, -1]) (by have := zB_nil (M := M1); rw [e1] at this; exact this) (by decide) (by decide) (by decide +kernel)
  refine ct176 (by decide) b1 (fun M2 hB2 => ?_)
  have hB2 : zB M1 84 cs176 M2 := hB2
  have hB : zB M0 0 cs0 M2 := zB_app hB1 (by decide) (by decide +kernel) hB2
  show dsA 334 15 [vX 1, vR 0, vX 0, vX 0] [vR 84] _ M2 Q
  refine a_astore_n [vX 1, vR 0, vR 84, vX 0] (d334_0 (j := 7) rfl) (by decide +kernel) rfl ?_
  refine a_iconst (d334_0 (j := 8) rfl) (by decide) ?_
  refine a_istore_n (lsL 0) (d334_0 (j := 9) rfl) (by decide +kernel) rfl ?_
  exact law_loop hL hLL hr hQ L.toNat 0 _ M2 s0 _ (by omega) (JN_s0 hB hF) (by decide) (by decide +kernel)
