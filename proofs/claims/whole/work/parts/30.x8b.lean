def L109 : List (Nat × Instr × Nat × Nat) := [(0, .aload_n 0, 1, 0), (1, .iload_n 1, 2, 0), (2, .iload_n 2, 3, 0), (3, .invokevirtual 145, 6, 0), (6, .ifCond .ne 6, 9, 12), (9, .bipush (-2), 11, 0), (11, .ireturn, 12, 0), (12, .aload_n 0, 13, 0), (13, .invokevirtual 149, 16, 0), (16, .astore_n 3, 17, 0), (17, .iconst 0, 18, 0), (18, .istore 4, 20, 0), (20, .iconst 0, 21, 0), (21, .istore 5, 23, 0), (23, .iload 5, 25, 0), (25, .aload_n 0, 26, 0), (26, .getfield 23, 29, 0), (29, .getfield 142, 32, 0), (32, .if_icmp .ge 30, 35, 62), (35, .aload_n 3, 36, 0), (36, .iload_n 1, 37, 0), (37, .iload_n 2, 38, 0), (38, .invokestatic 156, 41, 0), (41, .iload 5, 43, 0), (43, .iload_n 2, 44, 0), (44, .invokestatic 156, 47, 0), (47, .invokevirtual 240, 50, 0), (50, .ifCond .eq 6, 53, 56), (53, .iinc 4 1, 56, 0), (56, .iinc 5 1, 59, 0), (59, .goto (-36), 62, 23), (62, .iload 4, 64, 0), (64, .ireturn, 65, 0)]
set_option maxRecDepth 100000 in
theorem L109_ok : L109.all (dck 109) = true := by decide +kernel
theorem d109 {j pc nx tg : Nat} {ins : Instr} (hj : L109[j]? = some (pc, ins, nx, tg)) : dcd 109 pc ins nx tg := dcl_ok L109_ok hj
set_option maxRecDepth 100000 in
set_option maxHeartbeats 4000000 in
theorem r109_0 {x1 x2 : Int} {R1 : dsMem → Prop} {M : dsMem} {Q : bQT} (s1 : -2147483648 ≤ ((M 24 5) - 1) ∧ ((M 24 5) - 1) < 2147483648 := by intros; omega) (hA1 : (((0 ≤ x1 ∧ x1 ≤ (M 24 5) - 1) ∧ 0 < (M 24 0) ∧ 0 ≤ x2 ∧ x2 ≤ (M 24 1))) → bCt 157 [uR 10 0] M (fun _ => [uR 5 47]) R1) (k1 : (((0 ≤ x1 ∧ x1 ≤ (M 24 5) - 1) ∧ 0 < (M 24 0) ∧ 0 ≤ x2 ∧ x2 ≤ (M 24 1))) → ∀ M1 : dsMem, R1 M1 → bB 109 23 [uR 10 0, uI x1, uI x2, uR 5 47, uI 0, uI 0] [] M1 Q) (k2 : (¬ ((0 ≤ x1 ∧ x1 ≤ (M 24 5) - 1) ∧ 0 < (M 24 0) ∧ 0 ≤ x2 ∧ x2 ≤ (M 24 1))) → Q [uI (-2)] M) :
    bB 109 0 [uR 10 0, uI x1, uI x2, uX 0, uX 0, uX 0] [] M Q := by
  refine b_aload_n (d109 (j := 0) rfl) rfl ?_
  refine b_iload_n (d109 (j := 1) rfl) rfl ?_
  refine b_iload_n (d109 (j := 2) rfl) rfl ?_
  refine b_callV (d109 (j := 3) rfl) rfl rfl (Or.inl rfl) rfl (bCk_mk (n := 0) (k := 3) (by decide +kernel) rfl rfl) (pu154 s1 ?_)
  refine b_stk [uI (if ((0 ≤ x1 ∧ x1 ≤ (M 24 5) - 1) ∧ 0 < (M 24 0) ∧ 0 ≤ x2 ∧ x2 ≤ (M 24 1)) then 1 else 0)] rfl ?_
  refine b_ifneP (d109 (j := 4) rfl) (fun c1 => ?_) (fun c1 => ?_)
  ·
    refine b_aload_n (d109 (j := 7) rfl) rfl ?_
    refine b_callV (d109 (j := 8) rfl) rfl rfl (Or.inl rfl) rfl (bCk_mk (n := 0) (k := 1) (by decide +kernel) rfl rfl) ((hA1 c1) _ (fun M1 hR1 => ?_))
    refine b_stk [uR 5 47] rfl ?_
    refine b_astore_n [uR 10 0, uI x1, uI x2, uR 5 47, uX 0, uX 0] (d109 (j := 9) rfl) (by decide) rfl ?_
    refine b_iconst (d109 (j := 10) rfl) (by decide) ?_
    refine b_istore [uR 10 0, uI x1, uI x2, uR 5 47, uI 0, uX 0] (d109 (j := 11) rfl) (by decide) rfl ?_
    refine b_iconst (d109 (j := 12) rfl) (by decide) ?_
    refine b_istore [uR 10 0, uI x1, uI x2, uR 5 47, uI 0, uI 0] (d109 (j := 13) rfl) (by decide) rfl ?_
    exact (k1 c1 M1 hR1)
  ·
    refine b_bipush (d109 (j := 5) rfl) (by decide) ?_
    exact b_iret (d109 (j := 6) rfl) rfl (k2 c1)
set_option maxRecDepth 100000 in
set_option maxHeartbeats 4000000 in
theorem r109_23 {x1 x2 x4 x5 : Int} {R1 : dsMem → Prop} {g1 : dsMem → Int} {M : dsMem} {Q : bQT} (k1 : ((M 24 5) ≤ x5) → Q [uI x4] M) (s1 : (¬ (M 24 5) ≤ x5) → -2147483648 ≤ ((x2 * 6) + x1) ∧ ((x2 * 6) + x1) < 2147483648 := by intros; omega) (s2 : (¬ (M 24 5) ≤ x5) → -2147483648 ≤ ((x2 * 6) + x5) ∧ ((x2 * 6) + x5) < 2147483648 := by intros; omega) (hA1 : (¬ (M 24 5) ≤ x5) → bCt 28 [uR 5 47, uI ((x2 * 6) + x1), uI ((x2 * 6) + x5), uX 0, uX 0] M (fun M1 => [uI (g1 M1)]) R1) (s3 : (¬ (M 24 5) ≤ x5) → ∀ M1 : dsMem, R1 M1 → ((g1 M1) = 0) → -2147483648 ≤ x5 + 1 ∧ x5 + 1 < 2147483648 := by intros; omega) (k2 : (¬ (M 24 5) ≤ x5) → ∀ M1 : dsMem, R1 M1 → ((g1 M1) = 0) → bB 109 23 [uR 10 0, uI x1, uI x2, uR 5 47, uI x4, uI (x5 + 1)] [] M1 Q) (s4 : (¬ (M 24 5) ≤ x5) → ∀ M1 : dsMem, R1 M1 → (¬ (g1 M1) = 0) → -2147483648 ≤ x4 + 1 ∧ x4 + 1 < 2147483648 := by intros; omega) (s5 : (¬ (M 24 5) ≤ x5) → ∀ M1 : dsMem, R1 M1 → (¬ (g1 M1) = 0) → -2147483648 ≤ x5 + 1 ∧ x5 + 1 < 2147483648 := by intros; omega) (k3 : (¬ (M 24 5) ≤ x5) → ∀ M1 : dsMem, R1 M1 → (¬ (g1 M1) = 0) → bB 109 23 [uR 10 0, uI x1, uI x2, uR 5 47, uI (x4 + 1), uI (x5 + 1)] [] M1 Q) :
    bB 109 23 [uR 10 0, uI x1, uI x2, uR 5 47, uI x4, uI x5] [] M Q := by
  refine b_iload (d109 (j := 14) rfl) rfl ?_
  refine b_aload_n (d109 (j := 15) rfl) rfl ?_
  refine b_getR (d109 (j := 16) rfl) rfl rfl rfl rfl ?_
  refine b_stk [uR 4 24, uI x5] rfl ?_
  refine b_getI (d109 (j := 17) rfl) rfl rfl rfl rfl (Or.inl rfl) ?_
  refine b_stk [uI (M 24 5), uI x5] rfl ?_
  refine b_icmp_ge (d109 (j := 18) rfl) (fun c1 => ?_) (fun c1 => ?_)
  ·
    refine b_iload (d109 (j := 31) rfl) rfl ?_
    exact b_iret (d109 (j := 32) rfl) rfl (k1 c1)
  ·
    refine b_aload_n (d109 (j := 19) rfl) rfl ?_
    refine b_iload_n (d109 (j := 20) rfl) rfl ?_
    refine b_iload_n (d109 (j := 21) rfl) rfl ?_
    refine b_callS (d109 (j := 22) rfl) (Or.inl rfl) rfl (bCk_mk (n := 1) (k := 2) (by decide +kernel) rfl rfl) (pu146 (s1 c1) ?_)
    refine b_stk [uI ((x2 * 6) + x1), uR 5 47] rfl ?_
    refine b_iload (d109 (j := 23) rfl) rfl ?_
    refine b_iload_n (d109 (j := 24) rfl) rfl ?_
    refine b_callS (d109 (j := 25) rfl) (Or.inl rfl) rfl (bCk_mk (n := 2) (k := 2) (by decide +kernel) rfl rfl) (pu146 (s2 c1) ?_)
    refine b_stk [uI ((x2 * 6) + x5), uI ((x2 * 6) + x1), uR 5 47] rfl ?_
    refine b_callV (d109 (j := 26) rfl) rfl rfl (Or.inl rfl) rfl (bCk_mk (n := 0) (k := 3) (by decide +kernel) rfl rfl) ((hA1 c1) _ (fun M1 hR1 => ?_))
    refine b_stk [uI (g1 M1)] rfl ?_
    refine b_if_eq (d109 (j := 27) rfl) (fun c2 => ?_) (fun c2 => ?_)
    ·
      refine b_iinc [uR 10 0, uI x1, uI x2, uR 5 47, uI x4, uI (x5 + 1)] (d109 (j := 29) rfl) rfl (by decide) (s3 c1 M1 hR1 c2) rfl ?_
      refine b_goto (d109 (j := 30) rfl) ?_
      exact (k2 c1 M1 hR1 c2)
    ·
      refine b_iinc [uR 10 0, uI x1, uI x2, uR 5 47, uI (x4 + 1), uI x5] (d109 (j := 28) rfl) rfl (by decide) (s4 c1 M1 hR1 c2) rfl ?_
      refine b_iinc [uR 10 0, uI x1, uI x2, uR 5 47, uI (x4 + 1), uI (x5 + 1)] (d109 (j := 29) rfl) rfl (by decide) (s5 c1 M1 hR1 c2) rfl ?_
      refine b_goto (d109 (j := 30) rfl) ?_
      exact (k3 c1 M1 hR1 c2)
def L110 : List (Nat × Instr × Nat × Nat) := [(0, .aload_n 0, 1, 0), (1, .iload_n 1, 2, 0), (2, .invokevirtual 228, 5, 0), (5, .ifCond .ne 6, 8, 11), (8, .bipush (-2), 10, 0), (10, .ireturn, 11, 0), (11, .aload_n 0, 12, 0), (12, .aload_n 0, 13, 0), (13, .invokevirtual 149, 16, 0), (16, .iload_n 1, 17, 0), (17, .invokevirtual 243, 20, 0), (20, .istore_n 2, 21, 0), (21, .iload_n 2, 22, 0), (22, .iconst (-1), 23, 0), (23, .if_icmp .ne 7, 26, 30), (26, .iconst (-1), 27, 0), (27, .goto 7, 30, 34), (30, .iload_n 2, 31, 0), (31, .invokestatic 247, 34, 0), (34, .ireturn, 35, 0)]
set_option maxRecDepth 100000 in
theorem L110_ok : L110.all (dck 110) = true := by decide +kernel
theorem d110 {j pc nx tg : Nat} {ins : Instr} (hj : L110[j]? = some (pc, ins, nx, tg)) : dcd 110 pc ins nx tg := dcl_ok L110_ok hj
set_option maxRecDepth 100000 in
set_option maxHeartbeats 4000000 in
theorem r110_0 {x1 : Int} {R1 : dsMem → Prop} {R2 : dsMem → dsMem → Prop} {g2 : dsMem → dsMem → Int} {M : dsMem} {Q : bQT} (s1 : -2147483648 ≤ ((M 24 1) - 1) ∧ ((M 24 1) - 1) < 2147483648 := by intros; omega) (hA1 : ((0 < (M 24 0) ∧ 0 ≤ x1 ∧ x1 ≤ (M 24 1) - 1)) → bCt 157 [uR 10 0] M (fun _ => [uR 5 47]) R1) (hA2 : ((0 < (M 24 0) ∧ 0 ≤ x1 ∧ x1 ≤ (M 24 1) - 1)) → ∀ M1 : dsMem, R1 M1 → bCt 161 [uR 10 0, uR 5 47, uI x1, uX 0, uX 0, uX 0] M1 (fun M2 => [uI (g2 M1 M2)]) (R2 M1)) (s2 : ((0 < (M 24 0) ∧ 0 ≤ x1 ∧ x1 ≤ (M 24 1) - 1)) → ∀ M1 : dsMem, R1 M1 → ∀ M2 : dsMem, R2 M1 M2 → (¬ (g2 M1 M2) = -1) → -2147483648 ≤ ((g2 M1 M2) - (dsAnd (dsUsh (g2 M1 M2) 1) 1431655765)) ∧ ((g2 M1 M2) - (dsAnd (dsUsh (g2 M1 M2) 1) 1431655765)) < 2147483648 := by intros; omega) (s3 : ((0 < (M 24 0) ∧ 0 ≤ x1 ∧ x1 ≤ (M 24 1) - 1)) → ∀ M1 : dsMem, R1 M1 → ∀ M2 : dsMem, R2 M1 M2 → (¬ (g2 M1 M2) = -1) → -2147483648 ≤ ((dsAnd ((g2 M1 M2) - (dsAnd (dsUsh (g2 M1 M2) 1) 1431655765)) 858993459) + (dsAnd (dsUsh ((g2 M1 M2) - (dsAnd (dsUsh (g2 M1 M2) 1) 1431655765)) 2) 858993459)) ∧ ((dsAnd ((g2 M1 M2) - (dsAnd (dsUsh (g2 M1 M2) 1) 1431655765)) 858993459) + (dsAnd (dsUsh ((g2 M1 M2) - (dsAnd (dsUsh (g2 M1 M2) 1) 1431655765)) 2) 858993459)) < 2147483648 := by intros; omega) (s4 : ((0 < (M 24 0) ∧ 0 ≤ x1 ∧ x1 ≤ (M 24 1) - 1)) → ∀ M1 : dsMem, R1 M1 → ∀ M2 : dsMem, R2 M1 M2 → (¬ (g2 M1 M2) = -1) → -2147483648 ≤ (((dsAnd ((g2 M1 M2) - (dsAnd (dsUsh (g2 M1 M2) 1) 1431655765)) 858993459) + (dsAnd (dsUsh ((g2 M1 M2) - (dsAnd (dsUsh (g2 M1 M2) 1) 1431655765)) 2) 858993459)) + (dsUsh ((dsAnd ((g2 M1 M2) - (dsAnd (dsUsh (g2 M1 M2) 1) 1431655765)) 858993459) + (dsAnd (dsUsh ((g2 M1 M2) - (dsAnd (dsUsh (g2 M1 M2) 1) 1431655765)) 2) 858993459)) 4)) ∧ (((dsAnd ((g2 M1 M2) - (dsAnd (dsUsh (g2 M1 M2) 1) 1431655765)) 858993459) + (dsAnd (dsUsh ((g2 M1 M2) - (dsAnd (dsUsh (g2 M1 M2) 1) 1431655765)) 2) 858993459)) + (dsUsh ((dsAnd ((g2 M1 M2) - (dsAnd (dsUsh (g2 M1 M2) 1) 1431655765)) 858993459) + (dsAnd (dsUsh ((g2 M1 M2) - (dsAnd (dsUsh (g2 M1 M2) 1) 1431655765)) 2) 858993459)) 4)) < 2147483648 := by intros; omega) (s5 : ((0 < (M 24 0) ∧ 0 ≤ x1 ∧ x1 ≤ (M 24 1) - 1)) → ∀ M1 : dsMem, R1 M1 → ∀ M2 : dsMem, R2 M1 M2 → (¬ (g2 M1 M2) = -1) → -2147483648 ≤ ((dsAnd (((dsAnd ((g2 M1 M2) - (dsAnd (dsUsh (g2 M1 M2) 1) 1431655765)) 858993459) + (dsAnd (dsUsh ((g2 M1 M2) - (dsAnd (dsUsh (g2 M1 M2) 1) 1431655765)) 2) 858993459)) + (dsUsh ((dsAnd ((g2 M1 M2) - (dsAnd (dsUsh (g2 M1 M2) 1) 1431655765)) 858993459) + (dsAnd (dsUsh ((g2 M1 M2) - (dsAnd (dsUsh (g2 M1 M2) 1) 1431655765)) 2) 858993459)) 4)) 252645135) + (dsUsh (dsAnd (((dsAnd ((g2 M1 M2) - (dsAnd (dsUsh (g2 M1 M2) 1) 1431655765)) 858993459) + (dsAnd (dsUsh ((g2 M1 M2) - (dsAnd (dsUsh (g2 M1 M2) 1) 1431655765)) 2) 858993459)) + (dsUsh ((dsAnd ((g2 M1 M2) - (dsAnd (dsUsh (g2 M1 M2) 1) 1431655765)) 858993459) + (dsAnd (dsUsh ((g2 M1 M2) - (dsAnd (dsUsh (g2 M1 M2) 1) 1431655765)) 2) 858993459)) 4)) 252645135) 8)) ∧ ((dsAnd (((dsAnd ((g2 M1 M2) - (dsAnd (dsUsh (g2 M1 M2) 1) 1431655765)) 858993459) + (dsAnd (dsUsh ((g2 M1 M2) - (dsAnd (dsUsh (g2 M1 M2) 1) 1431655765)) 2) 858993459)) + (dsUsh ((dsAnd ((g2 M1 M2) - (dsAnd (dsUsh (g2 M1 M2) 1) 1431655765)) 858993459) + (dsAnd (dsUsh ((g2 M1 M2) - (dsAnd (dsUsh (g2 M1 M2) 1) 1431655765)) 2) 858993459)) 4)) 252645135) + (dsUsh (dsAnd (((dsAnd ((g2 M1 M2) - (dsAnd (dsUsh (g2 M1 M2) 1) 1431655765)) 858993459) + (dsAnd (dsUsh ((g2 M1 M2) - (dsAnd (dsUsh (g2 M1 M2) 1) 1431655765)) 2) 858993459)) + (dsUsh ((dsAnd ((g2 M1 M2) - (dsAnd (dsUsh (g2 M1 M2) 1) 1431655765)) 858993459) + (dsAnd (dsUsh ((g2 M1 M2) - (dsAnd (dsUsh (g2 M1 M2) 1) 1431655765)) 2) 858993459)) 4)) 252645135) 8)) < 2147483648 := by intros; omega) (s6 : ((0 < (M 24 0) ∧ 0 ≤ x1 ∧ x1 ≤ (M 24 1) - 1)) → ∀ M1 : dsMem, R1 M1 → ∀ M2 : dsMem, R2 M1 M2 → (¬ (g2 M1 M2) = -1) → -2147483648 ≤ (((dsAnd (((dsAnd ((g2 M1 M2) - (dsAnd (dsUsh (g2 M1 M2) 1) 1431655765)) 858993459) + (dsAnd (dsUsh ((g2 M1 M2) - (dsAnd (dsUsh (g2 M1 M2) 1) 1431655765)) 2) 858993459)) + (dsUsh ((dsAnd ((g2 M1 M2) - (dsAnd (dsUsh (g2 M1 M2) 1) 1431655765)) 858993459) + (dsAnd (dsUsh ((g2 M1 M2) - (dsAnd (dsUsh (g2 M1 M2) 1) 1431655765)) 2) 858993459)) 4)) 252645135) + (dsUsh (dsAnd (((dsAnd ((g2 M1 M2) - (dsAnd (dsUsh (g2 M1 M2) 1) 1431655765)) 858993459) + (dsAnd (dsUsh ((g2 M1 M2) - (dsAnd (dsUsh (g2 M1 M2) 1) 1431655765)) 2) 858993459)) + (dsUsh ((dsAnd ((g2 M1 M2) - (dsAnd (dsUsh (g2 M1 M2) 1) 1431655765)) 858993459) + (dsAnd (dsUsh ((g2 M1 M2) - (dsAnd (dsUsh (g2 M1 M2) 1) 1431655765)) 2) 858993459)) 4)) 252645135) 8)) + (dsUsh ((dsAnd (((dsAnd ((g2 M1 M2) - (dsAnd (dsUsh (g2 M1 M2) 1) 1431655765)) 858993459) + (dsAnd (dsUsh ((g2 M1 M2) - (dsAnd (dsUsh (g2 M1 M2) 1) 1431655765)) 2) 858993459)) + (dsUsh ((dsAnd ((g2 M1 M2) - (dsAnd (dsUsh (g2 M1 M2) 1) 1431655765)) 858993459) + (dsAnd (dsUsh ((g2 M1 M2) - (dsAnd (dsUsh (g2 M1 M2) 1) 1431655765)) 2) 858993459)) 4)) 252645135) + (dsUsh (dsAnd (((dsAnd ((g2 M1 M2) - (dsAnd (dsUsh (g2 M1 M2) 1) 1431655765)) 858993459) + (dsAnd (dsUsh ((g2 M1 M2) - (dsAnd (dsUsh (g2 M1 M2) 1) 1431655765)) 2) 858993459)) + (dsUsh ((dsAnd ((g2 M1 M2) - (dsAnd (dsUsh (g2 M1 M2) 1) 1431655765)) 858993459) + (dsAnd (dsUsh ((g2 M1 M2) - (dsAnd (dsUsh (g2 M1 M2) 1) 1431655765)) 2) 858993459)) 4)) 252645135) 8)) 16)) ∧ (((dsAnd (((dsAnd ((g2 M1 M2) - (dsAnd (dsUsh (g2 M1 M2) 1) 1431655765)) 858993459) + (dsAnd (dsUsh ((g2 M1 M2) - (dsAnd (dsUsh (g2 M1 M2) 1) 1431655765)) 2) 858993459)) + (dsUsh ((dsAnd ((g2 M1 M2) - (dsAnd (dsUsh (g2 M1 M2) 1) 1431655765)) 858993459) + (dsAnd (dsUsh ((g2 M1 M2) - (dsAnd (dsUsh (g2 M1 M2) 1) 1431655765)) 2) 858993459)) 4)) 252645135) + (dsUsh (dsAnd (((dsAnd ((g2 M1 M2) - (dsAnd (dsUsh (g2 M1 M2) 1) 1431655765)) 858993459) + (dsAnd (dsUsh ((g2 M1 M2) - (dsAnd (dsUsh (g2 M1 M2) 1) 1431655765)) 2) 858993459)) + (dsUsh ((dsAnd ((g2 M1 M2) - (dsAnd (dsUsh (g2 M1 M2) 1) 1431655765)) 858993459) + (dsAnd (dsUsh ((g2 M1 M2) - (dsAnd (dsUsh (g2 M1 M2) 1) 1431655765)) 2) 858993459)) 4)) 252645135) 8)) + (dsUsh ((dsAnd (((dsAnd ((g2 M1 M2) - (dsAnd (dsUsh (g2 M1 M2) 1) 1431655765)) 858993459) + (dsAnd (dsUsh ((g2 M1 M2) - (dsAnd (dsUsh (g2 M1 M2) 1) 1431655765)) 2) 858993459)) + (dsUsh ((dsAnd ((g2 M1 M2) - (dsAnd (dsUsh (g2 M1 M2) 1) 1431655765)) 858993459) + (dsAnd (dsUsh ((g2 M1 M2) - (dsAnd (dsUsh (g2 M1 M2) 1) 1431655765)) 2) 858993459)) 4)) 252645135) + (dsUsh (dsAnd (((dsAnd ((g2 M1 M2) - (dsAnd (dsUsh (g2 M1 M2) 1) 1431655765)) 858993459) + (dsAnd (dsUsh ((g2 M1 M2) - (dsAnd (dsUsh (g2 M1 M2) 1) 1431655765)) 2) 858993459)) + (dsUsh ((dsAnd ((g2 M1 M2) - (dsAnd (dsUsh (g2 M1 M2) 1) 1431655765)) 858993459) + (dsAnd (dsUsh ((g2 M1 M2) - (dsAnd (dsUsh (g2 M1 M2) 1) 1431655765)) 2) 858993459)) 4)) 252645135) 8)) 16)) < 2147483648 := by intros; omega) (k1 : ((0 < (M 24 0) ∧ 0 ≤ x1 ∧ x1 ≤ (M 24 1) - 1)) → ∀ M1 : dsMem, R1 M1 → ∀ M2 : dsMem, R2 M1 M2 → (¬ (g2 M1 M2) = -1) → Q [uI (v333 M2 (g2 M1 M2))] M2) (k2 : ((0 < (M 24 0) ∧ 0 ≤ x1 ∧ x1 ≤ (M 24 1) - 1)) → ∀ M1 : dsMem, R1 M1 → ∀ M2 : dsMem, R2 M1 M2 → ((g2 M1 M2) = -1) → Q [uI (-1)] M2) (k3 : (¬ (0 < (M 24 0) ∧ 0 ≤ x1 ∧ x1 ≤ (M 24 1) - 1)) → Q [uI (-2)] M) :
    bB 110 0 [uR 10 0, uI x1, uX 0] [] M Q := by
  refine b_aload_n (d110 (j := 0) rfl) rfl ?_
  refine b_iload_n (d110 (j := 1) rfl) rfl ?_
  refine b_callV (d110 (j := 2) rfl) rfl rfl (Or.inl rfl) rfl (bCk_mk (n := 0) (k := 2) (by decide +kernel) rfl rfl) (pu153 s1 ?_)
  refine b_stk [uI (if (0 < (M 24 0) ∧ 0 ≤ x1 ∧ x1 ≤ (M 24 1) - 1) then 1 else 0)] rfl ?_
  refine b_ifneP (d110 (j := 3) rfl) (fun c1 => ?_) (fun c1 => ?_)
  ·
    refine b_aload_n (d110 (j := 6) rfl) rfl ?_
    refine b_aload_n (d110 (j := 7) rfl) rfl ?_
    refine b_callV (d110 (j := 8) rfl) rfl rfl (Or.inl rfl) rfl (bCk_mk (n := 1) (k := 1) (by decide +kernel) rfl rfl) ((hA1 c1) _ (fun M1 hR1 => ?_))
    refine b_stk [uR 5 47, uR 10 0] rfl ?_
    refine b_iload_n (d110 (j := 9) rfl) rfl ?_
    refine b_callV (d110 (j := 10) rfl) rfl rfl (Or.inl rfl) rfl (bCk_mk (n := 0) (k := 3) (by decide +kernel) rfl rfl) ((hA2 c1 M1 hR1) _ (fun M2 hR2 => ?_))
    refine b_stk [uI (g2 M1 M2)] rfl ?_
    refine b_istore_n [uR 10 0, uI x1, uI (g2 M1 M2)] (d110 (j := 11) rfl) (by decide) rfl ?_
    refine b_iload_n (d110 (j := 12) rfl) rfl ?_
    refine b_iconst (d110 (j := 13) rfl) (by decide) ?_
    refine b_icmp_ne (d110 (j := 14) rfl) (fun c2 => ?_) (fun c2 => ?_)
    ·
      refine b_iload_n (d110 (j := 17) rfl) rfl ?_
      refine b_callS (d110 (j := 18) rfl) (Or.inl rfl) rfl (bCk_mk (n := 0) (k := 1) (by decide +kernel) rfl rfl) (fx333 (s2 c1 M1 hR1 M2 hR2 c2) (s3 c1 M1 hR1 M2 hR2 c2) (s4 c1 M1 hR1 M2 hR2 c2) (s5 c1 M1 hR1 M2 hR2 c2) (s6 c1 M1 hR1 M2 hR2 c2) ?_)
      refine b_stk [uI (v333 M2 (g2 M1 M2))] rfl ?_
      exact b_iret (d110 (j := 19) rfl) rfl (k1 c1 M1 hR1 M2 hR2 c2)
    ·
      refine b_iconst (d110 (j := 15) rfl) (by decide) ?_
      refine b_goto (d110 (j := 16) rfl) ?_
      exact b_iret (d110 (j := 19) rfl) rfl (k2 c1 M1 hR1 M2 hR2 c2)
  ·
    refine b_bipush (d110 (j := 4) rfl) (by decide) ?_
    exact b_iret (d110 (j := 5) rfl) rfl (k3 c1)
def L111 : List (Nat × Instr × Nat × Nat) := [(0, .aload_n 0, 1, 0), (1, .iload_n 1, 2, 0), (2, .invokevirtual 228, 5, 0), (5, .ifCond .eq 15, 8, 20), (8, .aload_n 0, 9, 0), (9, .aload_n 0, 10, 0), (10, .invokevirtual 149, 13, 0), (13, .iload_n 1, 14, 0), (14, .invokevirtual 243, 17, 0), (17, .goto 5, 20, 22), (20, .bipush (-2), 22, 0), (22, .ireturn, 23, 0)]
set_option maxRecDepth 100000 in
theorem L111_ok : L111.all (dck 111) = true := by decide +kernel
theorem d111 {j pc nx tg : Nat} {ins : Instr} (hj : L111[j]? = some (pc, ins, nx, tg)) : dcd 111 pc ins nx tg := dcl_ok L111_ok hj
set_option maxRecDepth 100000 in
set_option maxHeartbeats 4000000 in
theorem r111_0 {x1 : Int} {R1 : dsMem → Prop} {R2 : dsMem → dsMem → Prop} {g2 : dsMem → dsMem → Int} {M : dsMem} {Q : bQT} (s1 : -2147483648 ≤ ((M 24 1) - 1) ∧ ((M 24 1) - 1) < 2147483648 := by intros; omega) (k1 : (¬ (0 < (M 24 0) ∧ 0 ≤ x1 ∧ x1 ≤ (M 24 1) - 1)) → Q [uI (-2)] M) (hA1 : ((0 < (M 24 0) ∧ 0 ≤ x1 ∧ x1 ≤ (M 24 1) - 1)) → bCt 157 [uR 10 0] M (fun _ => [uR 5 47]) R1) (hA2 : ((0 < (M 24 0) ∧ 0 ≤ x1 ∧ x1 ≤ (M 24 1) - 1)) → ∀ M1 : dsMem, R1 M1 → bCt 161 [uR 10 0, uR 5 47, uI x1, uX 0, uX 0, uX 0] M1 (fun M2 => [uI (g2 M1 M2)]) (R2 M1)) (k2 : ((0 < (M 24 0) ∧ 0 ≤ x1 ∧ x1 ≤ (M 24 1) - 1)) → ∀ M1 : dsMem, R1 M1 → ∀ M2 : dsMem, R2 M1 M2 → Q [uI (g2 M1 M2)] M2) :
    bB 111 0 [uR 10 0, uI x1] [] M Q := by
  refine b_aload_n (d111 (j := 0) rfl) rfl ?_
  refine b_iload_n (d111 (j := 1) rfl) rfl ?_
  refine b_callV (d111 (j := 2) rfl) rfl rfl (Or.inl rfl) rfl (bCk_mk (n := 0) (k := 2) (by decide +kernel) rfl rfl) (pu153 s1 ?_)
  refine b_stk [uI (if (0 < (M 24 0) ∧ 0 ≤ x1 ∧ x1 ≤ (M 24 1) - 1) then 1 else 0)] rfl ?_
  refine b_ifeqP (d111 (j := 3) rfl) (fun c1 => ?_) (fun c1 => ?_)
  ·
    refine b_bipush (d111 (j := 10) rfl) (by decide) ?_
    exact b_iret (d111 (j := 11) rfl) rfl (k1 c1)
  ·
    refine b_aload_n (d111 (j := 4) rfl) rfl ?_
    refine b_aload_n (d111 (j := 5) rfl) rfl ?_
    refine b_callV (d111 (j := 6) rfl) rfl rfl (Or.inl rfl) rfl (bCk_mk (n := 1) (k := 1) (by decide +kernel) rfl rfl) ((hA1 c1) _ (fun M1 hR1 => ?_))
    refine b_stk [uR 5 47, uR 10 0] rfl ?_
    refine b_iload_n (d111 (j := 7) rfl) rfl ?_
    refine b_callV (d111 (j := 8) rfl) rfl rfl (Or.inl rfl) rfl (bCk_mk (n := 0) (k := 3) (by decide +kernel) rfl rfl) ((hA2 c1 M1 hR1) _ (fun M2 hR2 => ?_))
    refine b_stk [uI (g2 M1 M2)] rfl ?_
    refine b_goto (d111 (j := 9) rfl) ?_
    exact b_iret (d111 (j := 11) rfl) rfl (k2 c1 M1 hR1 M2 hR2)
def L112 : List (Nat × Instr × Nat × Nat) := [(0, .aload_n 0, 1, 0), (1, .invokevirtual 179, 4, 0), (4, .ifCond .ne 6, 7, 10), (7, .bipush (-2), 9, 0), (9, .ireturn, 10, 0), (10, .aload_n 0, 11, 0), (11, .getfield 23, 14, 0), (14, .getfield 186, 17, 0), (17, .iconst 1, 18, 0), (18, .isub, 19, 0), (19, .istore_n 1, 20, 0), (20, .iload_n 1, 21, 0), (21, .ifCond .lt 24, 24, 45), (24, .aload_n 0, 25, 0), (25, .aload_n 0, 26, 0), (26, .invokevirtual 149, 29, 0), (29, .iload_n 1, 30, 0), (30, .invokevirtual 243, 33, 0), (33, .iconst (-1), 34, 0), (34, .if_icmp .eq 5, 37, 39), (37, .iload_n 1, 38, 0), (38, .ireturn, 39, 0), (39, .iinc 1 (-1), 42, 0), (42, .goto (-22), 45, 20), (45, .iconst (-1), 46, 0), (46, .ireturn, 47, 0)]
set_option maxRecDepth 100000 in
theorem L112_ok : L112.all (dck 112) = true := by decide +kernel
theorem d112 {j pc nx tg : Nat} {ins : Instr} (hj : L112[j]? = some (pc, ins, nx, tg)) : dcd 112 pc ins nx tg := dcl_ok L112_ok hj
set_option maxRecDepth 100000 in
set_option maxHeartbeats 4000000 in
theorem r112_0   {M : dsMem} {Q : bQT} (s1 : ((0 < (M 24 0))) → -2147483648 ≤ ((M 24 1) - 1) ∧ ((M 24 1) - 1) < 2147483648 := by intros; omega) (k1 : ((0 < (M 24 0))) → bB 112 20 [uR 10 0, uI ((M 24 1) - 1)] [] M Q) (k2 : (¬ (0 < (M 24 0))) → Q [uI (-2)] M) :
    bB 112 0 [uR 10 0, uX 0] [] M Q := by
  refine b_aload_n (d112 (j := 0) rfl) rfl ?_
  refine b_callV (d112 (j := 1) rfl) rfl rfl (Or.inl rfl) rfl (bCk_mk (n := 0) (k := 1) (by decide +kernel) rfl rfl) (pu149  ?_)
  refine b_stk [uI (if (0 < (M 24 0)) then 1 else 0)] rfl ?_
  refine b_ifneP (d112 (j := 2) rfl) (fun c1 => ?_) (fun c1 => ?_)
  ·
    refine b_aload_n (d112 (j := 5) rfl) rfl ?_
    refine b_getR (d112 (j := 6) rfl) rfl rfl rfl rfl ?_
    refine b_stk [uR 4 24] rfl ?_
    refine b_getI (d112 (j := 7) rfl) rfl rfl rfl rfl (Or.inl rfl) ?_
    refine b_stk [uI (M 24 1)] rfl ?_
    refine b_iconst (d112 (j := 8) rfl) (by decide) ?_
    refine b_isub (d112 (j := 9) rfl) rfl rfl ?_
    refine b_stk [uI ((M 24 1) - 1)] (by rw [dsw_r (s1 c1)]) ?_
    refine b_istore_n [uR 10 0, uI ((M 24 1) - 1)] (d112 (j := 10) rfl) (by decide) rfl ?_
    exact (k1 c1)
  ·
    refine b_bipush (d112 (j := 3) rfl) (by decide) ?_
    exact b_iret (d112 (j := 4) rfl) rfl (k2 c1)
set_option maxRecDepth 100000 in
set_option maxHeartbeats 4000000 in
theorem r112_20 {x1 : Int} {R1 : dsMem → Prop} {R2 : dsMem → dsMem → Prop} {g2 : dsMem → dsMem → Int} {M : dsMem} {Q : bQT} (k1 : (x1 < 0) → Q [uI (-1)] M) (hA1 : (¬ x1 < 0) → bCt 157 [uR 10 0] M (fun _ => [uR 5 47]) R1) (hA2 : (¬ x1 < 0) → ∀ M1 : dsMem, R1 M1 → bCt 161 [uR 10 0, uR 5 47, uI x1, uX 0, uX 0, uX 0] M1 (fun M2 => [uI (g2 M1 M2)]) (R2 M1)) (s1 : (¬ x1 < 0) → ∀ M1 : dsMem, R1 M1 → ∀ M2 : dsMem, R2 M1 M2 → ((g2 M1 M2) = -1) → -2147483648 ≤ x1 + (-1) ∧ x1 + (-1) < 2147483648 := by intros; omega) (k2 : (¬ x1 < 0) → ∀ M1 : dsMem, R1 M1 → ∀ M2 : dsMem, R2 M1 M2 → ((g2 M1 M2) = -1) → bB 112 20 [uR 10 0, uI (x1 + (-1))] [] M2 Q) (k3 : (¬ x1 < 0) → ∀ M1 : dsMem, R1 M1 → ∀ M2 : dsMem, R2 M1 M2 → (¬ (g2 M1 M2) = -1) → Q [uI x1] M2) :
    bB 112 20 [uR 10 0, uI x1] [] M Q := by
  refine b_iload_n (d112 (j := 11) rfl) rfl ?_
  refine b_if_lt (d112 (j := 12) rfl) (fun c1 => ?_) (fun c1 => ?_)
  ·
    refine b_iconst (d112 (j := 24) rfl) (by decide) ?_
    exact b_iret (d112 (j := 25) rfl) rfl (k1 c1)
  ·
    refine b_aload_n (d112 (j := 13) rfl) rfl ?_
    refine b_aload_n (d112 (j := 14) rfl) rfl ?_
    refine b_callV (d112 (j := 15) rfl) rfl rfl (Or.inl rfl) rfl (bCk_mk (n := 1) (k := 1) (by decide +kernel) rfl rfl) ((hA1 c1) _ (fun M1 hR1 => ?_))
    refine b_stk [uR 5 47, uR 10 0] rfl ?_
    refine b_iload_n (d112 (j := 16) rfl) rfl ?_
    refine b_callV (d112 (j := 17) rfl) rfl rfl (Or.inl rfl) rfl (bCk_mk (n := 0) (k := 3) (by decide +kernel) rfl rfl) ((hA2 c1 M1 hR1) _ (fun M2 hR2 => ?_))
    refine b_stk [uI (g2 M1 M2)] rfl ?_
    refine b_iconst (d112 (j := 18) rfl) (by decide) ?_
    refine b_icmp_eq (d112 (j := 19) rfl) (fun c2 => ?_) (fun c2 => ?_)
    ·
      refine b_iinc [uR 10 0, uI (x1 + (-1))] (d112 (j := 22) rfl) rfl (by decide) (s1 c1 M1 hR1 M2 hR2 c2) rfl ?_
      refine b_goto (d112 (j := 23) rfl) ?_
      exact (k2 c1 M1 hR1 M2 hR2 c2)
    ·
      refine b_iload_n (d112 (j := 20) rfl) rfl ?_
      exact b_iret (d112 (j := 21) rfl) rfl (k3 c1 M1 hR1 M2 hR2 c2)
def L113 : List (Nat × Instr × Nat × Nat) := [(0, .aload_n 0, 1, 0), (1, .invokevirtual 179, 4, 0), (4, .ifCond .ne 6, 7, 10), (7, .bipush (-2), 9, 0), (9, .ireturn, 10, 0), (10, .iconst (-1), 11, 0), (11, .istore_n 1, 12, 0), (12, .aload_n 0, 13, 0), (13, .invokevirtual 149, 16, 0), (16, .getfield 189, 19, 0), (19, .aload_n 0, 20, 0), (20, .getfield 23, 23, 0), (23, .getfield 186, 26, 0), (26, .iaload, 27, 0), (27, .invokestatic 247, 30, 0), (30, .istore_n 2, 31, 0), (31, .iconst 0, 32, 0), (32, .istore_n 3, 33, 0), (33, .iload_n 3, 34, 0), (34, .aload_n 0, 35, 0), (35, .getfield 23, 38, 0), (38, .getfield 126, 41, 0), (41, .getfield 130, 44, 0), (44, .if_icmp .ge 45, 47, 89), (47, .aload_n 0, 48, 0), (48, .invokevirtual 252, 51, 0), (51, .astore 4, 53, 0), (53, .aload 4, 55, 0), (55, .iconst 1, 56, 0), (56, .iload_n 3, 57, 0), (57, .ishl, 58, 0), (58, .iconst (-1), 59, 0), (59, .ixor, 60, 0), (60, .putfield 256, 63, 0), (63, .aload_n 0, 64, 0), (64, .invokevirtual 261, 67, 0), (67, .invokestatic 247, 70, 0), (70, .istore 5, 72, 0), (72, .iload 5, 74, 0), (74, .iload_n 2, 75, 0), (75, .if_icmp .le 8, 78, 83), (78, .iload_n 3, 79, 0), (79, .istore_n 1, 80, 0), (80, .iload 5, 82, 0), (82, .istore_n 2, 83, 0), (83, .iinc 3 1, 86, 0), (86, .goto (-53), 89, 33), (89, .iload_n 1, 90, 0), (90, .ireturn, 91, 0)]
set_option maxRecDepth 100000 in
theorem L113_ok : L113.all (dck 113) = true := by decide +kernel
theorem d113 {j pc nx tg : Nat} {ins : Instr} (hj : L113[j]? = some (pc, ins, nx, tg)) : dcd 113 pc ins nx tg := dcl_ok L113_ok hj
set_option maxRecDepth 100000 in
set_option maxHeartbeats 4000000 in
theorem r113_0  {R1 : dsMem → Prop} {M : dsMem} {Q : bQT} (hA1 : ((0 < (M 24 0))) → bCt 157 [uR 10 0] M (fun _ => [uR 5 47]) R1) (s1 : ((0 < (M 24 0))) → ∀ M1 : dsMem, R1 M1 → 0 ≤ (M1 24 1) ∧ (M1 24 1) < 13 := by intros; omega) (s2 : ((0 < (M 24 0))) → ∀ M1 : dsMem, R1 M1 → -2147483648 ≤ ((M1 54 (M1 24 1)) - (dsAnd (dsUsh (M1 54 (M1 24 1)) 1) 1431655765)) ∧ ((M1 54 (M1 24 1)) - (dsAnd (dsUsh (M1 54 (M1 24 1)) 1) 1431655765)) < 2147483648 := by intros; omega) (s3 : ((0 < (M 24 0))) → ∀ M1 : dsMem, R1 M1 → -2147483648 ≤ ((dsAnd ((M1 54 (M1 24 1)) - (dsAnd (dsUsh (M1 54 (M1 24 1)) 1) 1431655765)) 858993459) + (dsAnd (dsUsh ((M1 54 (M1 24 1)) - (dsAnd (dsUsh (M1 54 (M1 24 1)) 1) 1431655765)) 2) 858993459)) ∧ ((dsAnd ((M1 54 (M1 24 1)) - (dsAnd (dsUsh (M1 54 (M1 24 1)) 1) 1431655765)) 858993459) + (dsAnd (dsUsh ((M1 54 (M1 24 1)) - (dsAnd (dsUsh (M1 54 (M1 24 1)) 1) 1431655765)) 2) 858993459)) < 2147483648 := by intros; omega) (s4 : ((0 < (M 24 0))) → ∀ M1 : dsMem, R1 M1 → -2147483648 ≤ (((dsAnd ((M1 54 (M1 24 1)) - (dsAnd (dsUsh (M1 54 (M1 24 1)) 1) 1431655765)) 858993459) + (dsAnd (dsUsh ((M1 54 (M1 24 1)) - (dsAnd (dsUsh (M1 54 (M1 24 1)) 1) 1431655765)) 2) 858993459)) + (dsUsh ((dsAnd ((M1 54 (M1 24 1)) - (dsAnd (dsUsh (M1 54 (M1 24 1)) 1) 1431655765)) 858993459) + (dsAnd (dsUsh ((M1 54 (M1 24 1)) - (dsAnd (dsUsh (M1 54 (M1 24 1)) 1) 1431655765)) 2) 858993459)) 4)) ∧ (((dsAnd ((M1 54 (M1 24 1)) - (dsAnd (dsUsh (M1 54 (M1 24 1)) 1) 1431655765)) 858993459) + (dsAnd (dsUsh ((M1 54 (M1 24 1)) - (dsAnd (dsUsh (M1 54 (M1 24 1)) 1) 1431655765)) 2) 858993459)) + (dsUsh ((dsAnd ((M1 54 (M1 24 1)) - (dsAnd (dsUsh (M1 54 (M1 24 1)) 1) 1431655765)) 858993459) + (dsAnd (dsUsh ((M1 54 (M1 24 1)) - (dsAnd (dsUsh (M1 54 (M1 24 1)) 1) 1431655765)) 2) 858993459)) 4)) < 2147483648 := by intros; omega) (s5 : ((0 < (M 24 0))) → ∀ M1 : dsMem, R1 M1 → -2147483648 ≤ ((dsAnd (((dsAnd ((M1 54 (M1 24 1)) - (dsAnd (dsUsh (M1 54 (M1 24 1)) 1) 1431655765)) 858993459) + (dsAnd (dsUsh ((M1 54 (M1 24 1)) - (dsAnd (dsUsh (M1 54 (M1 24 1)) 1) 1431655765)) 2) 858993459)) + (dsUsh ((dsAnd ((M1 54 (M1 24 1)) - (dsAnd (dsUsh (M1 54 (M1 24 1)) 1) 1431655765)) 858993459) + (dsAnd (dsUsh ((M1 54 (M1 24 1)) - (dsAnd (dsUsh (M1 54 (M1 24 1)) 1) 1431655765)) 2) 858993459)) 4)) 252645135) + (dsUsh (dsAnd (((dsAnd ((M1 54 (M1 24 1)) - (dsAnd (dsUsh (M1 54 (M1 24 1)) 1) 1431655765)) 858993459) + (dsAnd (dsUsh ((M1 54 (M1 24 1)) - (dsAnd (dsUsh (M1 54 (M1 24 1)) 1) 1431655765)) 2) 858993459)) + (dsUsh ((dsAnd ((M1 54 (M1 24 1)) - (dsAnd (dsUsh (M1 54 (M1 24 1)) 1) 1431655765)) 858993459) + (dsAnd (dsUsh ((M1 54 (M1 24 1)) - (dsAnd (dsUsh (M1 54 (M1 24 1)) 1) 1431655765)) 2) 858993459)) 4)) 252645135) 8)) ∧ ((dsAnd (((dsAnd ((M1 54 (M1 24 1)) - (dsAnd (dsUsh (M1 54 (M1 24 1)) 1) 1431655765)) 858993459) + (dsAnd (dsUsh ((M1 54 (M1 24 1)) - (dsAnd (dsUsh (M1 54 (M1 24 1)) 1) 1431655765)) 2) 858993459)) + (dsUsh ((dsAnd ((M1 54 (M1 24 1)) - (dsAnd (dsUsh (M1 54 (M1 24 1)) 1) 1431655765)) 858993459) + (dsAnd (dsUsh ((M1 54 (M1 24 1)) - (dsAnd (dsUsh (M1 54 (M1 24 1)) 1) 1431655765)) 2) 858993459)) 4)) 252645135) + (dsUsh (dsAnd (((dsAnd ((M1 54 (M1 24 1)) - (dsAnd (dsUsh (M1 54 (M1 24 1)) 1) 1431655765)) 858993459) + (dsAnd (dsUsh ((M1 54 (M1 24 1)) - (dsAnd (dsUsh (M1 54 (M1 24 1)) 1) 1431655765)) 2) 858993459)) + (dsUsh ((dsAnd ((M1 54 (M1 24 1)) - (dsAnd (dsUsh (M1 54 (M1 24 1)) 1) 1431655765)) 858993459) + (dsAnd (dsUsh ((M1 54 (M1 24 1)) - (dsAnd (dsUsh (M1 54 (M1 24 1)) 1) 1431655765)) 2) 858993459)) 4)) 252645135) 8)) < 2147483648 := by intros; omega) (s6 : ((0 < (M 24 0))) → ∀ M1 : dsMem, R1 M1 → -2147483648 ≤ (((dsAnd (((dsAnd ((M1 54 (M1 24 1)) - (dsAnd (dsUsh (M1 54 (M1 24 1)) 1) 1431655765)) 858993459) + (dsAnd (dsUsh ((M1 54 (M1 24 1)) - (dsAnd (dsUsh (M1 54 (M1 24 1)) 1) 1431655765)) 2) 858993459)) + (dsUsh ((dsAnd ((M1 54 (M1 24 1)) - (dsAnd (dsUsh (M1 54 (M1 24 1)) 1) 1431655765)) 858993459) + (dsAnd (dsUsh ((M1 54 (M1 24 1)) - (dsAnd (dsUsh (M1 54 (M1 24 1)) 1) 1431655765)) 2) 858993459)) 4)) 252645135) + (dsUsh (dsAnd (((dsAnd ((M1 54 (M1 24 1)) - (dsAnd (dsUsh (M1 54 (M1 24 1)) 1) 1431655765)) 858993459) + (dsAnd (dsUsh ((M1 54 (M1 24 1)) - (dsAnd (dsUsh (M1 54 (M1 24 1)) 1) 1431655765)) 2) 858993459)) + (dsUsh ((dsAnd ((M1 54 (M1 24 1)) - (dsAnd (dsUsh (M1 54 (M1 24 1)) 1) 1431655765)) 858993459) + (dsAnd (dsUsh ((M1 54 (M1 24 1)) - (dsAnd (dsUsh (M1 54 (M1 24 1)) 1) 1431655765)) 2) 858993459)) 4)) 252645135) 8)) + (dsUsh ((dsAnd (((dsAnd ((M1 54 (M1 24 1)) - (dsAnd (dsUsh (M1 54 (M1 24 1)) 1) 1431655765)) 858993459) + (dsAnd (dsUsh ((M1 54 (M1 24 1)) - (dsAnd (dsUsh (M1 54 (M1 24 1)) 1) 1431655765)) 2) 858993459)) + (dsUsh ((dsAnd ((M1 54 (M1 24 1)) - (dsAnd (dsUsh (M1 54 (M1 24 1)) 1) 1431655765)) 858993459) + (dsAnd (dsUsh ((M1 54 (M1 24 1)) - (dsAnd (dsUsh (M1 54 (M1 24 1)) 1) 1431655765)) 2) 858993459)) 4)) 252645135) + (dsUsh (dsAnd (((dsAnd ((M1 54 (M1 24 1)) - (dsAnd (dsUsh (M1 54 (M1 24 1)) 1) 1431655765)) 858993459) + (dsAnd (dsUsh ((M1 54 (M1 24 1)) - (dsAnd (dsUsh (M1 54 (M1 24 1)) 1) 1431655765)) 2) 858993459)) + (dsUsh ((dsAnd ((M1 54 (M1 24 1)) - (dsAnd (dsUsh (M1 54 (M1 24 1)) 1) 1431655765)) 858993459) + (dsAnd (dsUsh ((M1 54 (M1 24 1)) - (dsAnd (dsUsh (M1 54 (M1 24 1)) 1) 1431655765)) 2) 858993459)) 4)) 252645135) 8)) 16)) ∧ (((dsAnd (((dsAnd ((M1 54 (M1 24 1)) - (dsAnd (dsUsh (M1 54 (M1 24 1)) 1) 1431655765)) 858993459) + (dsAnd (dsUsh ((M1 54 (M1 24 1)) - (dsAnd (dsUsh (M1 54 (M1 24 1)) 1) 1431655765)) 2) 858993459)) + (dsUsh ((dsAnd ((M1 54 (M1 24 1)) - (dsAnd (dsUsh (M1 54 (M1 24 1)) 1) 1431655765)) 858993459) + (dsAnd (dsUsh ((M1 54 (M1 24 1)) - (dsAnd (dsUsh (M1 54 (M1 24 1)) 1) 1431655765)) 2) 858993459)) 4)) 252645135) + (dsUsh (dsAnd (((dsAnd ((M1 54 (M1 24 1)) - (dsAnd (dsUsh (M1 54 (M1 24 1)) 1) 1431655765)) 858993459) + (dsAnd (dsUsh ((M1 54 (M1 24 1)) - (dsAnd (dsUsh (M1 54 (M1 24 1)) 1) 1431655765)) 2) 858993459)) + (dsUsh ((dsAnd ((M1 54 (M1 24 1)) - (dsAnd (dsUsh (M1 54 (M1 24 1)) 1) 1431655765)) 858993459) + (dsAnd (dsUsh ((M1 54 (M1 24 1)) - (dsAnd (dsUsh (M1 54 (M1 24 1)) 1) 1431655765)) 2) 858993459)) 4)) 252645135) 8)) + (dsUsh ((dsAnd (((dsAnd ((M1 54 (M1 24 1)) - (dsAnd (dsUsh (M1 54 (M1 24 1)) 1) 1431655765)) 858993459) + (dsAnd (dsUsh ((M1 54 (M1 24 1)) - (dsAnd (dsUsh (M1 54 (M1 24 1)) 1) 1431655765)) 2) 858993459)) + (dsUsh ((dsAnd ((M1 54 (M1 24 1)) - (dsAnd (dsUsh (M1 54 (M1 24 1)) 1) 1431655765)) 858993459) + (dsAnd (dsUsh ((M1 54 (M1 24 1)) - (dsAnd (dsUsh (M1 54 (M1 24 1)) 1) 1431655765)) 2) 858993459)) 4)) 252645135) + (dsUsh (dsAnd (((dsAnd ((M1 54 (M1 24 1)) - (dsAnd (dsUsh (M1 54 (M1 24 1)) 1) 1431655765)) 858993459) + (dsAnd (dsUsh ((M1 54 (M1 24 1)) - (dsAnd (dsUsh (M1 54 (M1 24 1)) 1) 1431655765)) 2) 858993459)) + (dsUsh ((dsAnd ((M1 54 (M1 24 1)) - (dsAnd (dsUsh (M1 54 (M1 24 1)) 1) 1431655765)) 858993459) + (dsAnd (dsUsh ((M1 54 (M1 24 1)) - (dsAnd (dsUsh (M1 54 (M1 24 1)) 1) 1431655765)) 2) 858993459)) 4)) 252645135) 8)) 16)) < 2147483648 := by intros; omega) (k1 : ((0 < (M 24 0))) → ∀ M1 : dsMem, R1 M1 → bB 113 33 [uR 10 0, uI (-1), uI (v333 M1 (M1 54 (M1 24 1))), uI 0, uX 0, uX 0] [] M1 Q) (k2 : (¬ (0 < (M 24 0))) → Q [uI (-2)] M) :
    bB 113 0 [uR 10 0, uX 0, uX 0, uX 0, uX 0, uX 0] [] M Q := by
  refine b_aload_n (d113 (j := 0) rfl) rfl ?_
  refine b_callV (d113 (j := 1) rfl) rfl rfl (Or.inl rfl) rfl (bCk_mk (n := 0) (k := 1) (by decide +kernel) rfl rfl) (pu149  ?_)
  refine b_stk [uI (if (0 < (M 24 0)) then 1 else 0)] rfl ?_
  refine b_ifneP (d113 (j := 2) rfl) (fun c1 => ?_) (fun c1 => ?_)
  ·
    refine b_iconst (d113 (j := 5) rfl) (by decide) ?_
    refine b_istore_n [uR 10 0, uI (-1), uX 0, uX 0, uX 0, uX 0] (d113 (j := 6) rfl) (by decide) rfl ?_
    refine b_aload_n (d113 (j := 7) rfl) rfl ?_
    refine b_callV (d113 (j := 8) rfl) rfl rfl (Or.inl rfl) rfl (bCk_mk (n := 0) (k := 1) (by decide +kernel) rfl rfl) ((hA1 c1) _ (fun M1 hR1 => ?_))
    refine b_stk [uR 5 47] rfl ?_
    refine b_getR (d113 (j := 9) rfl) rfl rfl rfl rfl ?_
    refine b_stk [uR 27 54] rfl ?_
    refine b_aload_n (d113 (j := 10) rfl) rfl ?_
    refine b_getR (d113 (j := 11) rfl) rfl rfl rfl rfl ?_
    refine b_stk [uR 4 24, uR 27 54] rfl ?_
    refine b_getI (d113 (j := 12) rfl) rfl rfl rfl rfl (Or.inl rfl) ?_
    refine b_stk [uI (M1 24 1), uR 27 54] rfl ?_
    refine b_iaload (d113 (j := 13) rfl) rfl (s1 c1 M1 hR1) ?_
    refine b_callS (d113 (j := 14) rfl) (Or.inl rfl) rfl (bCk_mk (n := 0) (k := 1) (by decide +kernel) rfl rfl) (fx333 (s2 c1 M1 hR1) (s3 c1 M1 hR1) (s4 c1 M1 hR1) (s5 c1 M1 hR1) (s6 c1 M1 hR1) ?_)
    refine b_stk [uI (v333 M1 (M1 54 (M1 24 1)))] rfl ?_
    refine b_istore_n [uR 10 0, uI (-1), uI (v333 M1 (M1 54 (M1 24 1))), uX 0, uX 0, uX 0] (d113 (j := 15) rfl) (by decide) rfl ?_
    refine b_iconst (d113 (j := 16) rfl) (by decide) ?_
    refine b_istore_n [uR 10 0, uI (-1), uI (v333 M1 (M1 54 (M1 24 1))), uI 0, uX 0, uX 0] (d113 (j := 17) rfl) (by decide) rfl ?_
    exact (k1 c1 M1 hR1)
  ·
    refine b_bipush (d113 (j := 3) rfl) (by decide) ?_
    exact b_iret (d113 (j := 4) rfl) rfl (k2 c1)
set_option maxRecDepth 100000 in
set_option maxHeartbeats 4000000 in
theorem r113_33 {x1 x2 x3 : Int} {R1 : dsMem → Prop} {R2 : dsMem → dsMem → Prop} {g2 : dsMem → dsMem → Int} {M : dsMem} {Q : bQT} (k1 : ((M 30 0) ≤ x3) → Q [uI x1] M) (hA1 : (¬ (M 30 0) ≤ x3) → bCt 158 [uR 10 0] M (fun _ => [uR 0 63]) R1) (hA2 : (¬ (M 30 0) ≤ x3) → ∀ M1 : dsMem, R1 M1 → bCt 159 [uR 10 0] (dsSet M1 63 1 (dsXor (dsShl 1 x3) (-1))) (fun M2 => [uI (g2 M1 M2)]) (R2 M1)) (s1 : (¬ (M 30 0) ≤ x3) → ∀ M1 : dsMem, R1 M1 → ∀ M2 : dsMem, R2 M1 M2 → -2147483648 ≤ ((g2 M1 M2) - (dsAnd (dsUsh (g2 M1 M2) 1) 1431655765)) ∧ ((g2 M1 M2) - (dsAnd (dsUsh (g2 M1 M2) 1) 1431655765)) < 2147483648 := by intros; omega) (s2 : (¬ (M 30 0) ≤ x3) → ∀ M1 : dsMem, R1 M1 → ∀ M2 : dsMem, R2 M1 M2 → -2147483648 ≤ ((dsAnd ((g2 M1 M2) - (dsAnd (dsUsh (g2 M1 M2) 1) 1431655765)) 858993459) + (dsAnd (dsUsh ((g2 M1 M2) - (dsAnd (dsUsh (g2 M1 M2) 1) 1431655765)) 2) 858993459)) ∧ ((dsAnd ((g2 M1 M2) - (dsAnd (dsUsh (g2 M1 M2) 1) 1431655765)) 858993459) + (dsAnd (dsUsh ((g2 M1 M2) - (dsAnd (dsUsh (g2 M1 M2) 1) 1431655765)) 2) 858993459)) < 2147483648 := by intros; omega) (s3 : (¬ (M 30 0) ≤ x3) → ∀ M1 : dsMem, R1 M1 → ∀ M2 : dsMem, R2 M1 M2 → -2147483648 ≤ (((dsAnd ((g2 M1 M2) - (dsAnd (dsUsh (g2 M1 M2) 1) 1431655765)) 858993459) + (dsAnd (dsUsh ((g2 M1 M2) - (dsAnd (dsUsh (g2 M1 M2) 1) 1431655765)) 2) 858993459)) + (dsUsh ((dsAnd ((g2 M1 M2) - (dsAnd (dsUsh (g2 M1 M2) 1) 1431655765)) 858993459) + (dsAnd (dsUsh ((g2 M1 M2) - (dsAnd (dsUsh (g2 M1 M2) 1) 1431655765)) 2) 858993459)) 4)) ∧ (((dsAnd ((g2 M1 M2) - (dsAnd (dsUsh (g2 M1 M2) 1) 1431655765)) 858993459) + (dsAnd (dsUsh ((g2 M1 M2) - (dsAnd (dsUsh (g2 M1 M2) 1) 1431655765)) 2) 858993459)) + (dsUsh ((dsAnd ((g2 M1 M2) - (dsAnd (dsUsh (g2 M1 M2) 1) 1431655765)) 858993459) + (dsAnd (dsUsh ((g2 M1 M2) - (dsAnd (dsUsh (g2 M1 M2) 1) 1431655765)) 2) 858993459)) 4)) < 2147483648 := by intros; omega) (s4 : (¬ (M 30 0) ≤ x3) → ∀ M1 : dsMem, R1 M1 → ∀ M2 : dsMem, R2 M1 M2 → -2147483648 ≤ ((dsAnd (((dsAnd ((g2 M1 M2) - (dsAnd (dsUsh (g2 M1 M2) 1) 1431655765)) 858993459) + (dsAnd (dsUsh ((g2 M1 M2) - (dsAnd (dsUsh (g2 M1 M2) 1) 1431655765)) 2) 858993459)) + (dsUsh ((dsAnd ((g2 M1 M2) - (dsAnd (dsUsh (g2 M1 M2) 1) 1431655765)) 858993459) + (dsAnd (dsUsh ((g2 M1 M2) - (dsAnd (dsUsh (g2 M1 M2) 1) 1431655765)) 2) 858993459)) 4)) 252645135) + (dsUsh (dsAnd (((dsAnd ((g2 M1 M2) - (dsAnd (dsUsh (g2 M1 M2) 1) 1431655765)) 858993459) + (dsAnd (dsUsh ((g2 M1 M2) - (dsAnd (dsUsh (g2 M1 M2) 1) 1431655765)) 2) 858993459)) + (dsUsh ((dsAnd ((g2 M1 M2) - (dsAnd (dsUsh (g2 M1 M2) 1) 1431655765)) 858993459) + (dsAnd (dsUsh ((g2 M1 M2) - (dsAnd (dsUsh (g2 M1 M2) 1) 1431655765)) 2) 858993459)) 4)) 252645135) 8)) ∧ ((dsAnd (((dsAnd ((g2 M1 M2) - (dsAnd (dsUsh (g2 M1 M2) 1) 1431655765)) 858993459) + (dsAnd (dsUsh ((g2 M1 M2) - (dsAnd (dsUsh (g2 M1 M2) 1) 1431655765)) 2) 858993459)) + (dsUsh ((dsAnd ((g2 M1 M2) - (dsAnd (dsUsh (g2 M1 M2) 1) 1431655765)) 858993459) + (dsAnd (dsUsh ((g2 M1 M2) - (dsAnd (dsUsh (g2 M1 M2) 1) 1431655765)) 2) 858993459)) 4)) 252645135) + (dsUsh (dsAnd (((dsAnd ((g2 M1 M2) - (dsAnd (dsUsh (g2 M1 M2) 1) 1431655765)) 858993459) + (dsAnd (dsUsh ((g2 M1 M2) - (dsAnd (dsUsh (g2 M1 M2) 1) 1431655765)) 2) 858993459)) + (dsUsh ((dsAnd ((g2 M1 M2) - (dsAnd (dsUsh (g2 M1 M2) 1) 1431655765)) 858993459) + (dsAnd (dsUsh ((g2 M1 M2) - (dsAnd (dsUsh (g2 M1 M2) 1) 1431655765)) 2) 858993459)) 4)) 252645135) 8)) < 2147483648 := by intros; omega) (s5 : (¬ (M 30 0) ≤ x3) → ∀ M1 : dsMem, R1 M1 → ∀ M2 : dsMem, R2 M1 M2 → -2147483648 ≤ (((dsAnd (((dsAnd ((g2 M1 M2) - (dsAnd (dsUsh (g2 M1 M2) 1) 1431655765)) 858993459) + (dsAnd (dsUsh ((g2 M1 M2) - (dsAnd (dsUsh (g2 M1 M2) 1) 1431655765)) 2) 858993459)) + (dsUsh ((dsAnd ((g2 M1 M2) - (dsAnd (dsUsh (g2 M1 M2) 1) 1431655765)) 858993459) + (dsAnd (dsUsh ((g2 M1 M2) - (dsAnd (dsUsh (g2 M1 M2) 1) 1431655765)) 2) 858993459)) 4)) 252645135) + (dsUsh (dsAnd (((dsAnd ((g2 M1 M2) - (dsAnd (dsUsh (g2 M1 M2) 1) 1431655765)) 858993459) + (dsAnd (dsUsh ((g2 M1 M2) - (dsAnd (dsUsh (g2 M1 M2) 1) 1431655765)) 2) 858993459)) + (dsUsh ((dsAnd ((g2 M1 M2) - (dsAnd (dsUsh (g2 M1 M2) 1) 1431655765)) 858993459) + (dsAnd (dsUsh ((g2 M1 M2) - (dsAnd (dsUsh (g2 M1 M2) 1) 1431655765)) 2) 858993459)) 4)) 252645135) 8)) + (dsUsh ((dsAnd (((dsAnd ((g2 M1 M2) - (dsAnd (dsUsh (g2 M1 M2) 1) 1431655765)) 858993459) + (dsAnd (dsUsh ((g2 M1 M2) - (dsAnd (dsUsh (g2 M1 M2) 1) 1431655765)) 2) 858993459)) + (dsUsh ((dsAnd ((g2 M1 M2) - (dsAnd (dsUsh (g2 M1 M2) 1) 1431655765)) 858993459) + (dsAnd (dsUsh ((g2 M1 M2) - (dsAnd (dsUsh (g2 M1 M2) 1) 1431655765)) 2) 858993459)) 4)) 252645135) + (dsUsh (dsAnd (((dsAnd ((g2 M1 M2) - (dsAnd (dsUsh (g2 M1 M2) 1) 1431655765)) 858993459) + (dsAnd (dsUsh ((g2 M1 M2) - (dsAnd (dsUsh (g2 M1 M2) 1) 1431655765)) 2) 858993459)) + (dsUsh ((dsAnd ((g2 M1 M2) - (dsAnd (dsUsh (g2 M1 M2) 1) 1431655765)) 858993459) + (dsAnd (dsUsh ((g2 M1 M2) - (dsAnd (dsUsh (g2 M1 M2) 1) 1431655765)) 2) 858993459)) 4)) 252645135) 8)) 16)) ∧ (((dsAnd (((dsAnd ((g2 M1 M2) - (dsAnd (dsUsh (g2 M1 M2) 1) 1431655765)) 858993459) + (dsAnd (dsUsh ((g2 M1 M2) - (dsAnd (dsUsh (g2 M1 M2) 1) 1431655765)) 2) 858993459)) + (dsUsh ((dsAnd ((g2 M1 M2) - (dsAnd (dsUsh (g2 M1 M2) 1) 1431655765)) 858993459) + (dsAnd (dsUsh ((g2 M1 M2) - (dsAnd (dsUsh (g2 M1 M2) 1) 1431655765)) 2) 858993459)) 4)) 252645135) + (dsUsh (dsAnd (((dsAnd ((g2 M1 M2) - (dsAnd (dsUsh (g2 M1 M2) 1) 1431655765)) 858993459) + (dsAnd (dsUsh ((g2 M1 M2) - (dsAnd (dsUsh (g2 M1 M2) 1) 1431655765)) 2) 858993459)) + (dsUsh ((dsAnd ((g2 M1 M2) - (dsAnd (dsUsh (g2 M1 M2) 1) 1431655765)) 858993459) + (dsAnd (dsUsh ((g2 M1 M2) - (dsAnd (dsUsh (g2 M1 M2) 1) 1431655765)) 2) 858993459)) 4)) 252645135) 8)) + (dsUsh ((dsAnd (((dsAnd ((g2 M1 M2) - (dsAnd (dsUsh (g2 M1 M2) 1) 1431655765)) 858993459) + (dsAnd (dsUsh ((g2 M1 M2) - (dsAnd (dsUsh (g2 M1 M2) 1) 1431655765)) 2) 858993459)) + (dsUsh ((dsAnd ((g2 M1 M2) - (dsAnd (dsUsh (g2 M1 M2) 1) 1431655765)) 858993459) + (dsAnd (dsUsh ((g2 M1 M2) - (dsAnd (dsUsh (g2 M1 M2) 1) 1431655765)) 2) 858993459)) 4)) 252645135) + (dsUsh (dsAnd (((dsAnd ((g2 M1 M2) - (dsAnd (dsUsh (g2 M1 M2) 1) 1431655765)) 858993459) + (dsAnd (dsUsh ((g2 M1 M2) - (dsAnd (dsUsh (g2 M1 M2) 1) 1431655765)) 2) 858993459)) + (dsUsh ((dsAnd ((g2 M1 M2) - (dsAnd (dsUsh (g2 M1 M2) 1) 1431655765)) 858993459) + (dsAnd (dsUsh ((g2 M1 M2) - (dsAnd (dsUsh (g2 M1 M2) 1) 1431655765)) 2) 858993459)) 4)) 252645135) 8)) 16)) < 2147483648 := by intros; omega) (s6 : (¬ (M 30 0) ≤ x3) → ∀ M1 : dsMem, R1 M1 → ∀ M2 : dsMem, R2 M1 M2 → ((v333 M2 (g2 M1 M2)) ≤ x2) → -2147483648 ≤ x3 + 1 ∧ x3 + 1 < 2147483648 := by intros; omega) (k2 : (¬ (M 30 0) ≤ x3) → ∀ M1 : dsMem, R1 M1 → ∀ M2 : dsMem, R2 M1 M2 → ((v333 M2 (g2 M1 M2)) ≤ x2) → bB 113 33 [uR 10 0, uI x1, uI x2, uI (x3 + 1), uX 0, uX 0] [] M2 Q) (s7 : (¬ (M 30 0) ≤ x3) → ∀ M1 : dsMem, R1 M1 → ∀ M2 : dsMem, R2 M1 M2 → (¬ (v333 M2 (g2 M1 M2)) ≤ x2) → -2147483648 ≤ x3 + 1 ∧ x3 + 1 < 2147483648 := by intros; omega) (k3 : (¬ (M 30 0) ≤ x3) → ∀ M1 : dsMem, R1 M1 → ∀ M2 : dsMem, R2 M1 M2 → (¬ (v333 M2 (g2 M1 M2)) ≤ x2) → bB 113 33 [uR 10 0, uI x3, uI (v333 M2 (g2 M1 M2)), uI (x3 + 1), uX 0, uX 0] [] M2 Q) :
    bB 113 33 [uR 10 0, uI x1, uI x2, uI x3, uX 0, uX 0] [] M Q := by
  refine b_iload_n (d113 (j := 18) rfl) rfl ?_
  refine b_aload_n (d113 (j := 19) rfl) rfl ?_
  refine b_getR (d113 (j := 20) rfl) rfl rfl rfl rfl ?_
  refine b_stk [uR 4 24, uI x3] rfl ?_
  refine b_getR (d113 (j := 21) rfl) rfl rfl rfl rfl ?_
  refine b_stk [uR 1 30, uI x3] rfl ?_
  refine b_getI (d113 (j := 22) rfl) rfl rfl rfl rfl (Or.inl rfl) ?_
  refine b_stk [uI (M 30 0), uI x3] rfl ?_
  refine b_icmp_ge (d113 (j := 23) rfl) (fun c1 => ?_) (fun c1 => ?_)
  ·
    refine b_iload_n (d113 (j := 47) rfl) rfl ?_
    exact b_iret (d113 (j := 48) rfl) rfl (k1 c1)
  ·
    refine b_aload_n (d113 (j := 24) rfl) rfl ?_
    refine b_callV (d113 (j := 25) rfl) rfl rfl (Or.inl rfl) rfl (bCk_mk (n := 0) (k := 1) (by decide +kernel) rfl rfl) ((hA1 c1) _ (fun M1 hR1 => ?_))
    refine b_stk [uR 0 63] rfl ?_
    refine b_astore [uR 10 0, uI x1, uI x2, uI x3, uR 0 63, uX 0] (d113 (j := 26) rfl) (by decide) rfl ?_
    refine b_aload (d113 (j := 27) rfl) rfl ?_
    refine b_iconst (d113 (j := 28) rfl) (by decide) ?_
    refine b_iload_n (d113 (j := 29) rfl) rfl ?_
    refine b_ishl (d113 (j := 30) rfl) ?_
    refine b_iconst (d113 (j := 31) rfl) (by decide) ?_
    refine b_ixor (d113 (j := 32) rfl) ?_
    refine b_putI (d113 (j := 33) rfl) rfl ⟨rfl, rfl⟩ rfl rfl ?_
    refine b_aload_n (d113 (j := 34) rfl) rfl ?_
    refine b_callV (d113 (j := 35) rfl) rfl rfl (Or.inl rfl) rfl (bCk_mk (n := 0) (k := 1) (by decide +kernel) rfl rfl) ((hA2 c1 M1 hR1) _ (fun M2 hR2 => ?_))
    refine b_stk [uI (g2 M1 M2)] rfl ?_
    refine b_callS (d113 (j := 36) rfl) (Or.inl rfl) rfl (bCk_mk (n := 0) (k := 1) (by decide +kernel) rfl rfl) (fx333 (s1 c1 M1 hR1 M2 hR2) (s2 c1 M1 hR1 M2 hR2) (s3 c1 M1 hR1 M2 hR2) (s4 c1 M1 hR1 M2 hR2) (s5 c1 M1 hR1 M2 hR2) ?_)
    refine b_stk [uI (v333 M2 (g2 M1 M2))] rfl ?_
    refine b_istore [uR 10 0, uI x1, uI x2, uI x3, uR 0 63, uI (v333 M2 (g2 M1 M2))] (d113 (j := 37) rfl) (by decide) rfl ?_
    refine b_iload (d113 (j := 38) rfl) rfl ?_
    refine b_iload_n (d113 (j := 39) rfl) rfl ?_
    refine b_icmp_le (d113 (j := 40) rfl) (fun c2 => ?_) (fun c2 => ?_)
    ·
      refine b_iinc [uR 10 0, uI x1, uI x2, uI (x3 + 1), uR 0 63, uI (v333 M2 (g2 M1 M2))] (d113 (j := 45) rfl) rfl (by decide) (s6 c1 M1 hR1 M2 hR2 c2) rfl ?_
      refine b_goto (d113 (j := 46) rfl) ?_
      exact bB_le _ (bLe_s (bLe_s (bLe_s (bLe_s (bLe_x (bLe_x bLe_nil)))))) (k2 c1 M1 hR1 M2 hR2 c2)
    ·
      refine b_iload_n (d113 (j := 41) rfl) rfl ?_
      refine b_istore_n [uR 10 0, uI x3, uI x2, uI x3, uR 0 63, uI (v333 M2 (g2 M1 M2))] (d113 (j := 42) rfl) (by decide) rfl ?_
      refine b_iload (d113 (j := 43) rfl) rfl ?_
      refine b_istore_n [uR 10 0, uI x3, uI (v333 M2 (g2 M1 M2)), uI x3, uR 0 63, uI (v333 M2 (g2 M1 M2))] (d113 (j := 44) rfl) (by decide) rfl ?_
      refine b_iinc [uR 10 0, uI x3, uI (v333 M2 (g2 M1 M2)), uI (x3 + 1), uR 0 63, uI (v333 M2 (g2 M1 M2))] (d113 (j := 45) rfl) rfl (by decide) (s7 c1 M1 hR1 M2 hR2 c2) rfl ?_
      refine b_goto (d113 (j := 46) rfl) ?_
      exact bB_le _ (bLe_s (bLe_s (bLe_s (bLe_s (bLe_x (bLe_x bLe_nil)))))) (k3 c1 M1 hR1 M2 hR2 c2)
def L114 : List (Nat × Instr × Nat × Nat) := [(0, .aload_n 0, 1, 0), (1, .invokevirtual 179, 4, 0), (4, .ifCond .ne 6, 7, 10), (7, .bipush (-2), 9, 0), (9, .ireturn, 10, 0), (10, .iconst (-1), 11, 0), (11, .istore_n 1, 12, 0), (12, .aload_n 0, 13, 0), (13, .invokevirtual 149, 16, 0), (16, .getfield 189, 19, 0), (19, .aload_n 0, 20, 0), (20, .getfield 23, 23, 0), (23, .getfield 186, 26, 0), (26, .iaload, 27, 0), (27, .invokestatic 247, 30, 0), (30, .istore_n 2, 31, 0), (31, .iconst 0, 32, 0), (32, .istore_n 3, 33, 0), (33, .iload_n 3, 34, 0), (34, .aload_n 0, 35, 0), (35, .getfield 23, 38, 0), (38, .getfield 264, 41, 0), (41, .getfield 130, 44, 0), (44, .if_icmp .ge 45, 47, 89), (47, .aload_n 0, 48, 0), (48, .invokevirtual 252, 51, 0), (51, .astore 4, 53, 0), (53, .aload 4, 55, 0), (55, .iconst 1, 56, 0), (56, .iload_n 3, 57, 0), (57, .ishl, 58, 0), (58, .iconst (-1), 59, 0), (59, .ixor, 60, 0), (60, .putfield 267, 63, 0), (63, .aload_n 0, 64, 0), (64, .invokevirtual 261, 67, 0), (67, .invokestatic 247, 70, 0), (70, .istore 5, 72, 0), (72, .iload 5, 74, 0), (74, .iload_n 2, 75, 0), (75, .if_icmp .ge 8, 78, 83), (78, .iload_n 3, 79, 0), (79, .istore_n 1, 80, 0), (80, .iload 5, 82, 0), (82, .istore_n 2, 83, 0), (83, .iinc 3 1, 86, 0), (86, .goto (-53), 89, 33), (89, .iload_n 1, 90, 0), (90, .ireturn, 91, 0)]
set_option maxRecDepth 100000 in
theorem L114_ok : L114.all (dck 114) = true := by decide +kernel
theorem d114 {j pc nx tg : Nat} {ins : Instr} (hj : L114[j]? = some (pc, ins, nx, tg)) : dcd 114 pc ins nx tg := dcl_ok L114_ok hj
set_option maxRecDepth 100000 in
set_option maxHeartbeats 4000000 in
theorem r114_0  {R1 : dsMem → Prop} {M : dsMem} {Q : bQT} (hA1 : ((0 < (M 24 0))) → bCt 157 [uR 10 0] M (fun _ => [uR 5 47]) R1) (s1 : ((0 < (M 24 0))) → ∀ M1 : dsMem, R1 M1 → 0 ≤ (M1 24 1) ∧ (M1 24 1) < 13 := by intros; omega) (s2 : ((0 < (M 24 0))) → ∀ M1 : dsMem, R1 M1 → -2147483648 ≤ ((M1 54 (M1 24 1)) - (dsAnd (dsUsh (M1 54 (M1 24 1)) 1) 1431655765)) ∧ ((M1 54 (M1 24 1)) - (dsAnd (dsUsh (M1 54 (M1 24 1)) 1) 1431655765)) < 2147483648 := by intros; omega) (s3 : ((0 < (M 24 0))) → ∀ M1 : dsMem, R1 M1 → -2147483648 ≤ ((dsAnd ((M1 54 (M1 24 1)) - (dsAnd (dsUsh (M1 54 (M1 24 1)) 1) 1431655765)) 858993459) + (dsAnd (dsUsh ((M1 54 (M1 24 1)) - (dsAnd (dsUsh (M1 54 (M1 24 1)) 1) 1431655765)) 2) 858993459)) ∧ ((dsAnd ((M1 54 (M1 24 1)) - (dsAnd (dsUsh (M1 54 (M1 24 1)) 1) 1431655765)) 858993459) + (dsAnd (dsUsh ((M1 54 (M1 24 1)) - (dsAnd (dsUsh (M1 54 (M1 24 1)) 1) 1431655765)) 2) 858993459)) < 2147483648 := by intros; omega) (s4 : ((0 < (M 24 0))) → ∀ M1 : dsMem, R1 M1 → -2147483648 ≤ (((dsAnd ((M1 54 (M1 24 1)) - (dsAnd (dsUsh (M1 54 (M1 24 1)) 1) 1431655765)) 858993459) + (dsAnd (dsUsh ((M1 54 (M1 24 1)) - (dsAnd (dsUsh (M1 54 (M1 24 1)) 1) 1431655765)) 2) 858993459)) + (dsUsh ((dsAnd ((M1 54 (M1 24 1)) - (dsAnd (dsUsh (M1 54 (M1 24 1)) 1) 1431655765)) 858993459) + (dsAnd (dsUsh ((M1 54 (M1 24 1)) - (dsAnd (dsUsh (M1 54 (M1 24 1)) 1) 1431655765)) 2) 858993459)) 4)) ∧ (((dsAnd ((M1 54 (M1 24 1)) - (dsAnd (dsUsh (M1 54 (M1 24 1)) 1) 1431655765)) 858993459) + (dsAnd (dsUsh ((M1 54 (M1 24 1)) - (dsAnd (dsUsh (M1 54 (M1 24 1)) 1) 1431655765)) 2) 858993459)) + (dsUsh ((dsAnd ((M1 54 (M1 24 1)) - (dsAnd (dsUsh (M1 54 (M1 24 1)) 1) 1431655765)) 858993459) + (dsAnd (dsUsh ((M1 54 (M1 24 1)) - (dsAnd (dsUsh (M1 54 (M1 24 1)) 1) 1431655765)) 2) 858993459)) 4)) < 2147483648 := by intros; omega) (s5 : ((0 < (M 24 0))) → ∀ M1 : dsMem, R1 M1 → -2147483648 ≤ ((dsAnd (((dsAnd ((M1 54 (M1 24 1)) - (dsAnd (dsUsh (M1 54 (M1 24 1)) 1) 1431655765)) 858993459) + (dsAnd (dsUsh ((M1 54 (M1 24 1)) - (dsAnd (dsUsh (M1 54 (M1 24 1)) 1) 1431655765)) 2) 858993459)) + (dsUsh ((dsAnd ((M1 54 (M1 24 1)) - (dsAnd (dsUsh (M1 54 (M1 24 1)) 1) 1431655765)) 858993459) + (dsAnd (dsUsh ((M1 54 (M1 24 1)) - (dsAnd (dsUsh (M1 54 (M1 24 1)) 1) 1431655765)) 2) 858993459)) 4)) 252645135) + (dsUsh (dsAnd (((dsAnd ((M1 54 (M1 24 1)) - (dsAnd (dsUsh (M1 54 (M1 24 1)) 1) 1431655765)) 858993459) + (dsAnd (dsUsh ((M1 54 (M1 24 1)) - (dsAnd (dsUsh (M1 54 (M1 24 1)) 1) 1431655765)) 2) 858993459)) + (dsUsh ((dsAnd ((M1 54 (M1 24 1)) - (dsAnd (dsUsh (M1 54 (M1 24 1)) 1) 1431655765)) 858993459) + (dsAnd (dsUsh ((M1 54 (M1 24 1)) - (dsAnd (dsUsh (M1 54 (M1 24 1)) 1) 1431655765)) 2) 858993459)) 4)) 252645135) 8)) ∧ ((dsAnd (((dsAnd ((M1 54 (M1 24 1)) - (dsAnd (dsUsh (M1 54 (M1 24 1)) 1) 1431655765)) 858993459) + (dsAnd (dsUsh ((M1 54 (M1 24 1)) - (dsAnd (dsUsh (M1 54 (M1 24 1)) 1) 1431655765)) 2) 858993459)) + (dsUsh ((dsAnd ((M1 54 (M1 24 1)) - (dsAnd (dsUsh (M1 54 (M1 24 1)) 1) 1431655765)) 858993459) + (dsAnd (dsUsh ((M1 54 (M1 24 1)) - (dsAnd (dsUsh (M1 54 (M1 24 1)) 1) 1431655765)) 2) 858993459)) 4)) 252645135) + (dsUsh (dsAnd (((dsAnd ((M1 54 (M1 24 1)) - (dsAnd (dsUsh (M1 54 (M1 24 1)) 1) 1431655765)) 858993459) + (dsAnd (dsUsh ((M1 54 (M1 24 1)) - (dsAnd (dsUsh (M1 54 (M1 24 1)) 1) 1431655765)) 2) 858993459)) + (dsUsh ((dsAnd ((M1 54 (M1 24 1)) - (dsAnd (dsUsh (M1 54 (M1 24 1)) 1) 1431655765)) 858993459) + (dsAnd (dsUsh ((M1 54 (M1 24 1)) - (dsAnd (dsUsh (M1 54 (M1 24 1)) 1) 1431655765)) 2) 858993459)) 4)) 252645135) 8)) < 2147483648 := by intros; omega) (s6 : ((0 < (M 24 0))) → ∀ M1 : dsMem, R1 M1 → -2147483648 ≤ (((dsAnd (((dsAnd ((M1 54 (M1 24 1)) - (dsAnd (dsUsh (M1 54 (M1 24 1)) 1) 1431655765)) 858993459) + (dsAnd (dsUsh ((M1 54 (M1 24 1)) - (dsAnd (dsUsh (M1 54 (M1 24 1)) 1) 1431655765)) 2) 858993459)) + (dsUsh ((dsAnd ((M1 54 (M1 24 1)) - (dsAnd (dsUsh (M1 54 (M1 24 1)) 1) 1431655765)) 858993459) + (dsAnd (dsUsh ((M1 54 (M1 24 1)) - (dsAnd (dsUsh (M1 54 (M1 24 1)) 1) 1431655765)) 2) 858993459)) 4)) 252645135) + (dsUsh (dsAnd (((dsAnd ((M1 54 (M1 24 1)) - (dsAnd (dsUsh (M1 54 (M1 24 1)) 1) 1431655765)) 858993459) + (dsAnd (dsUsh ((M1 54 (M1 24 1)) - (dsAnd (dsUsh (M1 54 (M1 24 1)) 1) 1431655765)) 2) 858993459)) + (dsUsh ((dsAnd ((M1 54 (M1 24 1)) - (dsAnd (dsUsh (M1 54 (M1 24 1)) 1) 1431655765)) 858993459) + (dsAnd (dsUsh ((M1 54 (M1 24 1)) - (dsAnd (dsUsh (M1 54 (M1 24 1)) 1) 1431655765)) 2) 858993459)) 4)) 252645135) 8)) + (dsUsh ((dsAnd (((dsAnd ((M1 54 (M1 24 1)) - (dsAnd (dsUsh (M1 54 (M1 24 1)) 1) 1431655765)) 858993459) + (dsAnd (dsUsh ((M1 54 (M1 24 1)) - (dsAnd (dsUsh (M1 54 (M1 24 1)) 1) 1431655765)) 2) 858993459)) + (dsUsh ((dsAnd ((M1 54 (M1 24 1)) - (dsAnd (dsUsh (M1 54 (M1 24 1)) 1) 1431655765)) 858993459) + (dsAnd (dsUsh ((M1 54 (M1 24 1)) - (dsAnd (dsUsh (M1 54 (M1 24 1)) 1) 1431655765)) 2) 858993459)) 4)) 252645135) + (dsUsh (dsAnd (((dsAnd ((M1 54 (M1 24 1)) - (dsAnd (dsUsh (M1 54 (M1 24 1)) 1) 1431655765)) 858993459) + (dsAnd (dsUsh ((M1 54 (M1 24 1)) - (dsAnd (dsUsh (M1 54 (M1 24 1)) 1) 1431655765)) 2) 858993459)) + (dsUsh ((dsAnd ((M1 54 (M1 24 1)) - (dsAnd (dsUsh (M1 54 (M1 24 1)) 1) 1431655765)) 858993459) + (dsAnd (dsUsh ((M1 54 (M1 24 1)) - (dsAnd (dsUsh (M1 54 (M1 24 1)) 1) 1431655765)) 2) 858993459)) 4)) 252645135) 8)) 16)) ∧ (((dsAnd (((dsAnd ((M1 54 (M1 24 1)) - (dsAnd (dsUsh (M1 54 (M1 24 1)) 1) 1431655765)) 858993459) + (dsAnd (dsUsh ((M1 54 (M1 24 1)) - (dsAnd (dsUsh (M1 54 (M1 24 1)) 1) 1431655765)) 2) 858993459)) + (dsUsh ((dsAnd ((M1 54 (M1 24 1)) - (dsAnd (dsUsh (M1 54 (M1 24 1)) 1) 1431655765)) 858993459) + (dsAnd (dsUsh ((M1 54 (M1 24 1)) - (dsAnd (dsUsh (M1 54 (M1 24 1)) 1) 1431655765)) 2) 858993459)) 4)) 252645135) + (dsUsh (dsAnd (((dsAnd ((M1 54 (M1 24 1)) - (dsAnd (dsUsh (M1 54 (M1 24 1)) 1) 1431655765)) 858993459) + (dsAnd (dsUsh ((M1 54 (M1 24 1)) - (dsAnd (dsUsh (M1 54 (M1 24 1)) 1) 1431655765)) 2) 858993459)) + (dsUsh ((dsAnd ((M1 54 (M1 24 1)) - (dsAnd (dsUsh (M1 54 (M1 24 1)) 1) 1431655765)) 858993459) + (dsAnd (dsUsh ((M1 54 (M1 24 1)) - (dsAnd (dsUsh (M1 54 (M1 24 1)) 1) 1431655765)) 2) 858993459)) 4)) 252645135) 8)) + (dsUsh ((dsAnd (((dsAnd ((M1 54 (M1 24 1)) - (dsAnd (dsUsh (M1 54 (M1 24 1)) 1) 1431655765)) 858993459) + (dsAnd (dsUsh ((M1 54 (M1 24 1)) - (dsAnd (dsUsh (M1 54 (M1 24 1)) 1) 1431655765)) 2) 858993459)) + (dsUsh ((dsAnd ((M1 54 (M1 24 1)) - (dsAnd (dsUsh (M1 54 (M1 24 1)) 1) 1431655765)) 858993459) + (dsAnd (dsUsh ((M1 54 (M1 24 1)) - (dsAnd (dsUsh (M1 54 (M1 24 1)) 1) 1431655765)) 2) 858993459)) 4)) 252645135) + (dsUsh (dsAnd (((dsAnd ((M1 54 (M1 24 1)) - (dsAnd (dsUsh (M1 54 (M1 24 1)) 1) 1431655765)) 858993459) + (dsAnd (dsUsh ((M1 54 (M1 24 1)) - (dsAnd (dsUsh (M1 54 (M1 24 1)) 1) 1431655765)) 2) 858993459)) + (dsUsh ((dsAnd ((M1 54 (M1 24 1)) - (dsAnd (dsUsh (M1 54 (M1 24 1)) 1) 1431655765)) 858993459) + (dsAnd (dsUsh ((M1 54 (M1 24 1)) - (dsAnd (dsUsh (M1 54 (M1 24 1)) 1) 1431655765)) 2) 858993459)) 4)) 252645135) 8)) 16)) < 2147483648 := by intros; omega) (k1 : ((0 < (M 24 0))) → ∀ M1 : dsMem, R1 M1 → bB 114 33 [uR 10 0, uI (-1), uI (v333 M1 (M1 54 (M1 24 1))), uI 0, uX 0, uX 0] [] M1 Q) (k2 : (¬ (0 < (M 24 0))) → Q [uI (-2)] M) :
    bB 114 0 [uR 10 0, uX 0, uX 0, uX 0, uX 0, uX 0] [] M Q := by
  refine b_aload_n (d114 (j := 0) rfl) rfl ?_
  refine b_callV (d114 (j := 1) rfl) rfl rfl (Or.inl rfl) rfl (bCk_mk (n := 0) (k := 1) (by decide +kernel) rfl rfl) (pu149  ?_)
  refine b_stk [uI (if (0 < (M 24 0)) then 1 else 0)] rfl ?_
  refine b_ifneP (d114 (j := 2) rfl) (fun c1 => ?_) (fun c1 => ?_)
  ·
    refine b_iconst (d114 (j := 5) rfl) (by decide) ?_
    refine b_istore_n [uR 10 0, uI (-1), uX 0, uX 0, uX 0, uX 0] (d114 (j := 6) rfl) (by decide) rfl ?_
    refine b_aload_n (d114 (j := 7) rfl) rfl ?_
    refine b_callV (d114 (j := 8) rfl) rfl rfl (Or.inl rfl) rfl (bCk_mk (n := 0) (k := 1) (by decide +kernel) rfl rfl) ((hA1 c1) _ (fun M1 hR1 => ?_))
    refine b_stk [uR 5 47] rfl ?_
    refine b_getR (d114 (j := 9) rfl) rfl rfl rfl rfl ?_
    refine b_stk [uR 27 54] rfl ?_
    refine b_aload_n (d114 (j := 10) rfl) rfl ?_
    refine b_getR (d114 (j := 11) rfl) rfl rfl rfl rfl ?_
    refine b_stk [uR 4 24, uR 27 54] rfl ?_
    refine b_getI (d114 (j := 12) rfl) rfl rfl rfl rfl (Or.inl rfl) ?_
    refine b_stk [uI (M1 24 1), uR 27 54] rfl ?_
    refine b_iaload (d114 (j := 13) rfl) rfl (s1 c1 M1 hR1) ?_
    refine b_callS (d114 (j := 14) rfl) (Or.inl rfl) rfl (bCk_mk (n := 0) (k := 1) (by decide +kernel) rfl rfl) (fx333 (s2 c1 M1 hR1) (s3 c1 M1 hR1) (s4 c1 M1 hR1) (s5 c1 M1 hR1) (s6 c1 M1 hR1) ?_)
    refine b_stk [uI (v333 M1 (M1 54 (M1 24 1)))] rfl ?_
    refine b_istore_n [uR 10 0, uI (-1), uI (v333 M1 (M1 54 (M1 24 1))), uX 0, uX 0, uX 0] (d114 (j := 15) rfl) (by decide) rfl ?_
    refine b_iconst (d114 (j := 16) rfl) (by decide) ?_
    refine b_istore_n [uR 10 0, uI (-1), uI (v333 M1 (M1 54 (M1 24 1))), uI 0, uX 0, uX 0] (d114 (j := 17) rfl) (by decide) rfl ?_
    exact (k1 c1 M1 hR1)
  ·
    refine b_bipush (d114 (j := 3) rfl) (by decide) ?_
    exact b_iret (d114 (j := 4) rfl) rfl (k2 c1)
set_option maxRecDepth 100000 in
set_option maxHeartbeats 4000000 in
theorem r114_33 {x1 x2 x3 : Int} {R1 : dsMem → Prop} {R2 : dsMem → dsMem → Prop} {g2 : dsMem → dsMem → Int} {M : dsMem} {Q : bQT} (k1 : ((M 35 0) ≤ x3) → Q [uI x1] M) (hA1 : (¬ (M 35 0) ≤ x3) → bCt 158 [uR 10 0] M (fun _ => [uR 0 63]) R1) (hA2 : (¬ (M 35 0) ≤ x3) → ∀ M1 : dsMem, R1 M1 → bCt 159 [uR 10 0] (dsSet M1 63 2 (dsXor (dsShl 1 x3) (-1))) (fun M2 => [uI (g2 M1 M2)]) (R2 M1)) (s1 : (¬ (M 35 0) ≤ x3) → ∀ M1 : dsMem, R1 M1 → ∀ M2 : dsMem, R2 M1 M2 → -2147483648 ≤ ((g2 M1 M2) - (dsAnd (dsUsh (g2 M1 M2) 1) 1431655765)) ∧ ((g2 M1 M2) - (dsAnd (dsUsh (g2 M1 M2) 1) 1431655765)) < 2147483648 := by intros; omega) (s2 : (¬ (M 35 0) ≤ x3) → ∀ M1 : dsMem, R1 M1 → ∀ M2 : dsMem, R2 M1 M2 → -2147483648 ≤ ((dsAnd ((g2 M1 M2) - (dsAnd (dsUsh (g2 M1 M2) 1) 1431655765)) 858993459) + (dsAnd (dsUsh ((g2 M1 M2) - (dsAnd (dsUsh (g2 M1 M2) 1) 1431655765)) 2) 858993459)) ∧ ((dsAnd ((g2 M1 M2) - (dsAnd (dsUsh (g2 M1 M2) 1) 1431655765)) 858993459) + (dsAnd (dsUsh ((g2 M1 M2) - (dsAnd (dsUsh (g2 M1 M2) 1) 1431655765)) 2) 858993459)) < 2147483648 := by intros; omega) (s3 : (¬ (M 35 0) ≤ x3) → ∀ M1 : dsMem, R1 M1 → ∀ M2 : dsMem, R2 M1 M2 → -2147483648 ≤ (((dsAnd ((g2 M1 M2) - (dsAnd (dsUsh (g2 M1 M2) 1) 1431655765)) 858993459) + (dsAnd (dsUsh ((g2 M1 M2) - (dsAnd (dsUsh (g2 M1 M2) 1) 1431655765)) 2) 858993459)) + (dsUsh ((dsAnd ((g2 M1 M2) - (dsAnd (dsUsh (g2 M1 M2) 1) 1431655765)) 858993459) + (dsAnd (dsUsh ((g2 M1 M2) - (dsAnd (dsUsh (g2 M1 M2) 1) 1431655765)) 2) 858993459)) 4)) ∧ (((dsAnd ((g2 M1 M2) - (dsAnd (dsUsh (g2 M1 M2) 1) 1431655765)) 858993459) + (dsAnd (dsUsh ((g2 M1 M2) - (dsAnd (dsUsh (g2 M1 M2) 1) 1431655765)) 2) 858993459)) + (dsUsh ((dsAnd ((g2 M1 M2) - (dsAnd (dsUsh (g2 M1 M2) 1) 1431655765)) 858993459) + (dsAnd (dsUsh ((g2 M1 M2) - (dsAnd (dsUsh (g2 M1 M2) 1) 1431655765)) 2) 858993459)) 4)) < 2147483648 := by intros; omega) (s4 : (¬ (M 35 0) ≤ x3) → ∀ M1 : dsMem, R1 M1 → ∀ M2 : dsMem, R2 M1 M2 → -2147483648 ≤ ((dsAnd (((dsAnd ((g2 M1 M2) - (dsAnd (dsUsh (g2 M1 M2) 1) 1431655765)) 858993459) + (dsAnd (dsUsh ((g2 M1 M2) - (dsAnd (dsUsh (g2 M1 M2) 1) 1431655765)) 2) 858993459)) + (dsUsh ((dsAnd ((g2 M1 M2) - (dsAnd (dsUsh (g2 M1 M2) 1) 1431655765)) 858993459) + (dsAnd (dsUsh ((g2 M1 M2) - (dsAnd (dsUsh (g2 M1 M2) 1) 1431655765)) 2) 858993459)) 4)) 252645135) + (dsUsh (dsAnd (((dsAnd ((g2 M1 M2) - (dsAnd (dsUsh (g2 M1 M2) 1) 1431655765)) 858993459) + (dsAnd (dsUsh ((g2 M1 M2) - (dsAnd (dsUsh (g2 M1 M2) 1) 1431655765)) 2) 858993459)) + (dsUsh ((dsAnd ((g2 M1 M2) - (dsAnd (dsUsh (g2 M1 M2) 1) 1431655765)) 858993459) + (dsAnd (dsUsh ((g2 M1 M2) - (dsAnd (dsUsh (g2 M1 M2) 1) 1431655765)) 2) 858993459)) 4)) 252645135) 8)) ∧ ((dsAnd (((dsAnd ((g2 M1 M2) - (dsAnd (dsUsh (g2 M1 M2) 1) 1431655765)) 858993459) + (dsAnd (dsUsh ((g2 M1 M2) - (dsAnd (dsUsh (g2 M1 M2) 1) 1431655765)) 2) 858993459)) + (dsUsh ((dsAnd ((g2 M1 M2) - (dsAnd (dsUsh (g2 M1 M2) 1) 1431655765)) 858993459) + (dsAnd (dsUsh ((g2 M1 M2) - (dsAnd (dsUsh (g2 M1 M2) 1) 1431655765)) 2) 858993459)) 4)) 252645135) + (dsUsh (dsAnd (((dsAnd ((g2 M1 M2) - (dsAnd (dsUsh (g2 M1 M2) 1) 1431655765)) 858993459) + (dsAnd (dsUsh ((g2 M1 M2) - (dsAnd (dsUsh (g2 M1 M2) 1) 1431655765)) 2) 858993459)) + (dsUsh ((dsAnd ((g2 M1 M2) - (dsAnd (dsUsh (g2 M1 M2) 1) 1431655765)) 858993459) + (dsAnd (dsUsh ((g2 M1 M2) - (dsAnd (dsUsh (g2 M1 M2) 1) 1431655765)) 2) 858993459)) 4)) 252645135) 8)) < 2147483648 := by intros; omega) (s5 : (¬ (M 35 0) ≤ x3) → ∀ M1 : dsMem, R1 M1 → ∀ M2 : dsMem, R2 M1 M2 → -2147483648 ≤ (((dsAnd (((dsAnd ((g2 M1 M2) - (dsAnd (dsUsh (g2 M1 M2) 1) 1431655765)) 858993459) + (dsAnd (dsUsh ((g2 M1 M2) - (dsAnd (dsUsh (g2 M1 M2) 1) 1431655765)) 2) 858993459)) + (dsUsh ((dsAnd ((g2 M1 M2) - (dsAnd (dsUsh (g2 M1 M2) 1) 1431655765)) 858993459) + (dsAnd (dsUsh ((g2 M1 M2) - (dsAnd (dsUsh (g2 M1 M2) 1) 1431655765)) 2) 858993459)) 4)) 252645135) + (dsUsh (dsAnd (((dsAnd ((g2 M1 M2) - (dsAnd (dsUsh (g2 M1 M2) 1) 1431655765)) 858993459) + (dsAnd (dsUsh ((g2 M1 M2) - (dsAnd (dsUsh (g2 M1 M2) 1) 1431655765)) 2) 858993459)) + (dsUsh ((dsAnd ((g2 M1 M2) - (dsAnd (dsUsh (g2 M1 M2) 1) 1431655765)) 858993459) + (dsAnd (dsUsh ((g2 M1 M2) - (dsAnd (dsUsh (g2 M1 M2) 1) 1431655765)) 2) 858993459)) 4)) 252645135) 8)) + (dsUsh ((dsAnd (((dsAnd ((g2 M1 M2) - (dsAnd (dsUsh (g2 M1 M2) 1) 1431655765)) 858993459) + (dsAnd (dsUsh ((g2 M1 M2) - (dsAnd (dsUsh (g2 M1 M2) 1) 1431655765)) 2) 858993459)) + (dsUsh ((dsAnd ((g2 M1 M2) - (dsAnd (dsUsh (g2 M1 M2) 1) 1431655765)) 858993459) + (dsAnd (dsUsh ((g2 M1 M2) - (dsAnd (dsUsh (g2 M1 M2) 1) 1431655765)) 2) 858993459)) 4)) 252645135) + (dsUsh (dsAnd (((dsAnd ((g2 M1 M2) - (dsAnd (dsUsh (g2 M1 M2) 1) 1431655765)) 858993459) + (dsAnd (dsUsh ((g2 M1 M2) - (dsAnd (dsUsh (g2 M1 M2) 1) 1431655765)) 2) 858993459)) + (dsUsh ((dsAnd ((g2 M1 M2) - (dsAnd (dsUsh (g2 M1 M2) 1) 1431655765)) 858993459) + (dsAnd (dsUsh ((g2 M1 M2) - (dsAnd (dsUsh (g2 M1 M2) 1) 1431655765)) 2) 858993459)) 4)) 252645135) 8)) 16)) ∧ (((dsAnd (((dsAnd ((g2 M1 M2) - (dsAnd (dsUsh (g2 M1 M2) 1) 1431655765)) 858993459) + (dsAnd (dsUsh ((g2 M1 M2) - (dsAnd (dsUsh (g2 M1 M2) 1) 1431655765)) 2) 858993459)) + (dsUsh ((dsAnd ((g2 M1 M2) - (dsAnd (dsUsh (g2 M1 M2) 1) 1431655765)) 858993459) + (dsAnd (dsUsh ((g2 M1 M2) - (dsAnd (dsUsh (g2 M1 M2) 1) 1431655765)) 2) 858993459)) 4)) 252645135) + (dsUsh (dsAnd (((dsAnd ((g2 M1 M2) - (dsAnd (dsUsh (g2 M1 M2) 1) 1431655765)) 858993459) + (dsAnd (dsUsh ((g2 M1 M2) - (dsAnd (dsUsh (g2 M1 M2) 1) 1431655765)) 2) 858993459)) + (dsUsh ((dsAnd ((g2 M1 M2) - (dsAnd (dsUsh (g2 M1 M2) 1) 1431655765)) 858993459) + (dsAnd (dsUsh ((g2 M1 M2) - (dsAnd (dsUsh (g2 M1 M2) 1) 1431655765)) 2) 858993459)) 4)) 252645135) 8)) + (dsUsh ((dsAnd (((dsAnd ((g2 M1 M2) - (dsAnd (dsUsh (g2 M1 M2) 1) 1431655765)) 858993459) + (dsAnd (dsUsh ((g2 M1 M2) - (dsAnd (dsUsh (g2 M1 M2) 1) 1431655765)) 2) 858993459)) + (dsUsh ((dsAnd ((g2 M1 M2) - (dsAnd (dsUsh (g2 M1 M2) 1) 1431655765)) 858993459) + (dsAnd (dsUsh ((g2 M1 M2) - (dsAnd (dsUsh (g2 M1 M2) 1) 1431655765)) 2) 858993459)) 4)) 252645135) + (dsUsh (dsAnd (((dsAnd ((g2 M1 M2) - (dsAnd (dsUsh (g2 M1 M2) 1) 1431655765)) 858993459) + (dsAnd (dsUsh ((g2 M1 M2) - (dsAnd (dsUsh (g2 M1 M2) 1) 1431655765)) 2) 858993459)) + (dsUsh ((dsAnd ((g2 M1 M2) - (dsAnd (dsUsh (g2 M1 M2) 1) 1431655765)) 858993459) + (dsAnd (dsUsh ((g2 M1 M2) - (dsAnd (dsUsh (g2 M1 M2) 1) 1431655765)) 2) 858993459)) 4)) 252645135) 8)) 16)) < 2147483648 := by intros; omega) (s6 : (¬ (M 35 0) ≤ x3) → ∀ M1 : dsMem, R1 M1 → ∀ M2 : dsMem, R2 M1 M2 → (x2 ≤ (v333 M2 (g2 M1 M2))) → -2147483648 ≤ x3 + 1 ∧ x3 + 1 < 2147483648 := by intros; omega) (k2 : (¬ (M 35 0) ≤ x3) → ∀ M1 : dsMem, R1 M1 → ∀ M2 : dsMem, R2 M1 M2 → (x2 ≤ (v333 M2 (g2 M1 M2))) → bB 114 33 [uR 10 0, uI x1, uI x2, uI (x3 + 1), uX 0, uX 0] [] M2 Q) (s7 : (¬ (M 35 0) ≤ x3) → ∀ M1 : dsMem, R1 M1 → ∀ M2 : dsMem, R2 M1 M2 → (¬ x2 ≤ (v333 M2 (g2 M1 M2))) → -2147483648 ≤ x3 + 1 ∧ x3 + 1 < 2147483648 := by intros; omega) (k3 : (¬ (M 35 0) ≤ x3) → ∀ M1 : dsMem, R1 M1 → ∀ M2 : dsMem, R2 M1 M2 → (¬ x2 ≤ (v333 M2 (g2 M1 M2))) → bB 114 33 [uR 10 0, uI x3, uI (v333 M2 (g2 M1 M2)), uI (x3 + 1), uX 0, uX 0] [] M2 Q) :
    bB 114 33 [uR 10 0, uI x1, uI x2, uI x3, uX 0, uX 0] [] M Q := by
  refine b_iload_n (d114 (j := 18) rfl) rfl ?_
  refine b_aload_n (d114 (j := 19) rfl) rfl ?_
  refine b_getR (d114 (j := 20) rfl) rfl rfl rfl rfl ?_
  refine b_stk [uR 4 24, uI x3] rfl ?_
  refine b_getR (d114 (j := 21) rfl) rfl rfl rfl rfl ?_
  refine b_stk [uR 2 35, uI x3] rfl ?_
  refine b_getI (d114 (j := 22) rfl) rfl rfl rfl rfl (Or.inl rfl) ?_
  refine b_stk [uI (M 35 0), uI x3] rfl ?_
  refine b_icmp_ge (d114 (j := 23) rfl) (fun c1 => ?_) (fun c1 => ?_)
  ·
    refine b_iload_n (d114 (j := 47) rfl) rfl ?_
    exact b_iret (d114 (j := 48) rfl) rfl (k1 c1)
  ·
    refine b_aload_n (d114 (j := 24) rfl) rfl ?_
    refine b_callV (d114 (j := 25) rfl) rfl rfl (Or.inl rfl) rfl (bCk_mk (n := 0) (k := 1) (by decide +kernel) rfl rfl) ((hA1 c1) _ (fun M1 hR1 => ?_))
    refine b_stk [uR 0 63] rfl ?_
    refine b_astore [uR 10 0, uI x1, uI x2, uI x3, uR 0 63, uX 0] (d114 (j := 26) rfl) (by decide) rfl ?_
    refine b_aload (d114 (j := 27) rfl) rfl ?_
    refine b_iconst (d114 (j := 28) rfl) (by decide) ?_
    refine b_iload_n (d114 (j := 29) rfl) rfl ?_
    refine b_ishl (d114 (j := 30) rfl) ?_
    refine b_iconst (d114 (j := 31) rfl) (by decide) ?_
    refine b_ixor (d114 (j := 32) rfl) ?_
    refine b_putI (d114 (j := 33) rfl) rfl ⟨rfl, rfl⟩ rfl rfl ?_
    refine b_aload_n (d114 (j := 34) rfl) rfl ?_
    refine b_callV (d114 (j := 35) rfl) rfl rfl (Or.inl rfl) rfl (bCk_mk (n := 0) (k := 1) (by decide +kernel) rfl rfl) ((hA2 c1 M1 hR1) _ (fun M2 hR2 => ?_))
    refine b_stk [uI (g2 M1 M2)] rfl ?_
    refine b_callS (d114 (j := 36) rfl) (Or.inl rfl) rfl (bCk_mk (n := 0) (k := 1) (by decide +kernel) rfl rfl) (fx333 (s1 c1 M1 hR1 M2 hR2) (s2 c1 M1 hR1 M2 hR2) (s3 c1 M1 hR1 M2 hR2) (s4 c1 M1 hR1 M2 hR2) (s5 c1 M1 hR1 M2 hR2) ?_)
    refine b_stk [uI (v333 M2 (g2 M1 M2))] rfl ?_
    refine b_istore [uR 10 0, uI x1, uI x2, uI x3, uR 0 63, uI (v333 M2 (g2 M1 M2))] (d114 (j := 37) rfl) (by decide) rfl ?_
    refine b_iload (d114 (j := 38) rfl) rfl ?_
    refine b_iload_n (d114 (j := 39) rfl) rfl ?_
    refine b_icmp_ge (d114 (j := 40) rfl) (fun c2 => ?_) (fun c2 => ?_)
    ·
      refine b_iinc [uR 10 0, uI x1, uI x2, uI (x3 + 1), uR 0 63, uI (v333 M2 (g2 M1 M2))] (d114 (j := 45) rfl) rfl (by decide) (s6 c1 M1 hR1 M2 hR2 c2) rfl ?_
      refine b_goto (d114 (j := 46) rfl) ?_
      exact bB_le _ (bLe_s (bLe_s (bLe_s (bLe_s (bLe_x (bLe_x bLe_nil)))))) (k2 c1 M1 hR1 M2 hR2 c2)
    ·
      refine b_iload_n (d114 (j := 41) rfl) rfl ?_
      refine b_istore_n [uR 10 0, uI x3, uI x2, uI x3, uR 0 63, uI (v333 M2 (g2 M1 M2))] (d114 (j := 42) rfl) (by decide) rfl ?_
      refine b_iload (d114 (j := 43) rfl) rfl ?_
      refine b_istore_n [uR 10 0, uI x3, uI (v333 M2 (g2 M1 M2)), uI x3, uR 0 63, uI (v333 M2 (g2 M1 M2))] (d114 (j := 44) rfl) (by decide) rfl ?_
      refine b_iinc [uR 10 0, uI x3, uI (v333 M2 (g2 M1 M2)), uI (x3 + 1), uR 0 63, uI (v333 M2 (g2 M1 M2))] (d114 (j := 45) rfl) rfl (by decide) (s7 c1 M1 hR1 M2 hR2 c2) rfl ?_
      refine b_goto (d114 (j := 46) rfl) ?_
      exact bB_le _ (bLe_s (bLe_s (bLe_s (bLe_s (bLe_x (bLe_x bLe_nil)))))) (k3 c1 M1 hR1 M2 hR2 c2)
def L115 : List (Nat × Instr × Nat × Nat) := [(0, .aload_n 0, 1, 0), (1, .iload_n 1, 2, 0), (2, .invokevirtual 100, 5, 0), (5, .ifCond .ne 6, 8, 11), (8, .bipush (-2), 10, 0), (10, .ireturn, 11, 0), (11, .iconst 0, 12, 0), (12, .istore_n 2, 13, 0), (13, .sipush 301, 16, 0), (16, .istore_n 3, 17, 0), (17, .iconst 0, 18, 0), (18, .istore 4, 20, 0), (20, .iload 4, 22, 0), (22, .bipush 10, 24, 0), (24, .if_icmp .ge 62, 27, 86), (27, .iload_n 2, 28, 0), (28, .iload_n 3, 29, 0), (29, .if_icmp .ge 57, 32, 86), (32, .iload_n 2, 33, 0), (33, .iload_n 3, 34, 0), (34, .iadd, 35, 0), (35, .iconst 2, 36, 0), (36, .idiv, 37, 0), (37, .istore 5, 39, 0), (39, .aload_n 0, 40, 0), (40, .invokevirtual 252, 43, 0), (43, .astore 6, 45, 0), (45, .aload 6, 47, 0), (47, .iload_n 1, 48, 0), (48, .putfield 270, 51, 0), (51, .aload 6, 53, 0), (53, .iload 5, 55, 0), (55, .putfield 273, 58, 0), (58, .aload_n 0, 59, 0), (59, .invokevirtual 261, 62, 0), (62, .iload_n 1, 63, 0), (63, .invokestatic 219, 66, 0), (66, .ifCond .eq 9, 69, 75), (69, .iload 5, 71, 0), (71, .istore_n 3, 72, 0), (72, .goto 8, 75, 80), (75, .iload 5, 77, 0), (77, .iconst 1, 78, 0), (78, .iadd, 79, 0), (79, .istore_n 2, 80, 0), (80, .iinc 4 1, 83, 0), (83, .goto (-63), 86, 20), (86, .iload_n 2, 87, 0), (87, .sipush 300, 90, 0), (90, .if_icmp .le 7, 93, 97), (93, .iconst (-1), 94, 0), (94, .goto 4, 97, 98), (97, .iload_n 2, 98, 0), (98, .ireturn, 99, 0)]
set_option maxRecDepth 100000 in
theorem L115_ok : L115.all (dck 115) = true := by decide +kernel
theorem d115 {j pc nx tg : Nat} {ins : Instr} (hj : L115[j]? = some (pc, ins, nx, tg)) : dcd 115 pc ins nx tg := dcl_ok L115_ok hj
set_option maxRecDepth 100000 in
set_option maxHeartbeats 4000000 in
theorem r115_0 {x1 : Int}  {M : dsMem} {Q : bQT} (s1 : -2147483648 ≤ ((M 24 4) - 1) ∧ ((M 24 4) - 1) < 2147483648 := by intros; omega) (k1 : ((0 ≤ x1 ∧ x1 ≤ (M 24 4) - 1)) → bB 115 20 [uR 10 0, uI x1, uI 0, uI 301, uI 0, uX 0, uX 0] [] M Q) (k2 : (¬ (0 ≤ x1 ∧ x1 ≤ (M 24 4) - 1)) → Q [uI (-2)] M) :
    bB 115 0 [uR 10 0, uI x1, uX 0, uX 0, uX 0, uX 0, uX 0] [] M Q := by
  refine b_aload_n (d115 (j := 0) rfl) rfl ?_
  refine b_iload_n (d115 (j := 1) rfl) rfl ?_
  refine b_callV (d115 (j := 2) rfl) rfl rfl (Or.inl rfl) rfl (bCk_mk (n := 0) (k := 2) (by decide +kernel) rfl rfl) (pu150 s1 ?_)
  refine b_stk [uI (if (0 ≤ x1 ∧ x1 ≤ (M 24 4) - 1) then 1 else 0)] rfl ?_
  refine b_ifneP (d115 (j := 3) rfl) (fun c1 => ?_) (fun c1 => ?_)
  ·
    refine b_iconst (d115 (j := 6) rfl) (by decide) ?_
    refine b_istore_n [uR 10 0, uI x1, uI 0, uX 0, uX 0, uX 0, uX 0] (d115 (j := 7) rfl) (by decide) rfl ?_
    refine b_sipush (d115 (j := 8) rfl) (by decide) ?_
    refine b_istore_n [uR 10 0, uI x1, uI 0, uI 301, uX 0, uX 0, uX 0] (d115 (j := 9) rfl) (by decide) rfl ?_
    refine b_iconst (d115 (j := 10) rfl) (by decide) ?_
    refine b_istore [uR 10 0, uI x1, uI 0, uI 301, uI 0, uX 0, uX 0] (d115 (j := 11) rfl) (by decide) rfl ?_
    exact (k1 c1)
  ·
    refine b_bipush (d115 (j := 4) rfl) (by decide) ?_
    exact b_iret (d115 (j := 5) rfl) rfl (k2 c1)
set_option maxRecDepth 100000 in
set_option maxHeartbeats 4000000 in
theorem r115_20 {x1 x2 x3 x4 : Int} {R1 : dsMem → Prop} {R2 : dsMem → dsMem → Prop} {g2 : dsMem → dsMem → Int} {M : dsMem} {Q : bQT} (k1 : (10 ≤ x4) → (x2 ≤ 300) → Q [uI x2] M) (k2 : (10 ≤ x4) → (¬ x2 ≤ 300) → Q [uI (-1)] M) (k3 : (¬ 10 ≤ x4) → (x3 ≤ x2) → (x2 ≤ 300) → Q [uI x2] M) (k4 : (¬ 10 ≤ x4) → (x3 ≤ x2) → (¬ x2 ≤ 300) → Q [uI (-1)] M) (s1 : (¬ 10 ≤ x4) → (¬ x3 ≤ x2) → -2147483648 ≤ (x2 + x3) ∧ (x2 + x3) < 2147483648 := by intros; omega) (s2 : (¬ 10 ≤ x4) → (¬ x3 ≤ x2) → (0 ≤ (x2 + x3) ∧ (x2 + x3) < 2147483648) ∧ (0 : Int) < 2 := by intros; omega) (hA1 : (¬ 10 ≤ x4) → (¬ x3 ≤ x2) → bCt 158 [uR 10 0] M (fun _ => [uR 0 63]) R1) (hA2 : (¬ 10 ≤ x4) → (¬ x3 ≤ x2) → ∀ M1 : dsMem, R1 M1 → bCt 159 [uR 10 0] (dsSet (dsSet M1 63 7 x1) 63 8 ((x2 + x3) / 2)) (fun M2 => [uI (g2 M1 M2)]) (R2 M1)) (s3 : (¬ 10 ≤ x4) → (¬ x3 ≤ x2) → ∀ M1 : dsMem, R1 M1 → ∀ M2 : dsMem, R2 M1 M2 → (¬ (dsAnd (dsShr (g2 M1 M2) x1) 1 = 1)) → -2147483648 ≤ (((x2 + x3) / 2) + 1) ∧ (((x2 + x3) / 2) + 1) < 2147483648 := by intros; omega) (s4 : (¬ 10 ≤ x4) → (¬ x3 ≤ x2) → ∀ M1 : dsMem, R1 M1 → ∀ M2 : dsMem, R2 M1 M2 → (¬ (dsAnd (dsShr (g2 M1 M2) x1) 1 = 1)) → -2147483648 ≤ x4 + 1 ∧ x4 + 1 < 2147483648 := by intros; omega) (k5 : (¬ 10 ≤ x4) → (¬ x3 ≤ x2) → ∀ M1 : dsMem, R1 M1 → ∀ M2 : dsMem, R2 M1 M2 → (¬ (dsAnd (dsShr (g2 M1 M2) x1) 1 = 1)) → bB 115 20 [uR 10 0, uI x1, uI (((x2 + x3) / 2) + 1), uI x3, uI (x4 + 1), uX 0, uX 0] [] M2 Q) (s5 : (¬ 10 ≤ x4) → (¬ x3 ≤ x2) → ∀ M1 : dsMem, R1 M1 → ∀ M2 : dsMem, R2 M1 M2 → ((dsAnd (dsShr (g2 M1 M2) x1) 1 = 1)) → -2147483648 ≤ x4 + 1 ∧ x4 + 1 < 2147483648 := by intros; omega) (k6 : (¬ 10 ≤ x4) → (¬ x3 ≤ x2) → ∀ M1 : dsMem, R1 M1 → ∀ M2 : dsMem, R2 M1 M2 → ((dsAnd (dsShr (g2 M1 M2) x1) 1 = 1)) → bB 115 20 [uR 10 0, uI x1, uI x2, uI ((x2 + x3) / 2), uI (x4 + 1), uX 0, uX 0] [] M2 Q) :
    bB 115 20 [uR 10 0, uI x1, uI x2, uI x3, uI x4, uX 0, uX 0] [] M Q := by
  refine b_iload (d115 (j := 12) rfl) rfl ?_
  refine b_bipush (d115 (j := 13) rfl) (by decide) ?_
  refine b_icmp_ge (d115 (j := 14) rfl) (fun c1 => ?_) (fun c1 => ?_)
  ·
    refine b_iload_n (d115 (j := 47) rfl) rfl ?_
    refine b_sipush (d115 (j := 48) rfl) (by decide) ?_
    refine b_icmp_le (d115 (j := 49) rfl) (fun c2 => ?_) (fun c2 => ?_)
    ·
      refine b_iload_n (d115 (j := 52) rfl) rfl ?_
      exact b_iret (d115 (j := 53) rfl) rfl (k1 c1 c2)
    ·
      refine b_iconst (d115 (j := 50) rfl) (by decide) ?_
      refine b_goto (d115 (j := 51) rfl) ?_
      exact b_iret (d115 (j := 53) rfl) rfl (k2 c1 c2)
  ·
    refine b_iload_n (d115 (j := 15) rfl) rfl ?_
    refine b_iload_n (d115 (j := 16) rfl) rfl ?_
    refine b_icmp_ge (d115 (j := 17) rfl) (fun c3 => ?_) (fun c3 => ?_)
    ·
      refine b_iload_n (d115 (j := 47) rfl) rfl ?_
      refine b_sipush (d115 (j := 48) rfl) (by decide) ?_
      refine b_icmp_le (d115 (j := 49) rfl) (fun c4 => ?_) (fun c4 => ?_)
      ·
        refine b_iload_n (d115 (j := 52) rfl) rfl ?_
        exact b_iret (d115 (j := 53) rfl) rfl (k3 c1 c3 c4)
      ·
        refine b_iconst (d115 (j := 50) rfl) (by decide) ?_
        refine b_goto (d115 (j := 51) rfl) ?_
        exact b_iret (d115 (j := 53) rfl) rfl (k4 c1 c3 c4)
    ·
      refine b_iload_n (d115 (j := 18) rfl) rfl ?_
      refine b_iload_n (d115 (j := 19) rfl) rfl ?_
      refine b_iadd (d115 (j := 20) rfl) rfl rfl ?_
      refine b_iconst (d115 (j := 21) rfl) (by decide) ?_
      refine b_stk [uI 2, uI (x2 + x3)] (by rw [dsw_r (s1 c1 c3)]) ?_
      refine b_idivP (d115 (j := 22) rfl) (s2 c1 c3) ?_
      refine b_istore [uR 10 0, uI x1, uI x2, uI x3, uI x4, uI ((x2 + x3) / 2), uX 0] (d115 (j := 23) rfl) (by decide) rfl ?_
      refine b_aload_n (d115 (j := 24) rfl) rfl ?_
      refine b_callV (d115 (j := 25) rfl) rfl rfl (Or.inl rfl) rfl (bCk_mk (n := 0) (k := 1) (by decide +kernel) rfl rfl) ((hA1 c1 c3) _ (fun M1 hR1 => ?_))
      refine b_stk [uR 0 63] rfl ?_
      refine b_astore [uR 10 0, uI x1, uI x2, uI x3, uI x4, uI ((x2 + x3) / 2), uR 0 63] (d115 (j := 26) rfl) (by decide) rfl ?_
      refine b_aload (d115 (j := 27) rfl) rfl ?_
      refine b_iload_n (d115 (j := 28) rfl) rfl ?_
      refine b_putI (d115 (j := 29) rfl) rfl ⟨rfl, rfl⟩ rfl rfl ?_
      refine b_aload (d115 (j := 30) rfl) rfl ?_
      refine b_iload (d115 (j := 31) rfl) rfl ?_
      refine b_putI (d115 (j := 32) rfl) rfl ⟨rfl, rfl⟩ rfl rfl ?_
      refine b_aload_n (d115 (j := 33) rfl) rfl ?_
      refine b_callV (d115 (j := 34) rfl) rfl rfl (Or.inl rfl) rfl (bCk_mk (n := 0) (k := 1) (by decide +kernel) rfl rfl) ((hA2 c1 c3 M1 hR1) _ (fun M2 hR2 => ?_))
      refine b_stk [uI (g2 M1 M2)] rfl ?_
      refine b_iload_n (d115 (j := 35) rfl) rfl ?_
      refine b_callS (d115 (j := 36) rfl) (Or.inl rfl) rfl (bCk_mk (n := 0) (k := 2) (by decide +kernel) rfl rfl) (pu145 ?_)
      refine b_stk [uI (if (dsAnd (dsShr (g2 M1 M2) x1) 1 = 1) then 1 else 0)] rfl ?_
      refine b_ifeqP (d115 (j := 37) rfl) (fun c5 => ?_) (fun c5 => ?_)
      ·
        refine b_iload (d115 (j := 41) rfl) rfl ?_
        refine b_iconst (d115 (j := 42) rfl) (by decide) ?_
        refine b_iadd (d115 (j := 43) rfl) rfl rfl ?_
        refine b_stk [uI (((x2 + x3) / 2) + 1)] (by rw [dsw_r (s3 c1 c3 M1 hR1 M2 hR2 c5)]) ?_
        refine b_istore_n [uR 10 0, uI x1, uI (((x2 + x3) / 2) + 1), uI x3, uI x4, uI ((x2 + x3) / 2), uR 0 63] (d115 (j := 44) rfl) (by decide) rfl ?_
        refine b_iinc [uR 10 0, uI x1, uI (((x2 + x3) / 2) + 1), uI x3, uI (x4 + 1), uI ((x2 + x3) / 2), uR 0 63] (d115 (j := 45) rfl) rfl (by decide) (s4 c1 c3 M1 hR1 M2 hR2 c5) rfl ?_
        refine b_goto (d115 (j := 46) rfl) ?_
        exact bB_le _ (bLe_s (bLe_s (bLe_s (bLe_s (bLe_s (bLe_x (bLe_x bLe_nil))))))) (k5 c1 c3 M1 hR1 M2 hR2 c5)
      ·
        refine b_iload (d115 (j := 38) rfl) rfl ?_
        refine b_istore_n [uR 10 0, uI x1, uI x2, uI ((x2 + x3) / 2), uI x4, uI ((x2 + x3) / 2), uR 0 63] (d115 (j := 39) rfl) (by decide) rfl ?_
        refine b_goto (d115 (j := 40) rfl) ?_
        refine b_iinc [uR 10 0, uI x1, uI x2, uI ((x2 + x3) / 2), uI (x4 + 1), uI ((x2 + x3) / 2), uR 0 63] (d115 (j := 45) rfl) rfl (by decide) (s5 c1 c3 M1 hR1 M2 hR2 c5) rfl ?_
        refine b_goto (d115 (j := 46) rfl) ?_
        exact bB_le _ (bLe_s (bLe_s (bLe_s (bLe_s (bLe_s (bLe_x (bLe_x bLe_nil))))))) (k6 c1 c3 M1 hR1 M2 hR2 c5)
def L116 : List (Nat × Instr × Nat × Nat) := [(0, .aload_n 0, 1, 0), (1, .invokevirtual 179, 4, 0), (4, .ifCond .ne 6, 7, 10), (7, .bipush (-2), 9, 0), (9, .ireturn, 10, 0), (10, .iconst (-1), 11, 0), (11, .istore_n 1, 12, 0), (12, .aload_n 0, 13, 0), (13, .invokevirtual 149, 16, 0), (16, .aload_n 0, 17, 0), (17, .getfield 23, 20, 0), (20, .getfield 186, 23, 0), (23, .invokevirtual 183, 26, 0), (26, .istore_n 2, 27, 0), (27, .iconst 0, 28, 0), (28, .istore_n 3, 29, 0), (29, .iload_n 3, 30, 0), (30, .aload_n 0, 31, 0), (31, .getfield 23, 34, 0), (34, .getfield 142, 37, 0), (37, .if_icmp .ge 60, 40, 97), (40, .aload_n 0, 41, 0), (41, .invokevirtual 252, 44, 0), (44, .astore 4, 46, 0), (46, .aload 4, 48, 0), (48, .iconst 1, 49, 0), (49, .iload_n 3, 50, 0), (50, .ishl, 51, 0), (51, .putfield 276, 54, 0), (54, .aload_n 0, 55, 0), (55, .getfield 45, 58, 0), (58, .iconst 0, 59, 0), (59, .iconst 0, 60, 0), (60, .invokevirtual 279, 63, 0), (63, .pop, 64, 0), (64, .aload_n 0, 65, 0), (65, .getfield 45, 68, 0), (68, .aload_n 0, 69, 0), (69, .getfield 23, 72, 0), (72, .getfield 186, 75, 0), (75, .invokevirtual 183, 78, 0), (78, .istore 5, 80, 0), (80, .iload 5, 82, 0), (82, .iload_n 2, 83, 0), (83, .if_icmp .ge 8, 86, 91), (86, .iload_n 3, 87, 0), (87, .istore_n 1, 88, 0), (88, .iload 5, 90, 0), (90, .istore_n 2, 91, 0), (91, .iinc 3 1, 94, 0), (94, .goto (-65), 97, 29), (97, .iload_n 1, 98, 0), (98, .ireturn, 99, 0)]
set_option maxRecDepth 100000 in
theorem L116_ok : L116.all (dck 116) = true := by decide +kernel
theorem d116 {j pc nx tg : Nat} {ins : Instr} (hj : L116[j]? = some (pc, ins, nx, tg)) : dcd 116 pc ins nx tg := dcl_ok L116_ok hj
set_option maxRecDepth 100000 in
set_option maxHeartbeats 4000000 in
theorem r116_0  {R1 : dsMem → Prop} {M : dsMem} {Q : bQT} (hA1 : ((0 < (M 24 0))) → bCt 157 [uR 10 0] M (fun _ => [uR 5 47]) R1) (s1 : ((0 < (M 24 0))) → ∀ M1 : dsMem, R1 M1 → ∀ i24_1 : Int, ∀ a24_1 : Int, 0 ≤ i24_1 → i24_1 < (M1 24 5) → -2147483648 ≤ (((M1 24 1) * 6) + i24_1) ∧ (((M1 24 1) * 6) + i24_1) < 2147483648 := by intros; omega) (s2 : ((0 < (M 24 0))) → ∀ M1 : dsMem, R1 M1 → ∀ i24_1 : Int, ∀ a24_1 : Int, 0 ≤ i24_1 → i24_1 < (M1 24 5) → 0 ≤ (((M1 24 1) * 6) + i24_1) ∧ (((M1 24 1) * 6) + i24_1) < 78 := by intros; omega) (s3 : ((0 < (M 24 0))) → ∀ M1 : dsMem, R1 M1 → ∀ i24_1 : Int, ∀ a24_1 : Int, 0 ≤ i24_1 → i24_1 < (M1 24 5) → -2147483648 ≤ i24_1 + 1 ∧ i24_1 + 1 < 2147483648 := by intros; omega) (k1 : ((0 < (M 24 0))) → ∀ M1 : dsMem, R1 M1 → bB 116 29 [uR 10 0, uI (-1), uI (v24 M1 47 (M1 24 1)), uI 0, uX 0, uX 0] [] M1 Q) (k2 : (¬ (0 < (M 24 0))) → Q [uI (-2)] M) :
    bB 116 0 [uR 10 0, uX 0, uX 0, uX 0, uX 0, uX 0] [] M Q := by
  refine b_aload_n (d116 (j := 0) rfl) rfl ?_
  refine b_callV (d116 (j := 1) rfl) rfl rfl (Or.inl rfl) rfl (bCk_mk (n := 0) (k := 1) (by decide +kernel) rfl rfl) (pu149  ?_)
  refine b_stk [uI (if (0 < (M 24 0)) then 1 else 0)] rfl ?_
  refine b_ifneP (d116 (j := 2) rfl) (fun c1 => ?_) (fun c1 => ?_)
  ·
    refine b_iconst (d116 (j := 5) rfl) (by decide) ?_
    refine b_istore_n [uR 10 0, uI (-1), uX 0, uX 0, uX 0, uX 0] (d116 (j := 6) rfl) (by decide) rfl ?_
    refine b_aload_n (d116 (j := 7) rfl) rfl ?_
    refine b_callV (d116 (j := 8) rfl) rfl rfl (Or.inl rfl) rfl (bCk_mk (n := 0) (k := 1) (by decide +kernel) rfl rfl) ((hA1 c1) _ (fun M1 hR1 => ?_))
    refine b_stk [uR 5 47] rfl ?_
    refine b_aload_n (d116 (j := 9) rfl) rfl ?_
    refine b_getR (d116 (j := 10) rfl) rfl rfl rfl rfl ?_
    refine b_stk [uR 4 24, uR 5 47] rfl ?_
    refine b_getI (d116 (j := 11) rfl) rfl rfl rfl rfl (Or.inl rfl) ?_
    refine b_stk [uI (M1 24 1), uR 5 47] rfl ?_
    refine b_callV (d116 (j := 12) rfl) rfl rfl (Or.inl rfl) rfl (bCk_mk (n := 0) (k := 2) (by decide +kernel) rfl rfl) (fx24 (s1 c1 M1 hR1) (s2 c1 M1 hR1) (s3 c1 M1 hR1) ?_)
    refine b_stk [uI (v24 M1 47 (M1 24 1))] rfl ?_
    refine b_istore_n [uR 10 0, uI (-1), uI (v24 M1 47 (M1 24 1)), uX 0, uX 0, uX 0] (d116 (j := 13) rfl) (by decide) rfl ?_
    refine b_iconst (d116 (j := 14) rfl) (by decide) ?_
    refine b_istore_n [uR 10 0, uI (-1), uI (v24 M1 47 (M1 24 1)), uI 0, uX 0, uX 0] (d116 (j := 15) rfl) (by decide) rfl ?_
    exact (k1 c1 M1 hR1)
  ·
    refine b_bipush (d116 (j := 3) rfl) (by decide) ?_
    exact b_iret (d116 (j := 4) rfl) rfl (k2 c1)
set_option maxRecDepth 100000 in
set_option maxHeartbeats 4000000 in
theorem r116_29 {x1 x2 x3 : Int} {R1 : dsMem → Prop} {R2 : dsMem → dsMem → Prop} {g2 : dsMem → dsMem → Int} {M : dsMem} {Q : bQT} (k1 : ((M 24 5) ≤ x3) → Q [uI x1] M) (hA1 : (¬ (M 24 5) ≤ x3) → bCt 158 [uR 10 0] M (fun _ => [uR 0 63]) R1) (hA2 : (¬ (M 24 5) ≤ x3) → ∀ M1 : dsMem, R1 M1 → bCt 7 [uR 5 62, uI 0, uI 0, uX 0, uX 0] (dsSet M1 63 3 (dsShl 1 x3)) (fun M2 => [uI (g2 M1 M2)]) (R2 M1)) (s1 : (¬ (M 24 5) ≤ x3) → ∀ M1 : dsMem, R1 M1 → ∀ M2 : dsMem, R2 M1 M2 → ∀ i24_1 : Int, ∀ a24_1 : Int, 0 ≤ i24_1 → i24_1 < (M2 24 5) → -2147483648 ≤ (((M2 24 1) * 6) + i24_1) ∧ (((M2 24 1) * 6) + i24_1) < 2147483648 := by intros; omega) (s2 : (¬ (M 24 5) ≤ x3) → ∀ M1 : dsMem, R1 M1 → ∀ M2 : dsMem, R2 M1 M2 → ∀ i24_1 : Int, ∀ a24_1 : Int, 0 ≤ i24_1 → i24_1 < (M2 24 5) → 0 ≤ (((M2 24 1) * 6) + i24_1) ∧ (((M2 24 1) * 6) + i24_1) < 78 := by intros; omega) (s3 : (¬ (M 24 5) ≤ x3) → ∀ M1 : dsMem, R1 M1 → ∀ M2 : dsMem, R2 M1 M2 → ∀ i24_1 : Int, ∀ a24_1 : Int, 0 ≤ i24_1 → i24_1 < (M2 24 5) → -2147483648 ≤ i24_1 + 1 ∧ i24_1 + 1 < 2147483648 := by intros; omega) (s4 : (¬ (M 24 5) ≤ x3) → ∀ M1 : dsMem, R1 M1 → ∀ M2 : dsMem, R2 M1 M2 → (x2 ≤ (v24 M2 62 (M2 24 1))) → -2147483648 ≤ x3 + 1 ∧ x3 + 1 < 2147483648 := by intros; omega) (k2 : (¬ (M 24 5) ≤ x3) → ∀ M1 : dsMem, R1 M1 → ∀ M2 : dsMem, R2 M1 M2 → (x2 ≤ (v24 M2 62 (M2 24 1))) → bB 116 29 [uR 10 0, uI x1, uI x2, uI (x3 + 1), uX 0, uX 0] [] M2 Q) (s5 : (¬ (M 24 5) ≤ x3) → ∀ M1 : dsMem, R1 M1 → ∀ M2 : dsMem, R2 M1 M2 → (¬ x2 ≤ (v24 M2 62 (M2 24 1))) → -2147483648 ≤ x3 + 1 ∧ x3 + 1 < 2147483648 := by intros; omega) (k3 : (¬ (M 24 5) ≤ x3) → ∀ M1 : dsMem, R1 M1 → ∀ M2 : dsMem, R2 M1 M2 → (¬ x2 ≤ (v24 M2 62 (M2 24 1))) → bB 116 29 [uR 10 0, uI x3, uI (v24 M2 62 (M2 24 1)), uI (x3 + 1), uX 0, uX 0] [] M2 Q) :
    bB 116 29 [uR 10 0, uI x1, uI x2, uI x3, uX 0, uX 0] [] M Q := by
  refine b_iload_n (d116 (j := 16) rfl) rfl ?_
  refine b_aload_n (d116 (j := 17) rfl) rfl ?_
  refine b_getR (d116 (j := 18) rfl) rfl rfl rfl rfl ?_
  refine b_stk [uR 4 24, uI x3] rfl ?_
  refine b_getI (d116 (j := 19) rfl) rfl rfl rfl rfl (Or.inl rfl) ?_
  refine b_stk [uI (M 24 5), uI x3] rfl ?_
  refine b_icmp_ge (d116 (j := 20) rfl) (fun c1 => ?_) (fun c1 => ?_)
  ·
    refine b_iload_n (d116 (j := 51) rfl) rfl ?_
    exact b_iret (d116 (j := 52) rfl) rfl (k1 c1)
  ·
    refine b_aload_n (d116 (j := 21) rfl) rfl ?_
    refine b_callV (d116 (j := 22) rfl) rfl rfl (Or.inl rfl) rfl (bCk_mk (n := 0) (k := 1) (by decide +kernel) rfl rfl) ((hA1 c1) _ (fun M1 hR1 => ?_))
    refine b_stk [uR 0 63] rfl ?_
    refine b_astore [uR 10 0, uI x1, uI x2, uI x3, uR 0 63, uX 0] (d116 (j := 23) rfl) (by decide) rfl ?_
    refine b_aload (d116 (j := 24) rfl) rfl ?_
    refine b_iconst (d116 (j := 25) rfl) (by decide) ?_
    refine b_iload_n (d116 (j := 26) rfl) rfl ?_
    refine b_ishl (d116 (j := 27) rfl) ?_
    refine b_putI (d116 (j := 28) rfl) rfl ⟨rfl, rfl⟩ rfl rfl ?_
    refine b_aload_n (d116 (j := 29) rfl) rfl ?_
    refine b_getR (d116 (j := 30) rfl) rfl rfl rfl rfl ?_
    refine b_stk [uR 5 62] rfl ?_
    refine b_iconst (d116 (j := 31) rfl) (by decide) ?_
    refine b_iconst (d116 (j := 32) rfl) (by decide) ?_
    refine b_callV (d116 (j := 33) rfl) rfl rfl (Or.inl rfl) rfl (bCk_mk (n := 0) (k := 3) (by decide +kernel) rfl rfl) ((hA2 c1 M1 hR1) _ (fun M2 hR2 => ?_))
    refine b_stk [uI (g2 M1 M2)] rfl ?_
    refine b_pop (d116 (j := 34) rfl) rfl ?_
    refine b_aload_n (d116 (j := 35) rfl) rfl ?_
    refine b_getR (d116 (j := 36) rfl) rfl rfl rfl rfl ?_
    refine b_stk [uR 5 62] rfl ?_
    refine b_aload_n (d116 (j := 37) rfl) rfl ?_
    refine b_getR (d116 (j := 38) rfl) rfl rfl rfl rfl ?_
    refine b_stk [uR 4 24, uR 5 62] rfl ?_
    refine b_getI (d116 (j := 39) rfl) rfl rfl rfl rfl (Or.inl rfl) ?_
    refine b_stk [uI (M2 24 1), uR 5 62] rfl ?_
    refine b_callV (d116 (j := 40) rfl) rfl rfl (Or.inl rfl) rfl (bCk_mk (n := 0) (k := 2) (by decide +kernel) rfl rfl) (fx24 (s1 c1 M1 hR1 M2 hR2) (s2 c1 M1 hR1 M2 hR2) (s3 c1 M1 hR1 M2 hR2) ?_)
    refine b_stk [uI (v24 M2 62 (M2 24 1))] rfl ?_
    refine b_istore [uR 10 0, uI x1, uI x2, uI x3, uR 0 63, uI (v24 M2 62 (M2 24 1))] (d116 (j := 41) rfl) (by decide) rfl ?_
    refine b_iload (d116 (j := 42) rfl) rfl ?_
    refine b_iload_n (d116 (j := 43) rfl) rfl ?_
    refine b_icmp_ge (d116 (j := 44) rfl) (fun c2 => ?_) (fun c2 => ?_)
    ·
      refine b_iinc [uR 10 0, uI x1, uI x2, uI (x3 + 1), uR 0 63, uI (v24 M2 62 (M2 24 1))] (d116 (j := 49) rfl) rfl (by decide) (s4 c1 M1 hR1 M2 hR2 c2) rfl ?_
      refine b_goto (d116 (j := 50) rfl) ?_
      exact bB_le _ (bLe_s (bLe_s (bLe_s (bLe_s (bLe_x (bLe_x bLe_nil)))))) (k2 c1 M1 hR1 M2 hR2 c2)
    ·
      refine b_iload_n (d116 (j := 45) rfl) rfl ?_
      refine b_istore_n [uR 10 0, uI x3, uI x2, uI x3, uR 0 63, uI (v24 M2 62 (M2 24 1))] (d116 (j := 46) rfl) (by decide) rfl ?_
      refine b_iload (d116 (j := 47) rfl) rfl ?_
      refine b_istore_n [uR 10 0, uI x3, uI (v24 M2 62 (M2 24 1)), uI x3, uR 0 63, uI (v24 M2 62 (M2 24 1))] (d116 (j := 48) rfl) (by decide) rfl ?_
      refine b_iinc [uR 10 0, uI x3, uI (v24 M2 62 (M2 24 1)), uI (x3 + 1), uR 0 63, uI (v24 M2 62 (M2 24 1))] (d116 (j := 49) rfl) rfl (by decide) (s5 c1 M1 hR1 M2 hR2 c2) rfl ?_
      refine b_goto (d116 (j := 50) rfl) ?_
      exact bB_le _ (bLe_s (bLe_s (bLe_s (bLe_s (bLe_x (bLe_x bLe_nil)))))) (k3 c1 M1 hR1 M2 hR2 c2)
def L117 : List (Nat × Instr × Nat × Nat) := [(0, .aload_n 0, 1, 0), (1, .iload_n 1, 2, 0), (2, .iload_n 2, 3, 0), (3, .invokevirtual 283, 6, 0), (6, .ireturn, 7, 0)]
set_option maxRecDepth 100000 in
theorem L117_ok : L117.all (dck 117) = true := by decide +kernel
theorem d117 {j pc nx tg : Nat} {ins : Instr} (hj : L117[j]? = some (pc, ins, nx, tg)) : dcd 117 pc ins nx tg := dcl_ok L117_ok hj
set_option maxRecDepth 100000 in
set_option maxHeartbeats 4000000 in
theorem r117_0 {x1 x2 : Int} {R1 : dsMem → Prop} {g1 : dsMem → Int} {M : dsMem} {Q : bQT} (hA1 : bCt 171 [uR 10 0, uI x1, uI x2, uX 0, uX 0, uX 0] M (fun M1 => [uI (g1 M1)]) R1) (k1 : ∀ M1 : dsMem, R1 M1 → Q [uI (g1 M1)] M1) :
    bB 117 0 [uR 10 0, uI x1, uI x2] [] M Q := by
  refine b_aload_n (d117 (j := 0) rfl) rfl ?_
  refine b_iload_n (d117 (j := 1) rfl) rfl ?_
  refine b_iload_n (d117 (j := 2) rfl) rfl ?_
  refine b_callV (d117 (j := 3) rfl) rfl rfl (Or.inl rfl) rfl (bCk_mk (n := 0) (k := 3) (by decide +kernel) rfl rfl) ((hA1) _ (fun M1 hR1 => ?_))
  refine b_stk [uI (g1 M1)] rfl ?_
  exact b_iret (d117 (j := 4) rfl) rfl (k1 M1 hR1)
def L118 : List (Nat × Instr × Nat × Nat) := [(0, .aload_n 0, 1, 0), (1, .iload_n 1, 2, 0), (2, .iload_n 2, 3, 0), (3, .invokevirtual 283, 6, 0), (6, .istore_n 3, 7, 0), (7, .iload_n 3, 8, 0), (8, .ifCond .ge 7, 11, 15), (11, .iload_n 3, 12, 0), (12, .goto 10, 15, 22), (15, .aload_n 0, 16, 0), (16, .getfield 51, 19, 0), (19, .invokevirtual 286, 22, 0), (22, .ireturn, 23, 0)]
set_option maxRecDepth 100000 in
theorem L118_ok : L118.all (dck 118) = true := by decide +kernel
theorem d118 {j pc nx tg : Nat} {ins : Instr} (hj : L118[j]? = some (pc, ins, nx, tg)) : dcd 118 pc ins nx tg := dcl_ok L118_ok hj
set_option maxRecDepth 100000 in
set_option maxHeartbeats 4000000 in
theorem r118_0 {x1 x2 : Int} {R1 : dsMem → Prop} {g1 : dsMem → Int} {M : dsMem} {Q : bQT} (hA1 : bCt 171 [uR 10 0, uI x1, uI x2, uX 0, uX 0, uX 0] M (fun M1 => [uI (g1 M1)]) R1) (k1 : ∀ M1 : dsMem, R1 M1 → (0 ≤ (g1 M1)) → Q [uI (v32 M1)] M1) (k2 : ∀ M1 : dsMem, R1 M1 → (¬ 0 ≤ (g1 M1)) → Q [uI (g1 M1)] M1) :
    bB 118 0 [uR 10 0, uI x1, uI x2, uX 0] [] M Q := by
  refine b_aload_n (d118 (j := 0) rfl) rfl ?_
  refine b_iload_n (d118 (j := 1) rfl) rfl ?_
  refine b_iload_n (d118 (j := 2) rfl) rfl ?_
  refine b_callV (d118 (j := 3) rfl) rfl rfl (Or.inl rfl) rfl (bCk_mk (n := 0) (k := 3) (by decide +kernel) rfl rfl) ((hA1) _ (fun M1 hR1 => ?_))
  refine b_stk [uI (g1 M1)] rfl ?_
  refine b_istore_n [uR 10 0, uI x1, uI x2, uI (g1 M1)] (d118 (j := 4) rfl) (by decide) rfl ?_
  refine b_iload_n (d118 (j := 5) rfl) rfl ?_
  refine b_if_ge (d118 (j := 6) rfl) (fun c1 => ?_) (fun c1 => ?_)
  ·
    refine b_aload_n (d118 (j := 9) rfl) rfl ?_
    refine b_getR (d118 (j := 10) rfl) rfl rfl rfl rfl ?_
    refine b_stk [uR 7 77] rfl ?_
    refine b_callV (d118 (j := 11) rfl) rfl rfl (Or.inl rfl) rfl (bCk_mk (n := 0) (k := 1) (by decide +kernel) rfl rfl) (fx32  ?_)
    refine b_stk [uI (v32 M1)] rfl ?_
    exact b_iret (d118 (j := 12) rfl) rfl (k1 M1 hR1 c1)
  ·
    refine b_iload_n (d118 (j := 7) rfl) rfl ?_
    refine b_goto (d118 (j := 8) rfl) ?_
    exact b_iret (d118 (j := 12) rfl) rfl (k2 M1 hR1 c1)
def L119 : List (Nat × Instr × Nat × Nat) := [(0, .aload_n 0, 1, 0), (1, .iload_n 1, 2, 0), (2, .iload_n 2, 3, 0), (3, .invokevirtual 283, 6, 0), (6, .istore_n 3, 7, 0), (7, .iload_n 3, 8, 0), (8, .ifCond .ge 7, 11, 15), (11, .iload_n 3, 12, 0), (12, .goto 10, 15, 22), (15, .aload_n 0, 16, 0), (16, .getfield 51, 19, 0), (19, .invokevirtual 289, 22, 0), (22, .ireturn, 23, 0)]
set_option maxRecDepth 100000 in
theorem L119_ok : L119.all (dck 119) = true := by decide +kernel
theorem d119 {j pc nx tg : Nat} {ins : Instr} (hj : L119[j]? = some (pc, ins, nx, tg)) : dcd 119 pc ins nx tg := dcl_ok L119_ok hj
set_option maxRecDepth 100000 in
set_option maxHeartbeats 4000000 in
theorem r119_0 {x1 x2 : Int} {R1 : dsMem → Prop} {g1 : dsMem → Int} {M : dsMem} {Q : bQT} (hA1 : bCt 171 [uR 10 0, uI x1, uI x2, uX 0, uX 0, uX 0] M (fun M1 => [uI (g1 M1)]) R1) (s1 : ∀ M1 : dsMem, R1 M1 → (0 ≤ (g1 M1)) → (¬ (M1 77 0) = 0) → 0 ≤ ((M1 77 0) - 1) ∧ ((M1 77 0) - 1) < 60 := by intros; omega) (k1 : ∀ M1 : dsMem, R1 M1 → (0 ≤ (g1 M1)) → Q [uI (v33 M1)] M1) (k2 : ∀ M1 : dsMem, R1 M1 → (¬ 0 ≤ (g1 M1)) → Q [uI (g1 M1)] M1) :
    bB 119 0 [uR 10 0, uI x1, uI x2, uX 0] [] M Q := by
  refine b_aload_n (d119 (j := 0) rfl) rfl ?_
  refine b_iload_n (d119 (j := 1) rfl) rfl ?_
  refine b_iload_n (d119 (j := 2) rfl) rfl ?_
  refine b_callV (d119 (j := 3) rfl) rfl rfl (Or.inl rfl) rfl (bCk_mk (n := 0) (k := 3) (by decide +kernel) rfl rfl) ((hA1) _ (fun M1 hR1 => ?_))
  refine b_stk [uI (g1 M1)] rfl ?_
  refine b_istore_n [uR 10 0, uI x1, uI x2, uI (g1 M1)] (d119 (j := 4) rfl) (by decide) rfl ?_
  refine b_iload_n (d119 (j := 5) rfl) rfl ?_
  refine b_if_ge (d119 (j := 6) rfl) (fun c1 => ?_) (fun c1 => ?_)
  ·
    refine b_aload_n (d119 (j := 9) rfl) rfl ?_
    refine b_getR (d119 (j := 10) rfl) rfl rfl rfl rfl ?_
    refine b_stk [uR 7 77] rfl ?_
    refine b_callV (d119 (j := 11) rfl) rfl rfl (Or.inl rfl) rfl (bCk_mk (n := 0) (k := 1) (by decide +kernel) rfl rfl) (fx33 (s1 M1 hR1 c1) ?_)
    refine b_stk [uI (v33 M1)] rfl ?_
    exact b_iret (d119 (j := 12) rfl) rfl (k1 M1 hR1 c1)
  ·
    refine b_iload_n (d119 (j := 7) rfl) rfl ?_
    refine b_goto (d119 (j := 8) rfl) ?_
    exact b_iret (d119 (j := 12) rfl) rfl (k2 M1 hR1 c1)
def L120 : List (Nat × Instr × Nat × Nat) := [(0, .aload_n 0, 1, 0), (1, .iload_n 1, 2, 0), (2, .iload_n 2, 3, 0), (3, .invokevirtual 283, 6, 0), (6, .istore_n 3, 7, 0), (7, .iload_n 3, 8, 0), (8, .ifCond .ge 7, 11, 15), (11, .iload_n 3, 12, 0), (12, .goto 17, 15, 29), (15, .aload_n 0, 16, 0), (16, .getfield 51, 19, 0), (19, .aload_n 0, 20, 0), (20, .getfield 23, 23, 0), (23, .getfield 186, 26, 0), (26, .invokevirtual 292, 29, 0), (29, .ireturn, 30, 0)]
set_option maxRecDepth 100000 in
theorem L120_ok : L120.all (dck 120) = true := by decide +kernel
theorem d120 {j pc nx tg : Nat} {ins : Instr} (hj : L120[j]? = some (pc, ins, nx, tg)) : dcd 120 pc ins nx tg := dcl_ok L120_ok hj
set_option maxRecDepth 100000 in
set_option maxHeartbeats 4000000 in
theorem r120_0 {x1 x2 : Int} {R1 : dsMem → Prop} {g1 : dsMem → Int} {R2 : dsMem → dsMem → Prop} {g2 : dsMem → dsMem → Int} {M : dsMem} {Q : bQT} (hA1 : bCt 171 [uR 10 0, uI x1, uI x2, uX 0, uX 0, uX 0] M (fun M1 => [uI (g1 M1)]) R1) (hA2 : ∀ M1 : dsMem, R1 M1 → (0 ≤ (g1 M1)) → bCt 35 [uR 7 77, uI (M1 24 1), uX 0, uX 0, uX 0, uX 0] M1 (fun M2 => [uI (g2 M1 M2)]) (R2 M1)) (k1 : ∀ M1 : dsMem, R1 M1 → (0 ≤ (g1 M1)) → ∀ M2 : dsMem, R2 M1 M2 → Q [uI (g2 M1 M2)] M2) (k2 : ∀ M1 : dsMem, R1 M1 → (¬ 0 ≤ (g1 M1)) → Q [uI (g1 M1)] M1) :
    bB 120 0 [uR 10 0, uI x1, uI x2, uX 0] [] M Q := by
  refine b_aload_n (d120 (j := 0) rfl) rfl ?_
  refine b_iload_n (d120 (j := 1) rfl) rfl ?_
  refine b_iload_n (d120 (j := 2) rfl) rfl ?_
  refine b_callV (d120 (j := 3) rfl) rfl rfl (Or.inl rfl) rfl (bCk_mk (n := 0) (k := 3) (by decide +kernel) rfl rfl) ((hA1) _ (fun M1 hR1 => ?_))
  refine b_stk [uI (g1 M1)] rfl ?_
  refine b_istore_n [uR 10 0, uI x1, uI x2, uI (g1 M1)] (d120 (j := 4) rfl) (by decide) rfl ?_
  refine b_iload_n (d120 (j := 5) rfl) rfl ?_
  refine b_if_ge (d120 (j := 6) rfl) (fun c1 => ?_) (fun c1 => ?_)
  ·
    refine b_aload_n (d120 (j := 9) rfl) rfl ?_
    refine b_getR (d120 (j := 10) rfl) rfl rfl rfl rfl ?_
    refine b_stk [uR 7 77] rfl ?_
    refine b_aload_n (d120 (j := 11) rfl) rfl ?_
    refine b_getR (d120 (j := 12) rfl) rfl rfl rfl rfl ?_
    refine b_stk [uR 4 24, uR 7 77] rfl ?_
    refine b_getI (d120 (j := 13) rfl) rfl rfl rfl rfl (Or.inl rfl) ?_
    refine b_stk [uI (M1 24 1), uR 7 77] rfl ?_
    refine b_callV (d120 (j := 14) rfl) rfl rfl (Or.inl rfl) rfl (bCk_mk (n := 0) (k := 2) (by decide +kernel) rfl rfl) ((hA2 M1 hR1 c1) _ (fun M2 hR2 => ?_))
    refine b_stk [uI (g2 M1 M2)] rfl ?_
    exact b_iret (d120 (j := 15) rfl) rfl (k1 M1 hR1 c1 M2 hR2)
  ·
    refine b_iload_n (d120 (j := 7) rfl) rfl ?_
    refine b_goto (d120 (j := 8) rfl) ?_
    exact b_iret (d120 (j := 15) rfl) rfl (k2 M1 hR1 c1)
def L121 : List (Nat × Instr × Nat × Nat) := [(0, .aload_n 0, 1, 0), (1, .iload_n 1, 2, 0), (2, .iload_n 2, 3, 0), (3, .invokevirtual 283, 6, 0), (6, .istore_n 3, 7, 0), (7, .iload_n 3, 8, 0), (8, .ifCond .ge 7, 11, 15), (11, .iconst (-1), 12, 0), (12, .goto 17, 15, 29), (15, .aload_n 0, 16, 0), (16, .getfield 51, 19, 0), (19, .aload_n 0, 20, 0), (20, .getfield 23, 23, 0), (23, .getfield 186, 26, 0), (26, .invokevirtual 292, 29, 0), (29, .istore 4, 31, 0), (31, .iload 4, 33, 0), (33, .iconst (-1), 34, 0), (34, .if_icmp .ne 7, 37, 41), (37, .iload_n 3, 38, 0), (38, .goto 12, 41, 50), (41, .aload_n 0, 42, 0), (42, .getfield 51, 45, 0), (45, .iload 4, 47, 0), (47, .invokevirtual 295, 50, 0), (50, .ireturn, 51, 0)]
set_option maxRecDepth 100000 in
theorem L121_ok : L121.all (dck 121) = true := by decide +kernel
theorem d121 {j pc nx tg : Nat} {ins : Instr} (hj : L121[j]? = some (pc, ins, nx, tg)) : dcd 121 pc ins nx tg := dcl_ok L121_ok hj
set_option maxRecDepth 100000 in
set_option maxHeartbeats 4000000 in
theorem r121_0 {x1 x2 : Int} {R1 : dsMem → Prop} {g1 : dsMem → Int} {R2 : dsMem → dsMem → Prop} {g2 : dsMem → dsMem → Int} {R3 : dsMem → dsMem → dsMem → Prop} {g3 : dsMem → dsMem → dsMem → Int} {M : dsMem} {Q : bQT} (hA1 : bCt 171 [uR 10 0, uI x1, uI x2, uX 0, uX 0, uX 0] M (fun M1 => [uI (g1 M1)]) R1) (hA2 : ∀ M1 : dsMem, R1 M1 → (0 ≤ (g1 M1)) → bCt 35 [uR 7 77, uI (M1 24 1), uX 0, uX 0, uX 0, uX 0] M1 (fun M2 => [uI (g2 M1 M2)]) (R2 M1)) (hA3 : ∀ M1 : dsMem, R1 M1 → (0 ≤ (g1 M1)) → ∀ M2 : dsMem, R2 M1 M2 → (¬ (g2 M1 M2) = -1) → bCt 34 [uR 7 77, uI (g2 M1 M2), uX 0, uX 0, uX 0] M2 (fun M3 => [uI (g3 M1 M2 M3)]) (R3 M1 M2)) (k1 : ∀ M1 : dsMem, R1 M1 → (0 ≤ (g1 M1)) → ∀ M2 : dsMem, R2 M1 M2 → (¬ (g2 M1 M2) = -1) → ∀ M3 : dsMem, R3 M1 M2 M3 → Q [uI (g3 M1 M2 M3)] M3) (k2 : ∀ M1 : dsMem, R1 M1 → (0 ≤ (g1 M1)) → ∀ M2 : dsMem, R2 M1 M2 → ((g2 M1 M2) = -1) → Q [uI (g1 M1)] M2) (k3 : ∀ M1 : dsMem, R1 M1 → (¬ 0 ≤ (g1 M1)) → Q [uI (g1 M1)] M1) :
    bB 121 0 [uR 10 0, uI x1, uI x2, uX 0, uX 0] [] M Q := by
  refine b_aload_n (d121 (j := 0) rfl) rfl ?_
  refine b_iload_n (d121 (j := 1) rfl) rfl ?_
  refine b_iload_n (d121 (j := 2) rfl) rfl ?_
  refine b_callV (d121 (j := 3) rfl) rfl rfl (Or.inl rfl) rfl (bCk_mk (n := 0) (k := 3) (by decide +kernel) rfl rfl) ((hA1) _ (fun M1 hR1 => ?_))
  refine b_stk [uI (g1 M1)] rfl ?_
  refine b_istore_n [uR 10 0, uI x1, uI x2, uI (g1 M1), uX 0] (d121 (j := 4) rfl) (by decide) rfl ?_
  refine b_iload_n (d121 (j := 5) rfl) rfl ?_
  refine b_if_ge (d121 (j := 6) rfl) (fun c1 => ?_) (fun c1 => ?_)
  ·
    refine b_aload_n (d121 (j := 9) rfl) rfl ?_
    refine b_getR (d121 (j := 10) rfl) rfl rfl rfl rfl ?_
    refine b_stk [uR 7 77] rfl ?_
    refine b_aload_n (d121 (j := 11) rfl) rfl ?_
    refine b_getR (d121 (j := 12) rfl) rfl rfl rfl rfl ?_
    refine b_stk [uR 4 24, uR 7 77] rfl ?_
    refine b_getI (d121 (j := 13) rfl) rfl rfl rfl rfl (Or.inl rfl) ?_
    refine b_stk [uI (M1 24 1), uR 7 77] rfl ?_
    refine b_callV (d121 (j := 14) rfl) rfl rfl (Or.inl rfl) rfl (bCk_mk (n := 0) (k := 2) (by decide +kernel) rfl rfl) ((hA2 M1 hR1 c1) _ (fun M2 hR2 => ?_))
    refine b_stk [uI (g2 M1 M2)] rfl ?_
    refine b_istore [uR 10 0, uI x1, uI x2, uI (g1 M1), uI (g2 M1 M2)] (d121 (j := 15) rfl) (by decide) rfl ?_
    refine b_iload (d121 (j := 16) rfl) rfl ?_
    refine b_iconst (d121 (j := 17) rfl) (by decide) ?_
    refine b_icmp_ne (d121 (j := 18) rfl) (fun c2 => ?_) (fun c2 => ?_)
    ·
      refine b_aload_n (d121 (j := 21) rfl) rfl ?_
      refine b_getR (d121 (j := 22) rfl) rfl rfl rfl rfl ?_
      refine b_stk [uR 7 77] rfl ?_
      refine b_iload (d121 (j := 23) rfl) rfl ?_
      refine b_callV (d121 (j := 24) rfl) rfl rfl (Or.inl rfl) rfl (bCk_mk (n := 0) (k := 2) (by decide +kernel) rfl rfl) ((hA3 M1 hR1 c1 M2 hR2 c2) _ (fun M3 hR3 => ?_))
      refine b_stk [uI (g3 M1 M2 M3)] rfl ?_
      exact b_iret (d121 (j := 25) rfl) rfl (k1 M1 hR1 c1 M2 hR2 c2 M3 hR3)
    ·
      refine b_iload_n (d121 (j := 19) rfl) rfl ?_
      refine b_goto (d121 (j := 20) rfl) ?_
      exact b_iret (d121 (j := 25) rfl) rfl (k2 M1 hR1 c1 M2 hR2 c2)
  ·
    refine b_iconst (d121 (j := 7) rfl) (by decide) ?_
    refine b_goto (d121 (j := 8) rfl) ?_
    refine b_istore [uR 10 0, uI x1, uI x2, uI (g1 M1), uI (-1)] (d121 (j := 15) rfl) (by decide) rfl ?_
    refine b_iload (d121 (j := 16) rfl) rfl ?_
    refine b_iconst (d121 (j := 17) rfl) (by decide) ?_
    refine b_icmp_ne (d121 (j := 18) rfl) (fun q => absurd q (by decide)) (fun _ => ?_)
    refine b_iload_n (d121 (j := 19) rfl) rfl ?_
    refine b_goto (d121 (j := 20) rfl) ?_
    exact b_iret (d121 (j := 25) rfl) rfl (k3 M1 hR1 c1)
def L122 : List (Nat × Instr × Nat × Nat) := [(0, .aload_n 0, 1, 0), (1, .iload_n 1, 2, 0), (2, .invokevirtual 298, 5, 0), (5, .istore_n 2, 6, 0), (6, .iload_n 2, 7, 0), (7, .ifCond .ge 5, 10, 12), (10, .iload_n 2, 11, 0), (11, .ireturn, 12, 0), (12, .iconst 0, 13, 0), (13, .istore_n 3, 14, 0), (14, .iconst 0, 15, 0), (15, .istore 4, 17, 0), (17, .iload 4, 19, 0), (19, .iconst 3, 20, 0), (20, .if_icmp .gt 30, 23, 50), (23, .aload_n 0, 24, 0), (24, .iload 4, 26, 0), (26, .invokevirtual 301, 29, 0), (29, .aload_n 0, 30, 0), (30, .iload_n 1, 31, 0), (31, .invokevirtual 304, 34, 0), (34, .ifCond .eq 10, 37, 44), (37, .iload_n 3, 38, 0), (38, .iconst 1, 39, 0), (39, .iload 4, 41, 0), (41, .ishl, 42, 0), (42, .ior, 43, 0), (43, .istore_n 3, 44, 0), (44, .iinc 4 1, 47, 0), (47, .goto (-30), 50, 17), (50, .iload_n 3, 51, 0), (51, .ireturn, 52, 0)]
set_option maxRecDepth 100000 in
theorem L122_ok : L122.all (dck 122) = true := by decide +kernel
theorem d122 {j pc nx tg : Nat} {ins : Instr} (hj : L122[j]? = some (pc, ins, nx, tg)) : dcd 122 pc ins nx tg := dcl_ok L122_ok hj
set_option maxRecDepth 100000 in
set_option maxHeartbeats 4000000 in
theorem r122_0 {x1 : Int} {R1 : dsMem → Prop} {g1 : dsMem → Int} {M : dsMem} {Q : bQT} (hA1 : bCt 168 [uR 10 0, uI x1, uX 0, uX 0, uX 0] M (fun M1 => [uI (g1 M1)]) R1) (k1 : ∀ M1 : dsMem, R1 M1 → (0 ≤ (g1 M1)) → bB 122 17 [uR 10 0, uI x1, uX 0, uI 0, uI 0] [] M1 Q) (k2 : ∀ M1 : dsMem, R1 M1 → (¬ 0 ≤ (g1 M1)) → Q [uI (g1 M1)] M1) :
    bB 122 0 [uR 10 0, uI x1, uX 0, uX 0, uX 0] [] M Q := by
  refine b_aload_n (d122 (j := 0) rfl) rfl ?_
  refine b_iload_n (d122 (j := 1) rfl) rfl ?_
  refine b_callV (d122 (j := 2) rfl) rfl rfl (Or.inl rfl) rfl (bCk_mk (n := 0) (k := 2) (by decide +kernel) rfl rfl) ((hA1) _ (fun M1 hR1 => ?_))
  refine b_stk [uI (g1 M1)] rfl ?_
  refine b_istore_n [uR 10 0, uI x1, uI (g1 M1), uX 0, uX 0] (d122 (j := 3) rfl) (by decide) rfl ?_
  refine b_iload_n (d122 (j := 4) rfl) rfl ?_
  refine b_if_ge (d122 (j := 5) rfl) (fun c1 => ?_) (fun c1 => ?_)
  ·
    refine b_iconst (d122 (j := 8) rfl) (by decide) ?_
    refine b_istore_n [uR 10 0, uI x1, uI (g1 M1), uI 0, uX 0] (d122 (j := 9) rfl) (by decide) rfl ?_
    refine b_iconst (d122 (j := 10) rfl) (by decide) ?_
    refine b_istore [uR 10 0, uI x1, uI (g1 M1), uI 0, uI 0] (d122 (j := 11) rfl) (by decide) rfl ?_
    exact bB_le _ (bLe_s (bLe_s (bLe_x (bLe_s (bLe_s bLe_nil))))) (k1 M1 hR1 c1)
  ·
    refine b_iload_n (d122 (j := 6) rfl) rfl ?_
    exact b_iret (d122 (j := 7) rfl) rfl (k2 M1 hR1 c1)
set_option maxRecDepth 100000 in
set_option maxHeartbeats 4000000 in
theorem r122_17 {x1 x3 x4 : Int} {R1 : dsMem → Prop} {R2 : dsMem → dsMem → Prop} {g2 : dsMem → dsMem → Int} {M : dsMem} {Q : bQT} (k1 : (3 < x4) → Q [uI x3] M) (hA1 : (¬ 3 < x4) → bCt 160 [uR 10 0, uI x4] M (fun _ => []) R1) (hA2 : (¬ 3 < x4) → ∀ M1 : dsMem, R1 M1 → bCt 170 [uR 10 0, uI x1, uX 0, uX 0, uX 0] M1 (fun M2 => [uI (g2 M1 M2)]) (R2 M1)) (s1 : (¬ 3 < x4) → ∀ M1 : dsMem, R1 M1 → ∀ M2 : dsMem, R2 M1 M2 → ((g2 M1 M2) = 0) → -2147483648 ≤ x4 + 1 ∧ x4 + 1 < 2147483648 := by intros; omega) (k2 : (¬ 3 < x4) → ∀ M1 : dsMem, R1 M1 → ∀ M2 : dsMem, R2 M1 M2 → ((g2 M1 M2) = 0) → bB 122 17 [uR 10 0, uI x1, uX 0, uI x3, uI (x4 + 1)] [] M2 Q) (s2 : (¬ 3 < x4) → ∀ M1 : dsMem, R1 M1 → ∀ M2 : dsMem, R2 M1 M2 → (¬ (g2 M1 M2) = 0) → -2147483648 ≤ x4 + 1 ∧ x4 + 1 < 2147483648 := by intros; omega) (k3 : (¬ 3 < x4) → ∀ M1 : dsMem, R1 M1 → ∀ M2 : dsMem, R2 M1 M2 → (¬ (g2 M1 M2) = 0) → bB 122 17 [uR 10 0, uI x1, uX 0, uI (dsOr x3 (dsShl 1 x4)), uI (x4 + 1)] [] M2 Q) :
    bB 122 17 [uR 10 0, uI x1, uX 0, uI x3, uI x4] [] M Q := by
  refine b_iload (d122 (j := 12) rfl) rfl ?_
  refine b_iconst (d122 (j := 13) rfl) (by decide) ?_
  refine b_icmp_gt (d122 (j := 14) rfl) (fun c1 => ?_) (fun c1 => ?_)
  ·
    refine b_iload_n (d122 (j := 30) rfl) rfl ?_
    exact b_iret (d122 (j := 31) rfl) rfl (k1 c1)
  ·
    refine b_aload_n (d122 (j := 15) rfl) rfl ?_
    refine b_iload (d122 (j := 16) rfl) rfl ?_
    refine b_callV (d122 (j := 17) rfl) rfl rfl (Or.inl rfl) rfl (bCk_mk (n := 0) (k := 2) (by decide +kernel) rfl rfl) ((hA1 c1) _ (fun M1 hR1 => ?_))
    refine b_stk [] rfl ?_
    refine b_aload_n (d122 (j := 18) rfl) rfl ?_
    refine b_iload_n (d122 (j := 19) rfl) rfl ?_
    refine b_callV (d122 (j := 20) rfl) rfl rfl (Or.inl rfl) rfl (bCk_mk (n := 0) (k := 2) (by decide +kernel) rfl rfl) ((hA2 c1 M1 hR1) _ (fun M2 hR2 => ?_))
    refine b_stk [uI (g2 M1 M2)] rfl ?_
    refine b_if_eq (d122 (j := 21) rfl) (fun c2 => ?_) (fun c2 => ?_)
    ·
      refine b_iinc [uR 10 0, uI x1, uX 0, uI x3, uI (x4 + 1)] (d122 (j := 28) rfl) rfl (by decide) (s1 c1 M1 hR1 M2 hR2 c2) rfl ?_
      refine b_goto (d122 (j := 29) rfl) ?_
      exact (k2 c1 M1 hR1 M2 hR2 c2)
    ·
      refine b_iload_n (d122 (j := 22) rfl) rfl ?_
      refine b_iconst (d122 (j := 23) rfl) (by decide) ?_
      refine b_iload (d122 (j := 24) rfl) rfl ?_
      refine b_ishl (d122 (j := 25) rfl) ?_
      refine b_ior (d122 (j := 26) rfl) ?_
      refine b_istore_n [uR 10 0, uI x1, uX 0, uI (dsOr x3 (dsShl 1 x4)), uI x4] (d122 (j := 27) rfl) (by decide) rfl ?_
      refine b_iinc [uR 10 0, uI x1, uX 0, uI (dsOr x3 (dsShl 1 x4)), uI (x4 + 1)] (d122 (j := 28) rfl) rfl (by decide) (s2 c1 M1 hR1 M2 hR2 c2) rfl ?_
      refine b_goto (d122 (j := 29) rfl) ?_
      exact (k3 c1 M1 hR1 M2 hR2 c2)
def L123 : List (Nat × Instr × Nat × Nat) := [(0, .iload_n 1, 1, 0), (1, .iconst 0, 2, 0), (2, .iconst 3, 3, 0), (3, .invokestatic 104, 6, 0), (6, .ifCond .eq 10, 9, 16), (9, .aload_n 0, 10, 0), (10, .invokevirtual 179, 13, 0), (13, .ifCond .ne 6, 16, 19), (16, .bipush (-2), 18, 0), (18, .ireturn, 19, 0), (19, .aload_n 0, 20, 0), (20, .iload_n 1, 21, 0), (21, .invokevirtual 301, 24, 0), (24, .aload_n 0, 25, 0), (25, .getfield 45, 28, 0), (28, .aload_n 0, 29, 0), (29, .getfield 23, 32, 0), (32, .getfield 186, 35, 0), (35, .invokevirtual 183, 38, 0), (38, .ireturn, 39, 0)]
set_option maxRecDepth 100000 in
theorem L123_ok : L123.all (dck 123) = true := by decide +kernel
theorem d123 {j pc nx tg : Nat} {ins : Instr} (hj : L123[j]? = some (pc, ins, nx, tg)) : dcd 123 pc ins nx tg := dcl_ok L123_ok hj
set_option maxRecDepth 100000 in
set_option maxHeartbeats 4000000 in
theorem r123_0 {x1 : Int} {R1 : dsMem → Prop} {M : dsMem} {Q : bQT} (k1 : (¬ (0 ≤ x1 ∧ x1 ≤ 3)) → Q [uI (-2)] M) (hA1 : ((0 ≤ x1 ∧ x1 ≤ 3)) → ((0 < (M 24 0))) → bCt 160 [uR 10 0, uI x1] M (fun _ => []) R1) (s1 : ((0 ≤ x1 ∧ x1 ≤ 3)) → ((0 < (M 24 0))) → ∀ M1 : dsMem, R1 M1 → ∀ i24_1 : Int, ∀ a24_1 : Int, 0 ≤ i24_1 → i24_1 < (M1 24 5) → -2147483648 ≤ (((M1 24 1) * 6) + i24_1) ∧ (((M1 24 1) * 6) + i24_1) < 2147483648 := by intros; omega) (s2 : ((0 ≤ x1 ∧ x1 ≤ 3)) → ((0 < (M 24 0))) → ∀ M1 : dsMem, R1 M1 → ∀ i24_1 : Int, ∀ a24_1 : Int, 0 ≤ i24_1 → i24_1 < (M1 24 5) → 0 ≤ (((M1 24 1) * 6) + i24_1) ∧ (((M1 24 1) * 6) + i24_1) < 78 := by intros; omega) (s3 : ((0 ≤ x1 ∧ x1 ≤ 3)) → ((0 < (M 24 0))) → ∀ M1 : dsMem, R1 M1 → ∀ i24_1 : Int, ∀ a24_1 : Int, 0 ≤ i24_1 → i24_1 < (M1 24 5) → -2147483648 ≤ i24_1 + 1 ∧ i24_1 + 1 < 2147483648 := by intros; omega) (k2 : ((0 ≤ x1 ∧ x1 ≤ 3)) → ((0 < (M 24 0))) → ∀ M1 : dsMem, R1 M1 → Q [uI (v24 M1 62 (M1 24 1))] M1) (k3 : ((0 ≤ x1 ∧ x1 ≤ 3)) → (¬ (0 < (M 24 0))) → Q [uI (-2)] M) :
    bB 123 0 [uR 10 0, uI x1] [] M Q := by
  refine b_iload_n (d123 (j := 0) rfl) rfl ?_
  refine b_iconst (d123 (j := 1) rfl) (by decide) ?_
  refine b_iconst (d123 (j := 2) rfl) (by decide) ?_
  refine b_callS (d123 (j := 3) rfl) (Or.inl rfl) rfl (bCk_mk (n := 0) (k := 3) (by decide +kernel) rfl rfl) (pu144  ?_)
  refine b_stk [uI (if (0 ≤ x1 ∧ x1 ≤ 3) then 1 else 0)] rfl ?_
  refine b_ifeqP (d123 (j := 4) rfl) (fun c1 => ?_) (fun c1 => ?_)
  ·
    refine b_bipush (d123 (j := 8) rfl) (by decide) ?_
    exact b_iret (d123 (j := 9) rfl) rfl (k1 c1)
  ·
    refine b_aload_n (d123 (j := 5) rfl) rfl ?_
    refine b_callV (d123 (j := 6) rfl) rfl rfl (Or.inl rfl) rfl (bCk_mk (n := 0) (k := 1) (by decide +kernel) rfl rfl) (pu149  ?_)
    refine b_stk [uI (if (0 < (M 24 0)) then 1 else 0)] rfl ?_
    refine b_ifneP (d123 (j := 7) rfl) (fun c2 => ?_) (fun c2 => ?_)
    ·
      refine b_aload_n (d123 (j := 10) rfl) rfl ?_
      refine b_iload_n (d123 (j := 11) rfl) rfl ?_
      refine b_callV (d123 (j := 12) rfl) rfl rfl (Or.inl rfl) rfl (bCk_mk (n := 0) (k := 2) (by decide +kernel) rfl rfl) ((hA1 c1 c2) _ (fun M1 hR1 => ?_))
      refine b_stk [] rfl ?_
      refine b_aload_n (d123 (j := 13) rfl) rfl ?_
      refine b_getR (d123 (j := 14) rfl) rfl rfl rfl rfl ?_
      refine b_stk [uR 5 62] rfl ?_
      refine b_aload_n (d123 (j := 15) rfl) rfl ?_
      refine b_getR (d123 (j := 16) rfl) rfl rfl rfl rfl ?_
      refine b_stk [uR 4 24, uR 5 62] rfl ?_
      refine b_getI (d123 (j := 17) rfl) rfl rfl rfl rfl (Or.inl rfl) ?_
      refine b_stk [uI (M1 24 1), uR 5 62] rfl ?_
      refine b_callV (d123 (j := 18) rfl) rfl rfl (Or.inl rfl) rfl (bCk_mk (n := 0) (k := 2) (by decide +kernel) rfl rfl) (fx24 (s1 c1 c2 M1 hR1) (s2 c1 c2 M1 hR1) (s3 c1 c2 M1 hR1) ?_)
      refine b_stk [uI (v24 M1 62 (M1 24 1))] rfl ?_
      exact b_iret (d123 (j := 19) rfl) rfl (k2 c1 c2 M1 hR1)
    ·
      refine b_bipush (d123 (j := 8) rfl) (by decide) ?_
      exact b_iret (d123 (j := 9) rfl) rfl (k3 c1 c2)
def L124 : List (Nat × Instr × Nat × Nat) := [(0, .aload_n 0, 1, 0), (1, .invokevirtual 179, 4, 0), (4, .ifCond .ne 6, 7, 10), (7, .bipush (-2), 9, 0), (9, .ireturn, 10, 0), (10, .iconst 0, 11, 0), (11, .istore_n 1, 12, 0), (12, .iconst (-1), 13, 0), (13, .istore_n 2, 14, 0), (14, .iconst 0, 15, 0), (15, .istore_n 3, 16, 0), (16, .iload_n 3, 17, 0), (17, .iconst 3, 18, 0), (18, .if_icmp .gt 45, 21, 63), (21, .aload_n 0, 22, 0), (22, .iload_n 3, 23, 0), (23, .invokevirtual 301, 26, 0), (26, .aload_n 0, 27, 0), (27, .getfield 45, 30, 0), (30, .getfield 189, 33, 0), (33, .aload_n 0, 34, 0), (34, .getfield 23, 37, 0), (37, .getfield 186, 40, 0), (40, .iaload, 41, 0), (41, .invokestatic 247, 44, 0), (44, .istore 4, 46, 0), (46, .iload 4, 48, 0), (48, .iload_n 2, 49, 0), (49, .if_icmp .le 8, 52, 57), (52, .iload_n 3, 53, 0), (53, .istore_n 1, 54, 0), (54, .iload 4, 56, 0), (56, .istore_n 2, 57, 0), (57, .iinc 3 1, 60, 0), (60, .goto (-44), 63, 16), (63, .iload_n 1, 64, 0), (64, .ireturn, 65, 0)]
set_option maxRecDepth 100000 in
theorem L124_ok : L124.all (dck 124) = true := by decide +kernel
theorem d124 {j pc nx tg : Nat} {ins : Instr} (hj : L124[j]? = some (pc, ins, nx, tg)) : dcd 124 pc ins nx tg := dcl_ok L124_ok hj
set_option maxRecDepth 100000 in
set_option maxHeartbeats 4000000 in
theorem r124_0   {M : dsMem} {Q : bQT} (k1 : ((0 < (M 24 0))) → bB 124 16 [uR 10 0, uI 0, uI (-1), uI 0, uX 0] [] M Q) (k2 : (¬ (0 < (M 24 0))) → Q [uI (-2)] M) :
    bB 124 0 [uR 10 0, uX 0, uX 0, uX 0, uX 0] [] M Q := by
  refine b_aload_n (d124 (j := 0) rfl) rfl ?_
  refine b_callV (d124 (j := 1) rfl) rfl rfl (Or.inl rfl) rfl (bCk_mk (n := 0) (k := 1) (by decide +kernel) rfl rfl) (pu149  ?_)
  refine b_stk [uI (if (0 < (M 24 0)) then 1 else 0)] rfl ?_
  refine b_ifneP (d124 (j := 2) rfl) (fun c1 => ?_) (fun c1 => ?_)
  ·
    refine b_iconst (d124 (j := 5) rfl) (by decide) ?_
    refine b_istore_n [uR 10 0, uI 0, uX 0, uX 0, uX 0] (d124 (j := 6) rfl) (by decide) rfl ?_
    refine b_iconst (d124 (j := 7) rfl) (by decide) ?_
    refine b_istore_n [uR 10 0, uI 0, uI (-1), uX 0, uX 0] (d124 (j := 8) rfl) (by decide) rfl ?_
    refine b_iconst (d124 (j := 9) rfl) (by decide) ?_
    refine b_istore_n [uR 10 0, uI 0, uI (-1), uI 0, uX 0] (d124 (j := 10) rfl) (by decide) rfl ?_
    exact (k1 c1)
  ·
    refine b_bipush (d124 (j := 3) rfl) (by decide) ?_
    exact b_iret (d124 (j := 4) rfl) rfl (k2 c1)
set_option maxRecDepth 100000 in
set_option maxHeartbeats 4000000 in
theorem r124_16 {x1 x2 x3 : Int} {R1 : dsMem → Prop} {M : dsMem} {Q : bQT} (k1 : (3 < x3) → Q [uI x1] M) (hA1 : (¬ 3 < x3) → bCt 160 [uR 10 0, uI x3] M (fun _ => []) R1) (s1 : (¬ 3 < x3) → ∀ M1 : dsMem, R1 M1 → 0 ≤ (M1 24 1) ∧ (M1 24 1) < 13 := by intros; omega) (s2 : (¬ 3 < x3) → ∀ M1 : dsMem, R1 M1 → -2147483648 ≤ ((M1 69 (M1 24 1)) - (dsAnd (dsUsh (M1 69 (M1 24 1)) 1) 1431655765)) ∧ ((M1 69 (M1 24 1)) - (dsAnd (dsUsh (M1 69 (M1 24 1)) 1) 1431655765)) < 2147483648 := by intros; omega) (s3 : (¬ 3 < x3) → ∀ M1 : dsMem, R1 M1 → -2147483648 ≤ ((dsAnd ((M1 69 (M1 24 1)) - (dsAnd (dsUsh (M1 69 (M1 24 1)) 1) 1431655765)) 858993459) + (dsAnd (dsUsh ((M1 69 (M1 24 1)) - (dsAnd (dsUsh (M1 69 (M1 24 1)) 1) 1431655765)) 2) 858993459)) ∧ ((dsAnd ((M1 69 (M1 24 1)) - (dsAnd (dsUsh (M1 69 (M1 24 1)) 1) 1431655765)) 858993459) + (dsAnd (dsUsh ((M1 69 (M1 24 1)) - (dsAnd (dsUsh (M1 69 (M1 24 1)) 1) 1431655765)) 2) 858993459)) < 2147483648 := by intros; omega) (s4 : (¬ 3 < x3) → ∀ M1 : dsMem, R1 M1 → -2147483648 ≤ (((dsAnd ((M1 69 (M1 24 1)) - (dsAnd (dsUsh (M1 69 (M1 24 1)) 1) 1431655765)) 858993459) + (dsAnd (dsUsh ((M1 69 (M1 24 1)) - (dsAnd (dsUsh (M1 69 (M1 24 1)) 1) 1431655765)) 2) 858993459)) + (dsUsh ((dsAnd ((M1 69 (M1 24 1)) - (dsAnd (dsUsh (M1 69 (M1 24 1)) 1) 1431655765)) 858993459) + (dsAnd (dsUsh ((M1 69 (M1 24 1)) - (dsAnd (dsUsh (M1 69 (M1 24 1)) 1) 1431655765)) 2) 858993459)) 4)) ∧ (((dsAnd ((M1 69 (M1 24 1)) - (dsAnd (dsUsh (M1 69 (M1 24 1)) 1) 1431655765)) 858993459) + (dsAnd (dsUsh ((M1 69 (M1 24 1)) - (dsAnd (dsUsh (M1 69 (M1 24 1)) 1) 1431655765)) 2) 858993459)) + (dsUsh ((dsAnd ((M1 69 (M1 24 1)) - (dsAnd (dsUsh (M1 69 (M1 24 1)) 1) 1431655765)) 858993459) + (dsAnd (dsUsh ((M1 69 (M1 24 1)) - (dsAnd (dsUsh (M1 69 (M1 24 1)) 1) 1431655765)) 2) 858993459)) 4)) < 2147483648 := by intros; omega) (s5 : (¬ 3 < x3) → ∀ M1 : dsMem, R1 M1 → -2147483648 ≤ ((dsAnd (((dsAnd ((M1 69 (M1 24 1)) - (dsAnd (dsUsh (M1 69 (M1 24 1)) 1) 1431655765)) 858993459) + (dsAnd (dsUsh ((M1 69 (M1 24 1)) - (dsAnd (dsUsh (M1 69 (M1 24 1)) 1) 1431655765)) 2) 858993459)) + (dsUsh ((dsAnd ((M1 69 (M1 24 1)) - (dsAnd (dsUsh (M1 69 (M1 24 1)) 1) 1431655765)) 858993459) + (dsAnd (dsUsh ((M1 69 (M1 24 1)) - (dsAnd (dsUsh (M1 69 (M1 24 1)) 1) 1431655765)) 2) 858993459)) 4)) 252645135) + (dsUsh (dsAnd (((dsAnd ((M1 69 (M1 24 1)) - (dsAnd (dsUsh (M1 69 (M1 24 1)) 1) 1431655765)) 858993459) + (dsAnd (dsUsh ((M1 69 (M1 24 1)) - (dsAnd (dsUsh (M1 69 (M1 24 1)) 1) 1431655765)) 2) 858993459)) + (dsUsh ((dsAnd ((M1 69 (M1 24 1)) - (dsAnd (dsUsh (M1 69 (M1 24 1)) 1) 1431655765)) 858993459) + (dsAnd (dsUsh ((M1 69 (M1 24 1)) - (dsAnd (dsUsh (M1 69 (M1 24 1)) 1) 1431655765)) 2) 858993459)) 4)) 252645135) 8)) ∧ ((dsAnd (((dsAnd ((M1 69 (M1 24 1)) - (dsAnd (dsUsh (M1 69 (M1 24 1)) 1) 1431655765)) 858993459) + (dsAnd (dsUsh ((M1 69 (M1 24 1)) - (dsAnd (dsUsh (M1 69 (M1 24 1)) 1) 1431655765)) 2) 858993459)) + (dsUsh ((dsAnd ((M1 69 (M1 24 1)) - (dsAnd (dsUsh (M1 69 (M1 24 1)) 1) 1431655765)) 858993459) + (dsAnd (dsUsh ((M1 69 (M1 24 1)) - (dsAnd (dsUsh (M1 69 (M1 24 1)) 1) 1431655765)) 2) 858993459)) 4)) 252645135) + (dsUsh (dsAnd (((dsAnd ((M1 69 (M1 24 1)) - (dsAnd (dsUsh (M1 69 (M1 24 1)) 1) 1431655765)) 858993459) + (dsAnd (dsUsh ((M1 69 (M1 24 1)) - (dsAnd (dsUsh (M1 69 (M1 24 1)) 1) 1431655765)) 2) 858993459)) + (dsUsh ((dsAnd ((M1 69 (M1 24 1)) - (dsAnd (dsUsh (M1 69 (M1 24 1)) 1) 1431655765)) 858993459) + (dsAnd (dsUsh ((M1 69 (M1 24 1)) - (dsAnd (dsUsh (M1 69 (M1 24 1)) 1) 1431655765)) 2) 858993459)) 4)) 252645135) 8)) < 2147483648 := by intros; omega) (s6 : (¬ 3 < x3) → ∀ M1 : dsMem, R1 M1 → -2147483648 ≤ (((dsAnd (((dsAnd ((M1 69 (M1 24 1)) - (dsAnd (dsUsh (M1 69 (M1 24 1)) 1) 1431655765)) 858993459) + (dsAnd (dsUsh ((M1 69 (M1 24 1)) - (dsAnd (dsUsh (M1 69 (M1 24 1)) 1) 1431655765)) 2) 858993459)) + (dsUsh ((dsAnd ((M1 69 (M1 24 1)) - (dsAnd (dsUsh (M1 69 (M1 24 1)) 1) 1431655765)) 858993459) + (dsAnd (dsUsh ((M1 69 (M1 24 1)) - (dsAnd (dsUsh (M1 69 (M1 24 1)) 1) 1431655765)) 2) 858993459)) 4)) 252645135) + (dsUsh (dsAnd (((dsAnd ((M1 69 (M1 24 1)) - (dsAnd (dsUsh (M1 69 (M1 24 1)) 1) 1431655765)) 858993459) + (dsAnd (dsUsh ((M1 69 (M1 24 1)) - (dsAnd (dsUsh (M1 69 (M1 24 1)) 1) 1431655765)) 2) 858993459)) + (dsUsh ((dsAnd ((M1 69 (M1 24 1)) - (dsAnd (dsUsh (M1 69 (M1 24 1)) 1) 1431655765)) 858993459) + (dsAnd (dsUsh ((M1 69 (M1 24 1)) - (dsAnd (dsUsh (M1 69 (M1 24 1)) 1) 1431655765)) 2) 858993459)) 4)) 252645135) 8)) + (dsUsh ((dsAnd (((dsAnd ((M1 69 (M1 24 1)) - (dsAnd (dsUsh (M1 69 (M1 24 1)) 1) 1431655765)) 858993459) + (dsAnd (dsUsh ((M1 69 (M1 24 1)) - (dsAnd (dsUsh (M1 69 (M1 24 1)) 1) 1431655765)) 2) 858993459)) + (dsUsh ((dsAnd ((M1 69 (M1 24 1)) - (dsAnd (dsUsh (M1 69 (M1 24 1)) 1) 1431655765)) 858993459) + (dsAnd (dsUsh ((M1 69 (M1 24 1)) - (dsAnd (dsUsh (M1 69 (M1 24 1)) 1) 1431655765)) 2) 858993459)) 4)) 252645135) + (dsUsh (dsAnd (((dsAnd ((M1 69 (M1 24 1)) - (dsAnd (dsUsh (M1 69 (M1 24 1)) 1) 1431655765)) 858993459) + (dsAnd (dsUsh ((M1 69 (M1 24 1)) - (dsAnd (dsUsh (M1 69 (M1 24 1)) 1) 1431655765)) 2) 858993459)) + (dsUsh ((dsAnd ((M1 69 (M1 24 1)) - (dsAnd (dsUsh (M1 69 (M1 24 1)) 1) 1431655765)) 858993459) + (dsAnd (dsUsh ((M1 69 (M1 24 1)) - (dsAnd (dsUsh (M1 69 (M1 24 1)) 1) 1431655765)) 2) 858993459)) 4)) 252645135) 8)) 16)) ∧ (((dsAnd (((dsAnd ((M1 69 (M1 24 1)) - (dsAnd (dsUsh (M1 69 (M1 24 1)) 1) 1431655765)) 858993459) + (dsAnd (dsUsh ((M1 69 (M1 24 1)) - (dsAnd (dsUsh (M1 69 (M1 24 1)) 1) 1431655765)) 2) 858993459)) + (dsUsh ((dsAnd ((M1 69 (M1 24 1)) - (dsAnd (dsUsh (M1 69 (M1 24 1)) 1) 1431655765)) 858993459) + (dsAnd (dsUsh ((M1 69 (M1 24 1)) - (dsAnd (dsUsh (M1 69 (M1 24 1)) 1) 1431655765)) 2) 858993459)) 4)) 252645135) + (dsUsh (dsAnd (((dsAnd ((M1 69 (M1 24 1)) - (dsAnd (dsUsh (M1 69 (M1 24 1)) 1) 1431655765)) 858993459) + (dsAnd (dsUsh ((M1 69 (M1 24 1)) - (dsAnd (dsUsh (M1 69 (M1 24 1)) 1) 1431655765)) 2) 858993459)) + (dsUsh ((dsAnd ((M1 69 (M1 24 1)) - (dsAnd (dsUsh (M1 69 (M1 24 1)) 1) 1431655765)) 858993459) + (dsAnd (dsUsh ((M1 69 (M1 24 1)) - (dsAnd (dsUsh (M1 69 (M1 24 1)) 1) 1431655765)) 2) 858993459)) 4)) 252645135) 8)) + (dsUsh ((dsAnd (((dsAnd ((M1 69 (M1 24 1)) - (dsAnd (dsUsh (M1 69 (M1 24 1)) 1) 1431655765)) 858993459) + (dsAnd (dsUsh ((M1 69 (M1 24 1)) - (dsAnd (dsUsh (M1 69 (M1 24 1)) 1) 1431655765)) 2) 858993459)) + (dsUsh ((dsAnd ((M1 69 (M1 24 1)) - (dsAnd (dsUsh (M1 69 (M1 24 1)) 1) 1431655765)) 858993459) + (dsAnd (dsUsh ((M1 69 (M1 24 1)) - (dsAnd (dsUsh (M1 69 (M1 24 1)) 1) 1431655765)) 2) 858993459)) 4)) 252645135) + (dsUsh (dsAnd (((dsAnd ((M1 69 (M1 24 1)) - (dsAnd (dsUsh (M1 69 (M1 24 1)) 1) 1431655765)) 858993459) + (dsAnd (dsUsh ((M1 69 (M1 24 1)) - (dsAnd (dsUsh (M1 69 (M1 24 1)) 1) 1431655765)) 2) 858993459)) + (dsUsh ((dsAnd ((M1 69 (M1 24 1)) - (dsAnd (dsUsh (M1 69 (M1 24 1)) 1) 1431655765)) 858993459) + (dsAnd (dsUsh ((M1 69 (M1 24 1)) - (dsAnd (dsUsh (M1 69 (M1 24 1)) 1) 1431655765)) 2) 858993459)) 4)) 252645135) 8)) 16)) < 2147483648 := by intros; omega) (s7 : (¬ 3 < x3) → ∀ M1 : dsMem, R1 M1 → ((v333 M1 (M1 69 (M1 24 1))) ≤ x2) → -2147483648 ≤ x3 + 1 ∧ x3 + 1 < 2147483648 := by intros; omega) (k2 : (¬ 3 < x3) → ∀ M1 : dsMem, R1 M1 → ((v333 M1 (M1 69 (M1 24 1))) ≤ x2) → bB 124 16 [uR 10 0, uI x1, uI x2, uI (x3 + 1), uX 0] [] M1 Q) (s8 : (¬ 3 < x3) → ∀ M1 : dsMem, R1 M1 → (¬ (v333 M1 (M1 69 (M1 24 1))) ≤ x2) → -2147483648 ≤ x3 + 1 ∧ x3 + 1 < 2147483648 := by intros; omega) (k3 : (¬ 3 < x3) → ∀ M1 : dsMem, R1 M1 → (¬ (v333 M1 (M1 69 (M1 24 1))) ≤ x2) → bB 124 16 [uR 10 0, uI x3, uI (v333 M1 (M1 69 (M1 24 1))), uI (x3 + 1), uX 0] [] M1 Q) :
    bB 124 16 [uR 10 0, uI x1, uI x2, uI x3, uX 0] [] M Q := by
  refine b_iload_n (d124 (j := 11) rfl) rfl ?_
  refine b_iconst (d124 (j := 12) rfl) (by decide) ?_
  refine b_icmp_gt (d124 (j := 13) rfl) (fun c1 => ?_) (fun c1 => ?_)
  ·
    refine b_iload_n (d124 (j := 35) rfl) rfl ?_
    exact b_iret (d124 (j := 36) rfl) rfl (k1 c1)
  ·
    refine b_aload_n (d124 (j := 14) rfl) rfl ?_
    refine b_iload_n (d124 (j := 15) rfl) rfl ?_
    refine b_callV (d124 (j := 16) rfl) rfl rfl (Or.inl rfl) rfl (bCk_mk (n := 0) (k := 2) (by decide +kernel) rfl rfl) ((hA1 c1) _ (fun M1 hR1 => ?_))
    refine b_stk [] rfl ?_
    refine b_aload_n (d124 (j := 17) rfl) rfl ?_
    refine b_getR (d124 (j := 18) rfl) rfl rfl rfl rfl ?_
    refine b_stk [uR 5 62] rfl ?_
    refine b_getR (d124 (j := 19) rfl) rfl rfl rfl rfl ?_
    refine b_stk [uR 27 69] rfl ?_
    refine b_aload_n (d124 (j := 20) rfl) rfl ?_
    refine b_getR (d124 (j := 21) rfl) rfl rfl rfl rfl ?_
    refine b_stk [uR 4 24, uR 27 69] rfl ?_
    refine b_getI (d124 (j := 22) rfl) rfl rfl rfl rfl (Or.inl rfl) ?_
    refine b_stk [uI (M1 24 1), uR 27 69] rfl ?_
    refine b_iaload (d124 (j := 23) rfl) rfl (s1 c1 M1 hR1) ?_
    refine b_callS (d124 (j := 24) rfl) (Or.inl rfl) rfl (bCk_mk (n := 0) (k := 1) (by decide +kernel) rfl rfl) (fx333 (s2 c1 M1 hR1) (s3 c1 M1 hR1) (s4 c1 M1 hR1) (s5 c1 M1 hR1) (s6 c1 M1 hR1) ?_)
    refine b_stk [uI (v333 M1 (M1 69 (M1 24 1)))] rfl ?_
    refine b_istore [uR 10 0, uI x1, uI x2, uI x3, uI (v333 M1 (M1 69 (M1 24 1)))] (d124 (j := 25) rfl) (by decide) rfl ?_
    refine b_iload (d124 (j := 26) rfl) rfl ?_
    refine b_iload_n (d124 (j := 27) rfl) rfl ?_
    refine b_icmp_le (d124 (j := 28) rfl) (fun c2 => ?_) (fun c2 => ?_)
    ·
      refine b_iinc [uR 10 0, uI x1, uI x2, uI (x3 + 1), uI (v333 M1 (M1 69 (M1 24 1)))] (d124 (j := 33) rfl) rfl (by decide) (s7 c1 M1 hR1 c2) rfl ?_
      refine b_goto (d124 (j := 34) rfl) ?_
      exact bB_le _ (bLe_s (bLe_s (bLe_s (bLe_s (bLe_x bLe_nil))))) (k2 c1 M1 hR1 c2)
    ·
      refine b_iload_n (d124 (j := 29) rfl) rfl ?_
      refine b_istore_n [uR 10 0, uI x3, uI x2, uI x3, uI (v333 M1 (M1 69 (M1 24 1)))] (d124 (j := 30) rfl) (by decide) rfl ?_
      refine b_iload (d124 (j := 31) rfl) rfl ?_
      refine b_istore_n [uR 10 0, uI x3, uI (v333 M1 (M1 69 (M1 24 1))), uI x3, uI (v333 M1 (M1 69 (M1 24 1)))] (d124 (j := 32) rfl) (by decide) rfl ?_
      refine b_iinc [uR 10 0, uI x3, uI (v333 M1 (M1 69 (M1 24 1))), uI (x3 + 1), uI (v333 M1 (M1 69 (M1 24 1)))] (d124 (j := 33) rfl) rfl (by decide) (s8 c1 M1 hR1 c2) rfl ?_
      refine b_goto (d124 (j := 34) rfl) ?_
      exact bB_le _ (bLe_s (bLe_s (bLe_s (bLe_s (bLe_x bLe_nil))))) (k3 c1 M1 hR1 c2)
def L125 : List (Nat × Instr × Nat × Nat) := [(0, .aload_n 0, 1, 0), (1, .invokevirtual 179, 4, 0), (4, .ifCond .eq 18, 7, 22), (7, .iload_n 1, 8, 0), (8, .iconst 0, 9, 0), (9, .aload_n 0, 10, 0), (10, .getfield 23, 13, 0), (13, .invokevirtual 307, 16, 0), (16, .invokestatic 104, 19, 0), (19, .ifCond .ne 6, 22, 25), (22, .bipush (-2), 24, 0), (24, .ireturn, 25, 0), (25, .aload_n 0, 26, 0), (26, .getfield 70, 29, 0), (29, .ifCond .eq 12, 32, 41), (32, .aload_n 0, 33, 0), (33, .getfield 62, 36, 0), (36, .iload_n 1, 37, 0), (37, .iaload, 38, 0), (38, .goto 8, 41, 46), (41, .aload_n 0, 42, 0), (42, .iload_n 1, 43, 0), (43, .invokevirtual 310, 46, 0), (46, .ireturn, 47, 0)]
set_option maxRecDepth 100000 in
theorem L125_ok : L125.all (dck 125) = true := by decide +kernel
theorem d125 {j pc nx tg : Nat} {ins : Instr} (hj : L125[j]? = some (pc, ins, nx, tg)) : dcd 125 pc ins nx tg := dcl_ok L125_ok hj
set_option maxRecDepth 100000 in
set_option maxHeartbeats 4000000 in
theorem r125_0 {x1 : Int} {R1 : dsMem → Prop} {g1 : dsMem → Int} {M : dsMem} {Q : bQT} (k1 : (¬ (0 < (M 24 0))) → Q [uI (-2)] M) (s1 : ((0 < (M 24 0))) → -2147483648 ≤ ((dsShl 1 (M 24 5)) - 1) ∧ ((dsShl 1 (M 24 5)) - 1) < 2147483648 := by intros; omega) (hA1 : ((0 < (M 24 0))) → ((0 ≤ x1 ∧ x1 ≤ ((dsShl 1 (M 24 5)) - 1))) → ((M 0 11) = 0) → bCt 162 [uR 10 0, uI x1] M (fun M1 => [uI (g1 M1)]) R1) (k2 : ((0 < (M 24 0))) → ((0 ≤ x1 ∧ x1 ≤ ((dsShl 1 (M 24 5)) - 1))) → ((M 0 11) = 0) → ∀ M1 : dsMem, R1 M1 → Q [uI (g1 M1)] M1) (s2 : ((0 < (M 24 0))) → ((0 ≤ x1 ∧ x1 ≤ ((dsShl 1 (M 24 5)) - 1))) → (¬ (M 0 11) = 0) → 0 ≤ x1 ∧ x1 < 64 := by intros; omega) (k3 : ((0 < (M 24 0))) → ((0 ≤ x1 ∧ x1 ≤ ((dsShl 1 (M 24 5)) - 1))) → (¬ (M 0 11) = 0) → Q [uI (M 83 x1)] M) (k4 : ((0 < (M 24 0))) → (¬ (0 ≤ x1 ∧ x1 ≤ ((dsShl 1 (M 24 5)) - 1))) → Q [uI (-2)] M) :
    bB 125 0 [uR 10 0, uI x1] [] M Q := by
  refine b_aload_n (d125 (j := 0) rfl) rfl ?_
  refine b_callV (d125 (j := 1) rfl) rfl rfl (Or.inl rfl) rfl (bCk_mk (n := 0) (k := 1) (by decide +kernel) rfl rfl) (pu149  ?_)
  refine b_stk [uI (if (0 < (M 24 0)) then 1 else 0)] rfl ?_
  refine b_ifeqP (d125 (j := 2) rfl) (fun c1 => ?_) (fun c1 => ?_)
  ·
    refine b_bipush (d125 (j := 10) rfl) (by decide) ?_
    exact b_iret (d125 (j := 11) rfl) rfl (k1 c1)
  ·
    refine b_iload_n (d125 (j := 3) rfl) rfl ?_
    refine b_iconst (d125 (j := 4) rfl) (by decide) ?_
    refine b_aload_n (d125 (j := 5) rfl) rfl ?_
    refine b_getR (d125 (j := 6) rfl) rfl rfl rfl rfl ?_
    refine b_stk [uR 4 24, uI 0, uI x1] rfl ?_
    refine b_callV (d125 (j := 7) rfl) rfl rfl (Or.inl rfl) rfl (bCk_mk (n := 2) (k := 1) (by decide +kernel) rfl rfl) (pu64 (s1 c1) ?_)
    refine b_stk [uI ((dsShl 1 (M 24 5)) - 1), uI 0, uI x1] rfl ?_
    refine b_callS (d125 (j := 8) rfl) (Or.inl rfl) rfl (bCk_mk (n := 0) (k := 3) (by decide +kernel) rfl rfl) (pu144  ?_)
    refine b_stk [uI (if (0 ≤ x1 ∧ x1 ≤ ((dsShl 1 (M 24 5)) - 1)) then 1 else 0)] rfl ?_
    refine b_ifneP (d125 (j := 9) rfl) (fun c2 => ?_) (fun c2 => ?_)
    ·
      refine b_aload_n (d125 (j := 12) rfl) rfl ?_
      refine b_getI (d125 (j := 13) rfl) rfl rfl rfl rfl (Or.inr rfl) ?_
      refine b_stk [uI (M 0 11)] rfl ?_
      refine b_if_eq (d125 (j := 14) rfl) (fun c3 => ?_) (fun c3 => ?_)
      ·
        refine b_aload_n (d125 (j := 20) rfl) rfl ?_
        refine b_iload_n (d125 (j := 21) rfl) rfl ?_
        refine b_callV (d125 (j := 22) rfl) rfl rfl (Or.inl rfl) rfl (bCk_mk (n := 0) (k := 2) (by decide +kernel) rfl rfl) ((hA1 c1 c2 c3) _ (fun M1 hR1 => ?_))
        refine b_stk [uI (g1 M1)] rfl ?_
        exact b_iret (d125 (j := 23) rfl) rfl (k2 c1 c2 c3 M1 hR1)
      ·
        refine b_aload_n (d125 (j := 15) rfl) rfl ?_
        refine b_getR (d125 (j := 16) rfl) rfl rfl rfl rfl ?_
        refine b_stk [uR 37 83] rfl ?_
        refine b_iload_n (d125 (j := 17) rfl) rfl ?_
        refine b_iaload (d125 (j := 18) rfl) rfl (s2 c1 c2 c3) ?_
        refine b_goto (d125 (j := 19) rfl) ?_
        exact b_iret (d125 (j := 23) rfl) rfl (k3 c1 c2 c3)
    ·
      refine b_bipush (d125 (j := 10) rfl) (by decide) ?_
      exact b_iret (d125 (j := 11) rfl) rfl (k4 c1 c2)
def L126 : List (Nat × Instr × Nat × Nat) := [(0, .aload_n 0, 1, 0), (1, .iload_n 1, 2, 0), (2, .invokevirtual 114, 5, 0), (5, .ifCond .eq 12, 8, 17), (8, .iload_n 2, 9, 0), (9, .iconst 0, 10, 0), (10, .iconst 1, 11, 0), (11, .invokestatic 104, 14, 0), (14, .ifCond .ne 7, 17, 21), (17, .ldc_w 313, 20, 0), (20, .ireturn, 21, 0), (21, .aload_n 0, 22, 0), (22, .invokevirtual 314, 25, 0), (25, .lconst 0, 26, 0), (26, .lstore_n 3, 27, 0), (27, .iconst 0, 28, 0), (28, .istore 5, 30, 0), (30, .iload 5, 32, 0), (32, .aload_n 0, 33, 0), (33, .getfield 23, 36, 0), (36, .invokevirtual 307, 39, 0), (39, .if_icmp .gt 73, 42, 112), (42, .iload 5, 44, 0), (44, .iload_n 1, 45, 0), (45, .invokestatic 219, 48, 0), (48, .ifCond .ne 58, 51, 106), (51, .iload 5, 53, 0), (53, .invokestatic 247, 56, 0), (56, .invokestatic 317, 59, 0), (59, .aload_n 0, 60, 0), (60, .getfield 23, 63, 0), (63, .getfield 142, 66, 0), (66, .iconst 1, 67, 0), (67, .isub, 68, 0), (68, .iload 5, 70, 0), (70, .invokestatic 247, 73, 0), (73, .isub, 74, 0), (74, .invokestatic 317, 77, 0), (77, .lmul, 78, 0), (78, .lstore 6, 80, 0), (80, .lload_n 3, 81, 0), (81, .lload 6, 83, 0), (83, .aload_n 0, 84, 0), (84, .getfield 62, 87, 0), (87, .iload 5, 89, 0), (89, .iconst 1, 90, 0), (90, .iload_n 1, 91, 0), (91, .ishl, 92, 0), (92, .ior, 93, 0), (93, .iaload, 94, 0), (94, .aload_n 0, 95, 0), (95, .getfield 62, 98, 0), (98, .iload 5, 100, 0), (100, .iaload, 101, 0), (101, .isub, 102, 0), (102, .i2l, 103, 0), (103, .lmul, 104, 0), (104, .ladd, 105, 0), (105, .lstore_n 3, 106, 0), (106, .iinc 5 1, 109, 0), (109, .goto (-79), 112, 30), (112, .lload_n 3, 113, 0), (113, .aload_n 0, 114, 0), (114, .getfield 23, 117, 0), (117, .getfield 142, 120, 0), (120, .invokestatic 317, 123, 0), (123, .iload_n 2, 124, 0), (124, .invokestatic 321, 127, 0), (127, .l2i, 128, 0), (128, .ireturn, 129, 0)]
set_option maxRecDepth 100000 in
theorem L126_ok : L126.all (dck 126) = true := by decide +kernel
theorem d126 {j pc nx tg : Nat} {ins : Instr} (hj : L126[j]? = some (pc, ins, nx, tg)) : dcd 126 pc ins nx tg := dcl_ok L126_ok hj
set_option maxRecDepth 100000 in
set_option maxHeartbeats 4000000 in
theorem r126_0 {x1 x2 : Int} {R1 : dsMem → Prop} {R2 : dsMem → dsMem → Prop} {g2 : dsMem → dsMem → Int} {M : dsMem} {Q : bQT} (s1 : -2147483648 ≤ ((M 24 5) - 1) ∧ ((M 24 5) - 1) < 2147483648 := by intros; omega) (k1 : (¬ (0 ≤ x1 ∧ x1 ≤ (M 24 5) - 1)) → Q [uI (-1000000)] M) (hA1 : ((0 ≤ x1 ∧ x1 ≤ (M 24 5) - 1)) → ((0 ≤ x2 ∧ x2 ≤ 1)) → bCt 163 [uR 10 0, uX 0] M (fun _ => []) R1) (s2 : ((0 ≤ x1 ∧ x1 ≤ (M 24 5) - 1)) → ((0 ≤ x2 ∧ x2 ≤ 1)) → ∀ M1 : dsMem, R1 M1 → ∀ i126_1 : Int, ∀ a126_1 : Int, 0 ≤ i126_1 → i126_1 < (((dsShl 1 (M1 24 5)) - 1) + 1) → -2147483648 ≤ ((dsShl 1 (M1 24 5)) - 1) ∧ ((dsShl 1 (M1 24 5)) - 1) < 2147483648 := by intros; omega) (s3 : ((0 ≤ x1 ∧ x1 ≤ (M 24 5) - 1)) → ((0 ≤ x2 ∧ x2 ≤ 1)) → ∀ M1 : dsMem, R1 M1 → ∀ i126_1 : Int, ∀ a126_1 : Int, 0 ≤ i126_1 → i126_1 < (((dsShl 1 (M1 24 5)) - 1) + 1) → -2147483648 ≤ i126_1 + 1 ∧ i126_1 + 1 < 2147483648 := by intros; omega) (s4 : ((0 ≤ x1 ∧ x1 ≤ (M 24 5) - 1)) → ((0 ≤ x2 ∧ x2 ≤ 1)) → ∀ M1 : dsMem, R1 M1 → ∀ i126_1 : Int, ∀ a126_1 : Int, 0 ≤ i126_1 → i126_1 < (((dsShl 1 (M1 24 5)) - 1) + 1) → (¬ (dsAnd (dsShr i126_1 x1) 1 = 1)) → -2147483648 ≤ (i126_1 - (dsAnd (dsUsh i126_1 1) 1431655765)) ∧ (i126_1 - (dsAnd (dsUsh i126_1 1) 1431655765)) < 2147483648 := by intros; omega) (s5 : ((0 ≤ x1 ∧ x1 ≤ (M 24 5) - 1)) → ((0 ≤ x2 ∧ x2 ≤ 1)) → ∀ M1 : dsMem, R1 M1 → ∀ i126_1 : Int, ∀ a126_1 : Int, 0 ≤ i126_1 → i126_1 < (((dsShl 1 (M1 24 5)) - 1) + 1) → (¬ (dsAnd (dsShr i126_1 x1) 1 = 1)) → -2147483648 ≤ ((dsAnd (i126_1 - (dsAnd (dsUsh i126_1 1) 1431655765)) 858993459) + (dsAnd (dsUsh (i126_1 - (dsAnd (dsUsh i126_1 1) 1431655765)) 2) 858993459)) ∧ ((dsAnd (i126_1 - (dsAnd (dsUsh i126_1 1) 1431655765)) 858993459) + (dsAnd (dsUsh (i126_1 - (dsAnd (dsUsh i126_1 1) 1431655765)) 2) 858993459)) < 2147483648 := by intros; omega) (s6 : ((0 ≤ x1 ∧ x1 ≤ (M 24 5) - 1)) → ((0 ≤ x2 ∧ x2 ≤ 1)) → ∀ M1 : dsMem, R1 M1 → ∀ i126_1 : Int, ∀ a126_1 : Int, 0 ≤ i126_1 → i126_1 < (((dsShl 1 (M1 24 5)) - 1) + 1) → (¬ (dsAnd (dsShr i126_1 x1) 1 = 1)) → -2147483648 ≤ (((dsAnd (i126_1 - (dsAnd (dsUsh i126_1 1) 1431655765)) 858993459) + (dsAnd (dsUsh (i126_1 - (dsAnd (dsUsh i126_1 1) 1431655765)) 2) 858993459)) + (dsUsh ((dsAnd (i126_1 - (dsAnd (dsUsh i126_1 1) 1431655765)) 858993459) + (dsAnd (dsUsh (i126_1 - (dsAnd (dsUsh i126_1 1) 1431655765)) 2) 858993459)) 4)) ∧ (((dsAnd (i126_1 - (dsAnd (dsUsh i126_1 1) 1431655765)) 858993459) + (dsAnd (dsUsh (i126_1 - (dsAnd (dsUsh i126_1 1) 1431655765)) 2) 858993459)) + (dsUsh ((dsAnd (i126_1 - (dsAnd (dsUsh i126_1 1) 1431655765)) 858993459) + (dsAnd (dsUsh (i126_1 - (dsAnd (dsUsh i126_1 1) 1431655765)) 2) 858993459)) 4)) < 2147483648 := by intros; omega) (s7 : ((0 ≤ x1 ∧ x1 ≤ (M 24 5) - 1)) → ((0 ≤ x2 ∧ x2 ≤ 1)) → ∀ M1 : dsMem, R1 M1 → ∀ i126_1 : Int, ∀ a126_1 : Int, 0 ≤ i126_1 → i126_1 < (((dsShl 1 (M1 24 5)) - 1) + 1) → (¬ (dsAnd (dsShr i126_1 x1) 1 = 1)) → -2147483648 ≤ ((dsAnd (((dsAnd (i126_1 - (dsAnd (dsUsh i126_1 1) 1431655765)) 858993459) + (dsAnd (dsUsh (i126_1 - (dsAnd (dsUsh i126_1 1) 1431655765)) 2) 858993459)) + (dsUsh ((dsAnd (i126_1 - (dsAnd (dsUsh i126_1 1) 1431655765)) 858993459) + (dsAnd (dsUsh (i126_1 - (dsAnd (dsUsh i126_1 1) 1431655765)) 2) 858993459)) 4)) 252645135) + (dsUsh (dsAnd (((dsAnd (i126_1 - (dsAnd (dsUsh i126_1 1) 1431655765)) 858993459) + (dsAnd (dsUsh (i126_1 - (dsAnd (dsUsh i126_1 1) 1431655765)) 2) 858993459)) + (dsUsh ((dsAnd (i126_1 - (dsAnd (dsUsh i126_1 1) 1431655765)) 858993459) + (dsAnd (dsUsh (i126_1 - (dsAnd (dsUsh i126_1 1) 1431655765)) 2) 858993459)) 4)) 252645135) 8)) ∧ ((dsAnd (((dsAnd (i126_1 - (dsAnd (dsUsh i126_1 1) 1431655765)) 858993459) + (dsAnd (dsUsh (i126_1 - (dsAnd (dsUsh i126_1 1) 1431655765)) 2) 858993459)) + (dsUsh ((dsAnd (i126_1 - (dsAnd (dsUsh i126_1 1) 1431655765)) 858993459) + (dsAnd (dsUsh (i126_1 - (dsAnd (dsUsh i126_1 1) 1431655765)) 2) 858993459)) 4)) 252645135) + (dsUsh (dsAnd (((dsAnd (i126_1 - (dsAnd (dsUsh i126_1 1) 1431655765)) 858993459) + (dsAnd (dsUsh (i126_1 - (dsAnd (dsUsh i126_1 1) 1431655765)) 2) 858993459)) + (dsUsh ((dsAnd (i126_1 - (dsAnd (dsUsh i126_1 1) 1431655765)) 858993459) + (dsAnd (dsUsh (i126_1 - (dsAnd (dsUsh i126_1 1) 1431655765)) 2) 858993459)) 4)) 252645135) 8)) < 2147483648 := by intros; omega) (s8 : ((0 ≤ x1 ∧ x1 ≤ (M 24 5) - 1)) → ((0 ≤ x2 ∧ x2 ≤ 1)) → ∀ M1 : dsMem, R1 M1 → ∀ i126_1 : Int, ∀ a126_1 : Int, 0 ≤ i126_1 → i126_1 < (((dsShl 1 (M1 24 5)) - 1) + 1) → (¬ (dsAnd (dsShr i126_1 x1) 1 = 1)) → -2147483648 ≤ (((dsAnd (((dsAnd (i126_1 - (dsAnd (dsUsh i126_1 1) 1431655765)) 858993459) + (dsAnd (dsUsh (i126_1 - (dsAnd (dsUsh i126_1 1) 1431655765)) 2) 858993459)) + (dsUsh ((dsAnd (i126_1 - (dsAnd (dsUsh i126_1 1) 1431655765)) 858993459) + (dsAnd (dsUsh (i126_1 - (dsAnd (dsUsh i126_1 1) 1431655765)) 2) 858993459)) 4)) 252645135) + (dsUsh (dsAnd (((dsAnd (i126_1 - (dsAnd (dsUsh i126_1 1) 1431655765)) 858993459) + (dsAnd (dsUsh (i126_1 - (dsAnd (dsUsh i126_1 1) 1431655765)) 2) 858993459)) + (dsUsh ((dsAnd (i126_1 - (dsAnd (dsUsh i126_1 1) 1431655765)) 858993459) + (dsAnd (dsUsh (i126_1 - (dsAnd (dsUsh i126_1 1) 1431655765)) 2) 858993459)) 4)) 252645135) 8)) + (dsUsh ((dsAnd (((dsAnd (i126_1 - (dsAnd (dsUsh i126_1 1) 1431655765)) 858993459) + (dsAnd (dsUsh (i126_1 - (dsAnd (dsUsh i126_1 1) 1431655765)) 2) 858993459)) + (dsUsh ((dsAnd (i126_1 - (dsAnd (dsUsh i126_1 1) 1431655765)) 858993459) + (dsAnd (dsUsh (i126_1 - (dsAnd (dsUsh i126_1 1) 1431655765)) 2) 858993459)) 4)) 252645135) + (dsUsh (dsAnd (((dsAnd (i126_1 - (dsAnd (dsUsh i126_1 1) 1431655765)) 858993459) + (dsAnd (dsUsh (i126_1 - (dsAnd (dsUsh i126_1 1) 1431655765)) 2) 858993459)) + (dsUsh ((dsAnd (i126_1 - (dsAnd (dsUsh i126_1 1) 1431655765)) 858993459) + (dsAnd (dsUsh (i126_1 - (dsAnd (dsUsh i126_1 1) 1431655765)) 2) 858993459)) 4)) 252645135) 8)) 16)) ∧ (((dsAnd (((dsAnd (i126_1 - (dsAnd (dsUsh i126_1 1) 1431655765)) 858993459) + (dsAnd (dsUsh (i126_1 - (dsAnd (dsUsh i126_1 1) 1431655765)) 2) 858993459)) + (dsUsh ((dsAnd (i126_1 - (dsAnd (dsUsh i126_1 1) 1431655765)) 858993459) + (dsAnd (dsUsh (i126_1 - (dsAnd (dsUsh i126_1 1) 1431655765)) 2) 858993459)) 4)) 252645135) + (dsUsh (dsAnd (((dsAnd (i126_1 - (dsAnd (dsUsh i126_1 1) 1431655765)) 858993459) + (dsAnd (dsUsh (i126_1 - (dsAnd (dsUsh i126_1 1) 1431655765)) 2) 858993459)) + (dsUsh ((dsAnd (i126_1 - (dsAnd (dsUsh i126_1 1) 1431655765)) 858993459) + (dsAnd (dsUsh (i126_1 - (dsAnd (dsUsh i126_1 1) 1431655765)) 2) 858993459)) 4)) 252645135) 8)) + (dsUsh ((dsAnd (((dsAnd (i126_1 - (dsAnd (dsUsh i126_1 1) 1431655765)) 858993459) + (dsAnd (dsUsh (i126_1 - (dsAnd (dsUsh i126_1 1) 1431655765)) 2) 858993459)) + (dsUsh ((dsAnd (i126_1 - (dsAnd (dsUsh i126_1 1) 1431655765)) 858993459) + (dsAnd (dsUsh (i126_1 - (dsAnd (dsUsh i126_1 1) 1431655765)) 2) 858993459)) 4)) 252645135) + (dsUsh (dsAnd (((dsAnd (i126_1 - (dsAnd (dsUsh i126_1 1) 1431655765)) 858993459) + (dsAnd (dsUsh (i126_1 - (dsAnd (dsUsh i126_1 1) 1431655765)) 2) 858993459)) + (dsUsh ((dsAnd (i126_1 - (dsAnd (dsUsh i126_1 1) 1431655765)) 858993459) + (dsAnd (dsUsh (i126_1 - (dsAnd (dsUsh i126_1 1) 1431655765)) 2) 858993459)) 4)) 252645135) 8)) 16)) < 2147483648 := by intros; omega) (s9 : ((0 ≤ x1 ∧ x1 ≤ (M 24 5) - 1)) → ((0 ≤ x2 ∧ x2 ≤ 1)) → ∀ M1 : dsMem, R1 M1 → ∀ i126_1 : Int, ∀ a126_1 : Int, 0 ≤ i126_1 → i126_1 < (((dsShl 1 (M1 24 5)) - 1) + 1) → (¬ (dsAnd (dsShr i126_1 x1) 1 = 1)) → ∀ i165_1 : Int, ∀ a165_1 : Int, 2 ≤ i165_1 → i165_1 < ((v333 M1 i126_1) + 1) → -2147483648 ≤ i165_1 + 1 ∧ i165_1 + 1 < 2147483648 := by intros; omega) (s10 : ((0 ≤ x1 ∧ x1 ≤ (M 24 5) - 1)) → ((0 ≤ x2 ∧ x2 ≤ 1)) → ∀ M1 : dsMem, R1 M1 → ∀ i126_1 : Int, ∀ a126_1 : Int, 0 ≤ i126_1 → i126_1 < (((dsShl 1 (M1 24 5)) - 1) + 1) → (¬ (dsAnd (dsShr i126_1 x1) 1 = 1)) → ∀ i165_1 : Int, ∀ a165_1 : Int, 2 ≤ i165_1 → i165_1 < ((dsw ((((M1 24 5) - 1) - (v333 M1 i126_1)))) + 1) → -2147483648 ≤ i165_1 + 1 ∧ i165_1 + 1 < 2147483648 := by intros; omega) (s11 : ((0 ≤ x1 ∧ x1 ≤ (M 24 5) - 1)) → ((0 ≤ x2 ∧ x2 ≤ 1)) → ∀ M1 : dsMem, R1 M1 → ∀ i126_1 : Int, ∀ a126_1 : Int, 0 ≤ i126_1 → i126_1 < (((dsShl 1 (M1 24 5)) - 1) + 1) → (¬ (dsAnd (dsShr i126_1 x1) 1 = 1)) → 0 ≤ (dsOr i126_1 (dsShl 1 x1)) ∧ (dsOr i126_1 (dsShl 1 x1)) < 64 := by intros; omega) (s12 : ((0 ≤ x1 ∧ x1 ≤ (M 24 5) - 1)) → ((0 ≤ x2 ∧ x2 ≤ 1)) → ∀ M1 : dsMem, R1 M1 → ∀ i126_1 : Int, ∀ a126_1 : Int, 0 ≤ i126_1 → i126_1 < (((dsShl 1 (M1 24 5)) - 1) + 1) → (¬ (dsAnd (dsShr i126_1 x1) 1 = 1)) → 0 ≤ i126_1 ∧ i126_1 < 64 := by intros; omega) (s13 : ((0 ≤ x1 ∧ x1 ≤ (M 24 5) - 1)) → ((0 ≤ x2 ∧ x2 ≤ 1)) → ∀ M1 : dsMem, R1 M1 → ∀ i126_1 : Int, ∀ a126_1 : Int, 0 ≤ i126_1 → i126_1 < (((dsShl 1 (M1 24 5)) - 1) + 1) → (¬ (dsAnd (dsShr i126_1 x1) 1 = 1)) → -2147483648 ≤ ((M1 83 (dsOr i126_1 (dsShl 1 x1))) - (M1 83 i126_1)) ∧ ((M1 83 (dsOr i126_1 (dsShl 1 x1))) - (M1 83 i126_1)) < 2147483648 := by intros; omega) (s14 : ((0 ≤ x1 ∧ x1 ≤ (M 24 5) - 1)) → ((0 ≤ x2 ∧ x2 ≤ 1)) → ∀ M1 : dsMem, R1 M1 → -2147483648 ≤ ((dsShl 1 (M1 24 5)) - 1) ∧ ((dsShl 1 (M1 24 5)) - 1) < 2147483648 := by intros; omega) (s15 : ((0 ≤ x1 ∧ x1 ≤ (M 24 5) - 1)) → ((0 ≤ x2 ∧ x2 ≤ 1)) → ∀ M1 : dsMem, R1 M1 → ∀ i165_1 : Int, ∀ a165_1 : Int, 2 ≤ i165_1 → i165_1 < ((M1 24 5) + 1) → -2147483648 ≤ i165_1 + 1 ∧ i165_1 + 1 < 2147483648 := by intros; omega) (hA2 : ((0 ≤ x1 ∧ x1 ≤ (M 24 5) - 1)) → ((0 ≤ x2 ∧ x2 ≤ 1)) → ∀ M1 : dsMem, R1 M1 → bCt 166 [uJ (dsIter (fun (i126_1 : Int) (a126_1 : Int) => (if (dsAnd (dsShr i126_1 x1) 1 = 1) then a126_1 else (dsw64 ((a126_1 + ((dsw64 (((v165 M1 (v333 M1 i126_1)) * (v165 M1 (dsw ((((M1 24 5) - 1) - (v333 M1 i126_1)))))))) * ((M1 83 (dsOr i126_1 (dsShl 1 x1))) - (M1 83 i126_1)))))))) 0 (((dsShl 1 (M1 24 5)) - 1) + 1) 0), uX 0, uJ (v165 M1 (M1 24 5)), uX 0, uI x2, uX 0, uX 0, uX 0, uX 0, uX 0, uX 0, uX 0] M1 (fun M2 => [uJ (g2 M1 M2)]) (R2 M1)) (s16 : ((0 ≤ x1 ∧ x1 ≤ (M 24 5) - 1)) → ((0 ≤ x2 ∧ x2 ≤ 1)) → ∀ M1 : dsMem, R1 M1 → ∀ M2 : dsMem, R2 M1 M2 → -2147483648 ≤ (g2 M1 M2) ∧ (g2 M1 M2) < 2147483648 := by intros; omega) (k2 : ((0 ≤ x1 ∧ x1 ≤ (M 24 5) - 1)) → ((0 ≤ x2 ∧ x2 ≤ 1)) → ∀ M1 : dsMem, R1 M1 → ∀ M2 : dsMem, R2 M1 M2 → Q [uI (g2 M1 M2)] M2) (k3 : ((0 ≤ x1 ∧ x1 ≤ (M 24 5) - 1)) → (¬ (0 ≤ x2 ∧ x2 ≤ 1)) → Q [uI (-1000000)] M) :
    bB 126 0 [uR 10 0, uI x1, uI x2, uX 0, uX 0, uX 0, uX 0, uX 0] [] M Q := by
  refine b_aload_n (d126 (j := 0) rfl) rfl ?_
  refine b_iload_n (d126 (j := 1) rfl) rfl ?_
  refine b_callV (d126 (j := 2) rfl) rfl rfl (Or.inl rfl) rfl (bCk_mk (n := 0) (k := 2) (by decide +kernel) rfl rfl) (pu151 s1 ?_)
  refine b_stk [uI (if (0 ≤ x1 ∧ x1 ≤ (M 24 5) - 1) then 1 else 0)] rfl ?_
  refine b_ifeqP (d126 (j := 3) rfl) (fun c1 => ?_) (fun c1 => ?_)
  ·
    refine b_ldcw (d126 (j := 9) rfl) rfl ?_
    exact b_iret (d126 (j := 10) rfl) rfl (k1 c1)
  ·
    refine b_iload_n (d126 (j := 4) rfl) rfl ?_
    refine b_iconst (d126 (j := 5) rfl) (by decide) ?_
    refine b_iconst (d126 (j := 6) rfl) (by decide) ?_
    refine b_callS (d126 (j := 7) rfl) (Or.inl rfl) rfl (bCk_mk (n := 0) (k := 3) (by decide +kernel) rfl rfl) (pu144  ?_)
    refine b_stk [uI (if (0 ≤ x2 ∧ x2 ≤ 1) then 1 else 0)] rfl ?_
    refine b_ifneP (d126 (j := 8) rfl) (fun c2 => ?_) (fun c2 => ?_)
    ·
      refine b_aload_n (d126 (j := 11) rfl) rfl ?_
      refine b_callV (d126 (j := 12) rfl) rfl rfl (Or.inl rfl) rfl (bCk_mk (n := 0) (k := 1) (by decide +kernel) rfl rfl) ((hA1 c1 c2) _ (fun M1 hR1 => ?_))
      refine b_stk [] rfl ?_
      refine b_lconst (d126 (j := 13) rfl) ?_
      refine b_stk [uJ 0] rfl ?_
      refine b_lstore_n [uR 10 0, uI x1, uI x2, uJ 0, uX 0, uX 0, uX 0, uX 0] (d126 (j := 14) rfl) (by decide) rfl ?_
      refine b_iconst (d126 (j := 15) rfl) (by decide) ?_
      refine b_istore [uR 10 0, uI x1, uI x2, uJ 0, uX 0, uI 0, uX 0, uX 0] (d126 (j := 16) rfl) (by decide) rfl ?_
      refine b_for (fun (i126_1 : Int) (a126_1 : Int) => [uR 10 0, uI x1, uI x2, uJ a126_1, uX 0, uI i126_1, uX 0, uX 0]) (fun (i126_1 : Int) (a126_1 : Int) => (if (dsAnd (dsShr i126_1 x1) 1 = 1) then a126_1 else (dsw64 ((a126_1 + ((dsw64 (((v165 M1 (v333 M1 i126_1)) * (v165 M1 (dsw ((((M1 24 5) - 1) - (v333 M1 i126_1)))))))) * ((M1 83 (dsOr i126_1 (dsShl 1 x1))) - (M1 83 i126_1)))))))) 0 (((dsShl 1 (M1 24 5)) - 1) + 1) 0 (fun i126_1 a126_1 h126_1l h126_1r hk126_1 => ?_) (fun i126_1 h126_1l h126_1r => ?_)
      ·
        refine b_iload (d126 (j := 17) rfl) rfl ?_
        refine b_aload_n (d126 (j := 18) rfl) rfl ?_
        refine b_getR (d126 (j := 19) rfl) rfl rfl rfl rfl ?_
        refine b_stk [uR 4 24, uI i126_1] rfl ?_
        refine b_callV (d126 (j := 20) rfl) rfl rfl (Or.inl rfl) rfl (bCk_mk (n := 1) (k := 1) (by decide +kernel) rfl rfl) (pu64 (s2 c1 c2 M1 hR1 i126_1 a126_1 h126_1l h126_1r) ?_)
        refine b_stk [uI ((dsShl 1 (M1 24 5)) - 1), uI i126_1] rfl ?_
        refine b_icmp_gt (d126 (j := 21) rfl) (fun c3 => ?_) (fun c3 => ?_)
        · exfalso; omega
        ·
          refine b_iload (d126 (j := 22) rfl) rfl ?_
          refine b_iload_n (d126 (j := 23) rfl) rfl ?_
          refine b_callS (d126 (j := 24) rfl) (Or.inl rfl) rfl (bCk_mk (n := 0) (k := 2) (by decide +kernel) rfl rfl) (pu145 ?_)
          refine b_stk [uI (if (dsAnd (dsShr i126_1 x1) 1 = 1) then 1 else 0)] rfl ?_
          refine b_ifneP (d126 (j := 25) rfl) (fun c4 => ?_) (fun c4 => ?_)
          ·
            rw [if_pos c4] at hk126_1
            refine b_iinc [uR 10 0, uI x1, uI x2, uJ a126_1, uX 0, uI (i126_1 + 1), uX 0, uX 0] (d126 (j := 59) rfl) rfl (by decide) (s3 c1 c2 M1 hR1 i126_1 a126_1 h126_1l h126_1r) rfl ?_
            refine b_goto (d126 (j := 60) rfl) ?_
            exact hk126_1
          ·
            rw [if_neg c4] at hk126_1
            refine b_iload (d126 (j := 26) rfl) rfl ?_
            refine b_callS (d126 (j := 27) rfl) (Or.inl rfl) rfl (bCk_mk (n := 0) (k := 1) (by decide +kernel) rfl rfl) (fx333 (s4 c1 c2 M1 hR1 i126_1 a126_1 h126_1l h126_1r c4) (s5 c1 c2 M1 hR1 i126_1 a126_1 h126_1l h126_1r c4) (s6 c1 c2 M1 hR1 i126_1 a126_1 h126_1l h126_1r c4) (s7 c1 c2 M1 hR1 i126_1 a126_1 h126_1l h126_1r c4) (s8 c1 c2 M1 hR1 i126_1 a126_1 h126_1l h126_1r c4) ?_)
            refine b_stk [uI (v333 M1 i126_1)] rfl ?_
            refine b_callS (d126 (j := 28) rfl) (Or.inl rfl) rfl (bCk_mk (n := 0) (k := 1) (by decide +kernel) rfl rfl) (fx165 (s9 c1 c2 M1 hR1 i126_1 a126_1 h126_1l h126_1r c4) ?_)
            refine b_stk [uJ (v165 M1 (v333 M1 i126_1))] rfl ?_
            refine b_aload_n (d126 (j := 29) rfl) rfl ?_
            refine b_getR (d126 (j := 30) rfl) rfl rfl rfl rfl ?_
            refine b_stk [uR 4 24, uJ (v165 M1 (v333 M1 i126_1))] rfl ?_
            refine b_getI (d126 (j := 31) rfl) rfl rfl rfl rfl (Or.inl rfl) ?_
            refine b_stk [uI (M1 24 5), uJ (v165 M1 (v333 M1 i126_1))] rfl ?_
            refine b_iconst (d126 (j := 32) rfl) (by decide) ?_
            refine b_isub (d126 (j := 33) rfl) rfl rfl ?_
            refine b_iload (d126 (j := 34) rfl) rfl ?_
            refine b_callS (d126 (j := 35) rfl) (Or.inl rfl) rfl (bCk_mk (n := 3) (k := 1) (by decide +kernel) rfl rfl) (fx333 (s4 c1 c2 M1 hR1 i126_1 a126_1 h126_1l h126_1r c4) (s5 c1 c2 M1 hR1 i126_1 a126_1 h126_1l h126_1r c4) (s6 c1 c2 M1 hR1 i126_1 a126_1 h126_1l h126_1r c4) (s7 c1 c2 M1 hR1 i126_1 a126_1 h126_1l h126_1r c4) (s8 c1 c2 M1 hR1 i126_1 a126_1 h126_1l h126_1r c4) ?_)
            refine b_stk [uI (v333 M1 i126_1), uI (dsw (((M1 24 5) - 1))), uJ (v165 M1 (v333 M1 i126_1))] rfl ?_
            refine b_isub (d126 (j := 36) rfl) (dsw_dsw _) rfl ?_
            refine b_callS (d126 (j := 37) rfl) (Or.inl rfl) rfl (bCk_mk (n := 2) (k := 1) (by decide +kernel) rfl rfl) (fx165 (s10 c1 c2 M1 hR1 i126_1 a126_1 h126_1l h126_1r c4) ?_)
            refine b_stk [uJ (v165 M1 (dsw ((((M1 24 5) - 1) - (v333 M1 i126_1))))), uJ (v165 M1 (v333 M1 i126_1))] rfl ?_
            refine b_lmul (d126 (j := 38) rfl) rfl rfl ?_
            refine b_lstore [uR 10 0, uI x1, uI x2, uJ a126_1, uX 0, uI i126_1, uJ (dsw64 (((v165 M1 (v333 M1 i126_1)) * (v165 M1 (dsw ((((M1 24 5) - 1) - (v333 M1 i126_1)))))))), uX 0] (d126 (j := 39) rfl) (by decide) rfl ?_
            refine b_lload_n (d126 (j := 40) rfl) rfl ?_
            refine b_lload (d126 (j := 41) rfl) rfl ?_
            refine b_aload_n (d126 (j := 42) rfl) rfl ?_
            refine b_getR (d126 (j := 43) rfl) rfl rfl rfl rfl ?_
            refine b_stk [uR 37 83, uJ (dsw64 (((v165 M1 (v333 M1 i126_1)) * (v165 M1 (dsw ((((M1 24 5) - 1) - (v333 M1 i126_1)))))))), uJ a126_1] rfl ?_
            refine b_iload (d126 (j := 44) rfl) rfl ?_
            refine b_iconst (d126 (j := 45) rfl) (by decide) ?_
            refine b_iload_n (d126 (j := 46) rfl) rfl ?_
            refine b_ishl (d126 (j := 47) rfl) ?_
            refine b_ior (d126 (j := 48) rfl) ?_
            refine b_iaload (d126 (j := 49) rfl) rfl (s11 c1 c2 M1 hR1 i126_1 a126_1 h126_1l h126_1r c4) ?_
            refine b_aload_n (d126 (j := 50) rfl) rfl ?_
            refine b_getR (d126 (j := 51) rfl) rfl rfl rfl rfl ?_
            refine b_stk [uR 37 83, uI (M1 83 (dsOr i126_1 (dsShl 1 x1))), uJ (dsw64 (((v165 M1 (v333 M1 i126_1)) * (v165 M1 (dsw ((((M1 24 5) - 1) - (v333 M1 i126_1)))))))), uJ a126_1] rfl ?_
            refine b_iload (d126 (j := 52) rfl) rfl ?_
            refine b_iaload (d126 (j := 53) rfl) rfl (s12 c1 c2 M1 hR1 i126_1 a126_1 h126_1l h126_1r c4) ?_
            refine b_isub (d126 (j := 54) rfl) rfl rfl ?_
            refine b_stk [uI ((M1 83 (dsOr i126_1 (dsShl 1 x1))) - (M1 83 i126_1)), uJ (dsw64 (((v165 M1 (v333 M1 i126_1)) * (v165 M1 (dsw ((((M1 24 5) - 1) - (v333 M1 i126_1)))))))), uJ a126_1] (by rw [dsw_r (s13 c1 c2 M1 hR1 i126_1 a126_1 h126_1l h126_1r c4)]) ?_
            refine b_i2l (d126 (j := 55) rfl) ?_
            refine b_lmul (d126 (j := 56) rfl) rfl rfl ?_
            refine b_ladd (d126 (j := 57) rfl) rfl (dsw64_dsw _) ?_
            refine b_lstore_n [uR 10 0, uI x1, uI x2, uJ (dsw64 ((a126_1 + ((dsw64 (((v165 M1 (v333 M1 i126_1)) * (v165 M1 (dsw ((((M1 24 5) - 1) - (v333 M1 i126_1)))))))) * ((M1 83 (dsOr i126_1 (dsShl 1 x1))) - (M1 83 i126_1)))))), uX 0, uI i126_1, uJ (dsw64 (((v165 M1 (v333 M1 i126_1)) * (v165 M1 (dsw ((((M1 24 5) - 1) - (v333 M1 i126_1)))))))), uX 0] (d126 (j := 58) rfl) (by decide) rfl ?_
            refine b_iinc [uR 10 0, uI x1, uI x2, uJ (dsw64 ((a126_1 + ((dsw64 (((v165 M1 (v333 M1 i126_1)) * (v165 M1 (dsw ((((M1 24 5) - 1) - (v333 M1 i126_1)))))))) * ((M1 83 (dsOr i126_1 (dsShl 1 x1))) - (M1 83 i126_1)))))), uX 0, uI (i126_1 + 1), uJ (dsw64 (((v165 M1 (v333 M1 i126_1)) * (v165 M1 (dsw ((((M1 24 5) - 1) - (v333 M1 i126_1)))))))), uX 0] (d126 (j := 59) rfl) rfl (by decide) (s3 c1 c2 M1 hR1 i126_1 a126_1 h126_1l h126_1r) rfl ?_
            refine b_goto (d126 (j := 60) rfl) ?_
            exact bB_le _ (bLe_s (bLe_s (bLe_s (bLe_s (bLe_s (bLe_s (bLe_x (bLe_s bLe_nil)))))))) hk126_1
      ·
        refine b_iload (d126 (j := 17) rfl) rfl ?_
        refine b_aload_n (d126 (j := 18) rfl) rfl ?_
        refine b_getR (d126 (j := 19) rfl) rfl rfl rfl rfl ?_
        refine b_stk [uR 4 24, uI i126_1] rfl ?_
        refine b_callV (d126 (j := 20) rfl) rfl rfl (Or.inl rfl) rfl (bCk_mk (n := 1) (k := 1) (by decide +kernel) rfl rfl) (pu64 (s14 c1 c2 M1 hR1) ?_)
        refine b_stk [uI ((dsShl 1 (M1 24 5)) - 1), uI i126_1] rfl ?_
        refine b_icmp_gt (d126 (j := 21) rfl) (fun c5 => ?_) (fun c5 => ?_)
        rotate_left
        · exfalso; omega
        ·
          refine b_lload_n (d126 (j := 61) rfl) rfl ?_
          refine b_aload_n (d126 (j := 62) rfl) rfl ?_
          refine b_getR (d126 (j := 63) rfl) rfl rfl rfl rfl ?_
          refine b_stk [uR 4 24, uJ (dsIter (fun (i126_1 : Int) (a126_1 : Int) => (if (dsAnd (dsShr i126_1 x1) 1 = 1) then a126_1 else (dsw64 ((a126_1 + ((dsw64 (((v165 M1 (v333 M1 i126_1)) * (v165 M1 (dsw ((((M1 24 5) - 1) - (v333 M1 i126_1)))))))) * ((M1 83 (dsOr i126_1 (dsShl 1 x1))) - (M1 83 i126_1)))))))) 0 (((dsShl 1 (M1 24 5)) - 1) + 1) 0)] rfl ?_
          refine b_getI (d126 (j := 64) rfl) rfl rfl rfl rfl (Or.inl rfl) ?_
          refine b_stk [uI (M1 24 5), uJ (dsIter (fun (i126_1 : Int) (a126_1 : Int) => (if (dsAnd (dsShr i126_1 x1) 1 = 1) then a126_1 else (dsw64 ((a126_1 + ((dsw64 (((v165 M1 (v333 M1 i126_1)) * (v165 M1 (dsw ((((M1 24 5) - 1) - (v333 M1 i126_1)))))))) * ((M1 83 (dsOr i126_1 (dsShl 1 x1))) - (M1 83 i126_1)))))))) 0 (((dsShl 1 (M1 24 5)) - 1) + 1) 0)] rfl ?_
          refine b_callS (d126 (j := 65) rfl) (Or.inl rfl) rfl (bCk_mk (n := 2) (k := 1) (by decide +kernel) rfl rfl) (fx165 (s15 c1 c2 M1 hR1) ?_)
          refine b_stk [uJ (v165 M1 (M1 24 5)), uJ (dsIter (fun (i126_1 : Int) (a126_1 : Int) => (if (dsAnd (dsShr i126_1 x1) 1 = 1) then a126_1 else (dsw64 ((a126_1 + ((dsw64 (((v165 M1 (v333 M1 i126_1)) * (v165 M1 (dsw ((((M1 24 5) - 1) - (v333 M1 i126_1)))))))) * ((M1 83 (dsOr i126_1 (dsShl 1 x1))) - (M1 83 i126_1)))))))) 0 (((dsShl 1 (M1 24 5)) - 1) + 1) 0)] rfl ?_
          refine b_iload_n (d126 (j := 66) rfl) rfl ?_
          refine b_callS (d126 (j := 67) rfl) (Or.inl rfl) rfl (bCk_mk (n := 0) (k := 5) (by decide +kernel) rfl rfl) ((hA2 c1 c2 M1 hR1) _ (fun M2 hR2 => ?_))
          refine b_stk [uJ (g2 M1 M2)] rfl ?_
          refine b_l2i (d126 (j := 68) rfl) rfl ?_
          refine b_stk [uI (g2 M1 M2)] (by rw [dsw_r (s16 c1 c2 M1 hR1 M2 hR2)]) ?_
          exact b_iret (d126 (j := 69) rfl) rfl (k2 c1 c2 M1 hR1 M2 hR2)
    ·
      refine b_ldcw (d126 (j := 9) rfl) rfl ?_
      exact b_iret (d126 (j := 10) rfl) rfl (k3 c1 c2)
def L127 : List (Nat × Instr × Nat × Nat) := [(0, .aload_n 0, 1, 0), (1, .iload_n 1, 2, 0), (2, .invokevirtual 114, 5, 0), (5, .ifCond .eq 16, 8, 21), (8, .aload_n 0, 9, 0), (9, .iload_n 2, 10, 0), (10, .invokevirtual 114, 13, 0), (13, .ifCond .eq 8, 16, 21), (16, .iload_n 1, 17, 0), (17, .iload_n 2, 18, 0), (18, .if_icmp .ne 6, 21, 24), (21, .bipush (-2), 23, 0), (23, .ireturn, 24, 0), (24, .iconst 0, 25, 0), (25, .istore_n 3, 26, 0), (26, .iconst 0, 27, 0), (27, .istore 4, 29, 0), (29, .iload 4, 31, 0), (31, .iconst 1, 32, 0), (32, .if_icmp .gt 110, 35, 142), (35, .iconst 0, 36, 0), (36, .istore 5, 38, 0), (38, .iload 5, 40, 0), (40, .iconst 1, 41, 0), (41, .if_icmp .gt 95, 44, 136), (44, .aload_n 0, 45, 0), (45, .iload_n 1, 46, 0), (46, .iload_n 2, 47, 0), (47, .iload 4, 49, 0), (49, .iload 5, 51, 0), (51, .invokevirtual 325, 54, 0), (54, .aload_n 0, 55, 0), (55, .iload_n 1, 56, 0), (56, .iload_n 2, 57, 0), (57, .iconst 1, 58, 0), (58, .iload 4, 60, 0), (60, .isub, 61, 0), (61, .iload 5, 63, 0), (63, .invokevirtual 325, 66, 0), (66, .if_icmp .lt 7, 69, 73), (69, .iconst 1, 70, 0), (70, .goto 4, 73, 74), (73, .iconst 0, 74, 0), (74, .istore 6, 76, 0), (76, .aload_n 0, 77, 0), (77, .iload_n 2, 78, 0), (78, .iload_n 1, 79, 0), (79, .iload 5, 81, 0), (81, .iload 4, 83, 0), (83, .invokevirtual 325, 86, 0), (86, .aload_n 0, 87, 0), (87, .iload_n 2, 88, 0), (88, .iload_n 1, 89, 0), (89, .iconst 1, 90, 0), (90, .iload 5, 92, 0), (92, .isub, 93, 0), (93, .iload 4, 95, 0), (95, .invokevirtual 325, 98, 0), (98, .if_icmp .lt 7, 101, 105), (101, .iconst 1, 102, 0), (102, .goto 4, 105, 106), (105, .iconst 0, 106, 0), (106, .istore 7, 108, 0), (108, .iload 6, 110, 0), (110, .ifCond .eq 20, 113, 130), (113, .iload 7, 115, 0), (115, .ifCond .eq 15, 118, 130), (118, .iload_n 3, 119, 0), (119, .iconst 1, 120, 0), (120, .iload 4, 122, 0), (122, .iconst 2, 123, 0), (123, .iload 5, 125, 0), (125, .imul, 126, 0), (126, .iadd, 127, 0), (127, .ishl, 128, 0), (128, .ior, 129, 0), (129, .istore_n 3, 130, 0), (130, .iinc 5 1, 133, 0), (133, .goto (-95), 136, 38), (136, .iinc 4 1, 139, 0), (139, .goto (-110), 142, 29), (142, .iload_n 3, 143, 0), (143, .ireturn, 144, 0)]
set_option maxRecDepth 100000 in
theorem L127_ok : L127.all (dck 127) = true := by decide +kernel
theorem d127 {j pc nx tg : Nat} {ins : Instr} (hj : L127[j]? = some (pc, ins, nx, tg)) : dcd 127 pc ins nx tg := dcl_ok L127_ok hj
set_option maxRecDepth 100000 in
set_option maxHeartbeats 4000000 in
theorem r127_0 {x1 x2 : Int}  {M : dsMem} {Q : bQT} (s1 : -2147483648 ≤ ((M 24 5) - 1) ∧ ((M 24 5) - 1) < 2147483648 := by intros; omega) (k1 : (¬ (0 ≤ x1 ∧ x1 ≤ (M 24 5) - 1)) → Q [uI (-2)] M) (k2 : ((0 ≤ x1 ∧ x1 ≤ (M 24 5) - 1)) → (¬ (0 ≤ x2 ∧ x2 ≤ (M 24 5) - 1)) → Q [uI (-2)] M) (k3 : ((0 ≤ x1 ∧ x1 ≤ (M 24 5) - 1)) → ((0 ≤ x2 ∧ x2 ≤ (M 24 5) - 1)) → (¬ x1 = x2) → bB 127 29 [uR 10 0, uI x1, uI x2, uI 0, uI 0, uX 0, uX 0, uX 0] [] M Q) (k4 : ((0 ≤ x1 ∧ x1 ≤ (M 24 5) - 1)) → ((0 ≤ x2 ∧ x2 ≤ (M 24 5) - 1)) → (x1 = x2) → Q [uI (-2)] M) :
    bB 127 0 [uR 10 0, uI x1, uI x2, uX 0, uX 0, uX 0, uX 0, uX 0] [] M Q := by
  refine b_aload_n (d127 (j := 0) rfl) rfl ?_
  refine b_iload_n (d127 (j := 1) rfl) rfl ?_
  refine b_callV (d127 (j := 2) rfl) rfl rfl (Or.inl rfl) rfl (bCk_mk (n := 0) (k := 2) (by decide +kernel) rfl rfl) (pu151 s1 ?_)
  refine b_stk [uI (if (0 ≤ x1 ∧ x1 ≤ (M 24 5) - 1) then 1 else 0)] rfl ?_
  refine b_ifeqP (d127 (j := 3) rfl) (fun c1 => ?_) (fun c1 => ?_)
  ·
    refine b_bipush (d127 (j := 11) rfl) (by decide) ?_
    exact b_iret (d127 (j := 12) rfl) rfl (k1 c1)
  ·
    refine b_aload_n (d127 (j := 4) rfl) rfl ?_
    refine b_iload_n (d127 (j := 5) rfl) rfl ?_
    refine b_callV (d127 (j := 6) rfl) rfl rfl (Or.inl rfl) rfl (bCk_mk (n := 0) (k := 2) (by decide +kernel) rfl rfl) (pu151 s1 ?_)
    refine b_stk [uI (if (0 ≤ x2 ∧ x2 ≤ (M 24 5) - 1) then 1 else 0)] rfl ?_
    refine b_ifeqP (d127 (j := 7) rfl) (fun c2 => ?_) (fun c2 => ?_)
    ·
      refine b_bipush (d127 (j := 11) rfl) (by decide) ?_
      exact b_iret (d127 (j := 12) rfl) rfl (k2 c1 c2)
    ·
      refine b_iload_n (d127 (j := 8) rfl) rfl ?_
      refine b_iload_n (d127 (j := 9) rfl) rfl ?_
      refine b_icmp_ne (d127 (j := 10) rfl) (fun c3 => ?_) (fun c3 => ?_)
      ·
        refine b_iconst (d127 (j := 13) rfl) (by decide) ?_
        refine b_istore_n [uR 10 0, uI x1, uI x2, uI 0, uX 0, uX 0, uX 0, uX 0] (d127 (j := 14) rfl) (by decide) rfl ?_
        refine b_iconst (d127 (j := 15) rfl) (by decide) ?_
        refine b_istore [uR 10 0, uI x1, uI x2, uI 0, uI 0, uX 0, uX 0, uX 0] (d127 (j := 16) rfl) (by decide) rfl ?_
        exact (k3 c1 c2 c3)
      ·
        refine b_bipush (d127 (j := 11) rfl) (by decide) ?_
        exact b_iret (d127 (j := 12) rfl) rfl (k4 c1 c2 c3)
set_option maxRecDepth 100000 in
set_option maxHeartbeats 4000000 in
theorem r127_29 {x1 x2 x3 x4 : Int}  {M : dsMem} {Q : bQT} (k1 : (1 < x4) → Q [uI x3] M) (k2 : (¬ 1 < x4) → bB 127 38 [uR 10 0, uI x1, uI x2, uI x3, uI x4, uI 0, uX 0, uX 0] [] M Q) :
    bB 127 29 [uR 10 0, uI x1, uI x2, uI x3, uI x4, uX 0, uX 0, uX 0] [] M Q := by
  refine b_iload (d127 (j := 17) rfl) rfl ?_
  refine b_iconst (d127 (j := 18) rfl) (by decide) ?_
  refine b_icmp_gt (d127 (j := 19) rfl) (fun c1 => ?_) (fun c1 => ?_)
  ·
    refine b_iload_n (d127 (j := 81) rfl) rfl ?_
    exact b_iret (d127 (j := 82) rfl) rfl (k1 c1)
  ·
    refine b_iconst (d127 (j := 20) rfl) (by decide) ?_
    refine b_istore [uR 10 0, uI x1, uI x2, uI x3, uI x4, uI 0, uX 0, uX 0] (d127 (j := 21) rfl) (by decide) rfl ?_
    exact (k2 c1)
set_option maxRecDepth 100000 in
set_option maxHeartbeats 4000000 in
theorem r127_38 {x1 x2 x3 x4 x5 : Int} {R1 : dsMem → Prop} {g1 : dsMem → Int} {R2 : dsMem → dsMem → Prop} {g2 : dsMem → dsMem → Int} {R3 : dsMem → dsMem → dsMem → Prop} {g3 : dsMem → dsMem → dsMem → Int} {R4 : dsMem → dsMem → dsMem → dsMem → Prop} {g4 : dsMem → dsMem → dsMem → dsMem → Int} {R5 : dsMem → dsMem → dsMem → Prop} {g5 : dsMem → dsMem → dsMem → Int} {R6 : dsMem → dsMem → dsMem → dsMem → Prop} {g6 : dsMem → dsMem → dsMem → dsMem → Int} {M : dsMem} {Q : bQT} (s1 : (1 < x5) → -2147483648 ≤ x4 + 1 ∧ x4 + 1 < 2147483648 := by intros; omega) (k1 : (1 < x5) → bB 127 29 [uR 10 0, uI x1, uI x2, uI x3, uI (x4 + 1), uX 0, uX 0, uX 0] [] M Q) (hA1 : (¬ 1 < x5) → bCt 164 [uR 10 0, uI x1, uI x2, uI x4, uI x5, uX 0, uX 0] M (fun M1 => [uI (g1 M1)]) R1) (s2 : (¬ 1 < x5) → ∀ M1 : dsMem, R1 M1 → -2147483648 ≤ (1 - x4) ∧ (1 - x4) < 2147483648 := by intros; omega) (hA2 : (¬ 1 < x5) → ∀ M1 : dsMem, R1 M1 → bCt 164 [uR 10 0, uI x1, uI x2, uI (1 - x4), uI x5, uX 0, uX 0] M1 (fun M2 => [uI (g2 M1 M2)]) (R2 M1)) (hA3 : (¬ 1 < x5) → ∀ M1 : dsMem, R1 M1 → ∀ M2 : dsMem, R2 M1 M2 → ((g1 M1) < (g2 M1 M2)) → bCt 164 [uR 10 0, uI x2, uI x1, uI x5, uI x4, uX 0, uX 0] M2 (fun M3 => [uI (g3 M1 M2 M3)]) (R3 M1 M2)) (s3 : (¬ 1 < x5) → ∀ M1 : dsMem, R1 M1 → ∀ M2 : dsMem, R2 M1 M2 → ((g1 M1) < (g2 M1 M2)) → ∀ M3 : dsMem, R3 M1 M2 M3 → -2147483648 ≤ (1 - x5) ∧ (1 - x5) < 2147483648 := by intros; omega) (hA4 : (¬ 1 < x5) → ∀ M1 : dsMem, R1 M1 → ∀ M2 : dsMem, R2 M1 M2 → ((g1 M1) < (g2 M1 M2)) → ∀ M3 : dsMem, R3 M1 M2 M3 → bCt 164 [uR 10 0, uI x2, uI x1, uI (1 - x5), uI x4, uX 0, uX 0] M3 (fun M4 => [uI (g4 M1 M2 M3 M4)]) (R4 M1 M2 M3)) (s4 : (¬ 1 < x5) → ∀ M1 : dsMem, R1 M1 → ∀ M2 : dsMem, R2 M1 M2 → ((g1 M1) < (g2 M1 M2)) → ∀ M3 : dsMem, R3 M1 M2 M3 → ∀ M4 : dsMem, R4 M1 M2 M3 M4 → ((g3 M1 M2 M3) < (g4 M1 M2 M3 M4)) → -2147483648 ≤ x5 + 1 ∧ x5 + 1 < 2147483648 := by intros; omega) (k2 : (¬ 1 < x5) → ∀ M1 : dsMem, R1 M1 → ∀ M2 : dsMem, R2 M1 M2 → ((g1 M1) < (g2 M1 M2)) → ∀ M3 : dsMem, R3 M1 M2 M3 → ∀ M4 : dsMem, R4 M1 M2 M3 M4 → ((g3 M1 M2 M3) < (g4 M1 M2 M3 M4)) → bB 127 38 [uR 10 0, uI x1, uI x2, uI x3, uI x4, uI (x5 + 1), uX 0, uX 0] [] M4 Q) (s5 : (¬ 1 < x5) → ∀ M1 : dsMem, R1 M1 → ∀ M2 : dsMem, R2 M1 M2 → ((g1 M1) < (g2 M1 M2)) → ∀ M3 : dsMem, R3 M1 M2 M3 → ∀ M4 : dsMem, R4 M1 M2 M3 M4 → (¬ (g3 M1 M2 M3) < (g4 M1 M2 M3 M4)) → -2147483648 ≤ x5 + 1 ∧ x5 + 1 < 2147483648 := by intros; omega) (k3 : (¬ 1 < x5) → ∀ M1 : dsMem, R1 M1 → ∀ M2 : dsMem, R2 M1 M2 → ((g1 M1) < (g2 M1 M2)) → ∀ M3 : dsMem, R3 M1 M2 M3 → ∀ M4 : dsMem, R4 M1 M2 M3 M4 → (¬ (g3 M1 M2 M3) < (g4 M1 M2 M3 M4)) → bB 127 38 [uR 10 0, uI x1, uI x2, uI x3, uI x4, uI (x5 + 1), uX 0, uX 0] [] M4 Q) (hA5 : (¬ 1 < x5) → ∀ M1 : dsMem, R1 M1 → ∀ M2 : dsMem, R2 M1 M2 → (¬ (g1 M1) < (g2 M1 M2)) → bCt 164 [uR 10 0, uI x2, uI x1, uI x5, uI x4, uX 0, uX 0] M2 (fun M5 => [uI (g5 M1 M2 M5)]) (R5 M1 M2)) (s6 : (¬ 1 < x5) → ∀ M1 : dsMem, R1 M1 → ∀ M2 : dsMem, R2 M1 M2 → (¬ (g1 M1) < (g2 M1 M2)) → ∀ M5 : dsMem, R5 M1 M2 M5 → -2147483648 ≤ (1 - x5) ∧ (1 - x5) < 2147483648 := by intros; omega) (hA6 : (¬ 1 < x5) → ∀ M1 : dsMem, R1 M1 → ∀ M2 : dsMem, R2 M1 M2 → (¬ (g1 M1) < (g2 M1 M2)) → ∀ M5 : dsMem, R5 M1 M2 M5 → bCt 164 [uR 10 0, uI x2, uI x1, uI (1 - x5), uI x4, uX 0, uX 0] M5 (fun M6 => [uI (g6 M1 M2 M5 M6)]) (R6 M1 M2 M5)) (s7 : (¬ 1 < x5) → ∀ M1 : dsMem, R1 M1 → ∀ M2 : dsMem, R2 M1 M2 → (¬ (g1 M1) < (g2 M1 M2)) → ∀ M5 : dsMem, R5 M1 M2 M5 → ∀ M6 : dsMem, R6 M1 M2 M5 M6 → ((g5 M1 M2 M5) < (g6 M1 M2 M5 M6)) → -2147483648 ≤ x5 + 1 ∧ x5 + 1 < 2147483648 := by intros; omega) (k4 : (¬ 1 < x5) → ∀ M1 : dsMem, R1 M1 → ∀ M2 : dsMem, R2 M1 M2 → (¬ (g1 M1) < (g2 M1 M2)) → ∀ M5 : dsMem, R5 M1 M2 M5 → ∀ M6 : dsMem, R6 M1 M2 M5 M6 → ((g5 M1 M2 M5) < (g6 M1 M2 M5 M6)) → bB 127 38 [uR 10 0, uI x1, uI x2, uI x3, uI x4, uI (x5 + 1), uX 0, uX 0] [] M6 Q) (s8 : (¬ 1 < x5) → ∀ M1 : dsMem, R1 M1 → ∀ M2 : dsMem, R2 M1 M2 → (¬ (g1 M1) < (g2 M1 M2)) → ∀ M5 : dsMem, R5 M1 M2 M5 → ∀ M6 : dsMem, R6 M1 M2 M5 M6 → (¬ (g5 M1 M2 M5) < (g6 M1 M2 M5 M6)) → -2147483648 ≤ (x4 + (2 * x5)) ∧ (x4 + (2 * x5)) < 2147483648 := by intros; omega) (s9 : (¬ 1 < x5) → ∀ M1 : dsMem, R1 M1 → ∀ M2 : dsMem, R2 M1 M2 → (¬ (g1 M1) < (g2 M1 M2)) → ∀ M5 : dsMem, R5 M1 M2 M5 → ∀ M6 : dsMem, R6 M1 M2 M5 M6 → (¬ (g5 M1 M2 M5) < (g6 M1 M2 M5 M6)) → -2147483648 ≤ x5 + 1 ∧ x5 + 1 < 2147483648 := by intros; omega) (k5 : (¬ 1 < x5) → ∀ M1 : dsMem, R1 M1 → ∀ M2 : dsMem, R2 M1 M2 → (¬ (g1 M1) < (g2 M1 M2)) → ∀ M5 : dsMem, R5 M1 M2 M5 → ∀ M6 : dsMem, R6 M1 M2 M5 M6 → (¬ (g5 M1 M2 M5) < (g6 M1 M2 M5 M6)) → bB 127 38 [uR 10 0, uI x1, uI x2, uI (dsOr x3 (dsShl 1 (x4 + (2 * x5)))), uI x4, uI (x5 + 1), uX 0, uX 0] [] M6 Q) :
    bB 127 38 [uR 10 0, uI x1, uI x2, uI x3, uI x4, uI x5, uX 0, uX 0] [] M Q := by
  refine b_iload (d127 (j := 22) rfl) rfl ?_
  refine b_iconst (d127 (j := 23) rfl) (by decide) ?_
  refine b_icmp_gt (d127 (j := 24) rfl) (fun c1 => ?_) (fun c1 => ?_)
  ·
    refine b_iinc [uR 10 0, uI x1, uI x2, uI x3, uI (x4 + 1), uI x5, uX 0, uX 0] (d127 (j := 79) rfl) rfl (by decide) (s1 c1) rfl ?_
    refine b_goto (d127 (j := 80) rfl) ?_
    exact bB_le _ (bLe_s (bLe_s (bLe_s (bLe_s (bLe_s (bLe_x (bLe_s (bLe_s bLe_nil)))))))) (k1 c1)
  ·
    refine b_aload_n (d127 (j := 25) rfl) rfl ?_
    refine b_iload_n (d127 (j := 26) rfl) rfl ?_
    refine b_iload_n (d127 (j := 27) rfl) rfl ?_
    refine b_iload (d127 (j := 28) rfl) rfl ?_
    refine b_iload (d127 (j := 29) rfl) rfl ?_
    refine b_callV (d127 (j := 30) rfl) rfl rfl (Or.inl rfl) rfl (bCk_mk (n := 0) (k := 5) (by decide +kernel) rfl rfl) ((hA1 c1) _ (fun M1 hR1 => ?_))
    refine b_stk [uI (g1 M1)] rfl ?_
    refine b_aload_n (d127 (j := 31) rfl) rfl ?_
    refine b_iload_n (d127 (j := 32) rfl) rfl ?_
    refine b_iload_n (d127 (j := 33) rfl) rfl ?_
    refine b_iconst (d127 (j := 34) rfl) (by decide) ?_
    refine b_iload (d127 (j := 35) rfl) rfl ?_
    refine b_isub (d127 (j := 36) rfl) rfl rfl ?_
    refine b_iload (d127 (j := 37) rfl) rfl ?_
    refine b_stk [uI x5, uI (1 - x4), uI x2, uI x1, uR 10 0, uI (g1 M1)] (by rw [dsw_r (s2 c1 M1 hR1)]) ?_
    refine b_callV (d127 (j := 38) rfl) rfl rfl (Or.inl rfl) rfl (bCk_mk (n := 1) (k := 5) (by decide +kernel) rfl rfl) ((hA2 c1 M1 hR1) _ (fun M2 hR2 => ?_))
    refine b_stk [uI (g2 M1 M2), uI (g1 M1)] rfl ?_
    refine b_icmp_lt (d127 (j := 39) rfl) (fun c2 => ?_) (fun c2 => ?_)
    ·
      refine b_iconst (d127 (j := 42) rfl) (by decide) ?_
      refine b_istore [uR 10 0, uI x1, uI x2, uI x3, uI x4, uI x5, uI 0, uX 0] (d127 (j := 43) rfl) (by decide) rfl ?_
      refine b_aload_n (d127 (j := 44) rfl) rfl ?_
      refine b_iload_n (d127 (j := 45) rfl) rfl ?_
      refine b_iload_n (d127 (j := 46) rfl) rfl ?_
      refine b_iload (d127 (j := 47) rfl) rfl ?_
      refine b_iload (d127 (j := 48) rfl) rfl ?_
      refine b_callV (d127 (j := 49) rfl) rfl rfl (Or.inl rfl) rfl (bCk_mk (n := 0) (k := 5) (by decide +kernel) rfl rfl) ((hA3 c1 M1 hR1 M2 hR2 c2) _ (fun M3 hR3 => ?_))
      refine b_stk [uI (g3 M1 M2 M3)] rfl ?_
      refine b_aload_n (d127 (j := 50) rfl) rfl ?_
      refine b_iload_n (d127 (j := 51) rfl) rfl ?_
      refine b_iload_n (d127 (j := 52) rfl) rfl ?_
      refine b_iconst (d127 (j := 53) rfl) (by decide) ?_
      refine b_iload (d127 (j := 54) rfl) rfl ?_
      refine b_isub (d127 (j := 55) rfl) rfl rfl ?_
      refine b_iload (d127 (j := 56) rfl) rfl ?_
      refine b_stk [uI x4, uI (1 - x5), uI x1, uI x2, uR 10 0, uI (g3 M1 M2 M3)] (by rw [dsw_r (s3 c1 M1 hR1 M2 hR2 c2 M3 hR3)]) ?_
      refine b_callV (d127 (j := 57) rfl) rfl rfl (Or.inl rfl) rfl (bCk_mk (n := 1) (k := 5) (by decide +kernel) rfl rfl) ((hA4 c1 M1 hR1 M2 hR2 c2 M3 hR3) _ (fun M4 hR4 => ?_))
      refine b_stk [uI (g4 M1 M2 M3 M4), uI (g3 M1 M2 M3)] rfl ?_
      refine b_icmp_lt (d127 (j := 58) rfl) (fun c3 => ?_) (fun c3 => ?_)
      ·
        refine b_iconst (d127 (j := 61) rfl) (by decide) ?_
        refine b_istore [uR 10 0, uI x1, uI x2, uI x3, uI x4, uI x5, uI 0, uI 0] (d127 (j := 62) rfl) (by decide) rfl ?_
        refine b_iload (d127 (j := 63) rfl) rfl ?_
        refine b_if_eq (d127 (j := 64) rfl) (fun _ => ?_) (fun q => absurd q (by decide))
        refine b_iinc [uR 10 0, uI x1, uI x2, uI x3, uI x4, uI (x5 + 1), uI 0, uI 0] (d127 (j := 77) rfl) rfl (by decide) (s4 c1 M1 hR1 M2 hR2 c2 M3 hR3 M4 hR4 c3) rfl ?_
        refine b_goto (d127 (j := 78) rfl) ?_
        exact bB_le _ (bLe_s (bLe_s (bLe_s (bLe_s (bLe_s (bLe_s (bLe_x (bLe_x bLe_nil)))))))) (k2 c1 M1 hR1 M2 hR2 c2 M3 hR3 M4 hR4 c3)
      ·
        refine b_iconst (d127 (j := 59) rfl) (by decide) ?_
        refine b_goto (d127 (j := 60) rfl) ?_
        refine b_istore [uR 10 0, uI x1, uI x2, uI x3, uI x4, uI x5, uI 0, uI 1] (d127 (j := 62) rfl) (by decide) rfl ?_
        refine b_iload (d127 (j := 63) rfl) rfl ?_
        refine b_if_eq (d127 (j := 64) rfl) (fun _ => ?_) (fun q => absurd q (by decide))
        refine b_iinc [uR 10 0, uI x1, uI x2, uI x3, uI x4, uI (x5 + 1), uI 0, uI 1] (d127 (j := 77) rfl) rfl (by decide) (s5 c1 M1 hR1 M2 hR2 c2 M3 hR3 M4 hR4 c3) rfl ?_
        refine b_goto (d127 (j := 78) rfl) ?_
        exact bB_le _ (bLe_s (bLe_s (bLe_s (bLe_s (bLe_s (bLe_s (bLe_x (bLe_x bLe_nil)))))))) (k3 c1 M1 hR1 M2 hR2 c2 M3 hR3 M4 hR4 c3)
    ·
      refine b_iconst (d127 (j := 40) rfl) (by decide) ?_
      refine b_goto (d127 (j := 41) rfl) ?_
      refine b_istore [uR 10 0, uI x1, uI x2, uI x3, uI x4, uI x5, uI 1, uX 0] (d127 (j := 43) rfl) (by decide) rfl ?_
      refine b_aload_n (d127 (j := 44) rfl) rfl ?_
      refine b_iload_n (d127 (j := 45) rfl) rfl ?_
      refine b_iload_n (d127 (j := 46) rfl) rfl ?_
      refine b_iload (d127 (j := 47) rfl) rfl ?_
      refine b_iload (d127 (j := 48) rfl) rfl ?_
      refine b_callV (d127 (j := 49) rfl) rfl rfl (Or.inl rfl) rfl (bCk_mk (n := 0) (k := 5) (by decide +kernel) rfl rfl) ((hA5 c1 M1 hR1 M2 hR2 c2) _ (fun M5 hR5 => ?_))
      refine b_stk [uI (g5 M1 M2 M5)] rfl ?_
      refine b_aload_n (d127 (j := 50) rfl) rfl ?_
      refine b_iload_n (d127 (j := 51) rfl) rfl ?_
      refine b_iload_n (d127 (j := 52) rfl) rfl ?_
      refine b_iconst (d127 (j := 53) rfl) (by decide) ?_
      refine b_iload (d127 (j := 54) rfl) rfl ?_
      refine b_isub (d127 (j := 55) rfl) rfl rfl ?_
      refine b_iload (d127 (j := 56) rfl) rfl ?_
      refine b_stk [uI x4, uI (1 - x5), uI x1, uI x2, uR 10 0, uI (g5 M1 M2 M5)] (by rw [dsw_r (s6 c1 M1 hR1 M2 hR2 c2 M5 hR5)]) ?_
      refine b_callV (d127 (j := 57) rfl) rfl rfl (Or.inl rfl) rfl (bCk_mk (n := 1) (k := 5) (by decide +kernel) rfl rfl) ((hA6 c1 M1 hR1 M2 hR2 c2 M5 hR5) _ (fun M6 hR6 => ?_))
      refine b_stk [uI (g6 M1 M2 M5 M6), uI (g5 M1 M2 M5)] rfl ?_
      refine b_icmp_lt (d127 (j := 58) rfl) (fun c6 => ?_) (fun c6 => ?_)
      ·
        refine b_iconst (d127 (j := 61) rfl) (by decide) ?_
        refine b_istore [uR 10 0, uI x1, uI x2, uI x3, uI x4, uI x5, uI 1, uI 0] (d127 (j := 62) rfl) (by decide) rfl ?_
        refine b_iload (d127 (j := 63) rfl) rfl ?_
        refine b_if_eq (d127 (j := 64) rfl) (fun q => absurd q (by decide)) (fun _ => ?_)
        refine b_iload (d127 (j := 65) rfl) rfl ?_
        refine b_if_eq (d127 (j := 66) rfl) (fun _ => ?_) (fun q => absurd q (by decide))
        refine b_iinc [uR 10 0, uI x1, uI x2, uI x3, uI x4, uI (x5 + 1), uI 1, uI 0] (d127 (j := 77) rfl) rfl (by decide) (s7 c1 M1 hR1 M2 hR2 c2 M5 hR5 M6 hR6 c6) rfl ?_
        refine b_goto (d127 (j := 78) rfl) ?_
        exact bB_le _ (bLe_s (bLe_s (bLe_s (bLe_s (bLe_s (bLe_s (bLe_x (bLe_x bLe_nil)))))))) (k4 c1 M1 hR1 M2 hR2 c2 M5 hR5 M6 hR6 c6)
      ·
        refine b_iconst (d127 (j := 59) rfl) (by decide) ?_
        refine b_goto (d127 (j := 60) rfl) ?_
        refine b_istore [uR 10 0, uI x1, uI x2, uI x3, uI x4, uI x5, uI 1, uI 1] (d127 (j := 62) rfl) (by decide) rfl ?_
        refine b_iload (d127 (j := 63) rfl) rfl ?_
        refine b_if_eq (d127 (j := 64) rfl) (fun q => absurd q (by decide)) (fun _ => ?_)
        refine b_iload (d127 (j := 65) rfl) rfl ?_
        refine b_if_eq (d127 (j := 66) rfl) (fun q => absurd q (by decide)) (fun _ => ?_)
        refine b_iload_n (d127 (j := 67) rfl) rfl ?_
        refine b_iconst (d127 (j := 68) rfl) (by decide) ?_
        refine b_iload (d127 (j := 69) rfl) rfl ?_
        refine b_iconst (d127 (j := 70) rfl) (by decide) ?_
        refine b_iload (d127 (j := 71) rfl) rfl ?_
        refine b_imul (d127 (j := 72) rfl) rfl rfl ?_
        refine b_iadd (d127 (j := 73) rfl) rfl (dsw_dsw _) ?_
        refine b_stk [uI (x4 + (2 * x5)), uI 1, uI x3] (by rw [dsw_r (s8 c1 M1 hR1 M2 hR2 c2 M5 hR5 M6 hR6 c6)]) ?_
        refine b_ishl (d127 (j := 74) rfl) ?_
        refine b_ior (d127 (j := 75) rfl) ?_
        refine b_istore_n [uR 10 0, uI x1, uI x2, uI (dsOr x3 (dsShl 1 (x4 + (2 * x5)))), uI x4, uI x5, uI 1, uI 1] (d127 (j := 76) rfl) (by decide) rfl ?_
        refine b_iinc [uR 10 0, uI x1, uI x2, uI (dsOr x3 (dsShl 1 (x4 + (2 * x5)))), uI x4, uI (x5 + 1), uI 1, uI 1] (d127 (j := 77) rfl) rfl (by decide) (s9 c1 M1 hR1 M2 hR2 c2 M5 hR5 M6 hR6 c6) rfl ?_
        refine b_goto (d127 (j := 78) rfl) ?_
        exact bB_le _ (bLe_s (bLe_s (bLe_s (bLe_s (bLe_s (bLe_s (bLe_x (bLe_x bLe_nil)))))))) (k5 c1 M1 hR1 M2 hR2 c2 M5 hR5 M6 hR6 c6)
def L128 : List (Nat × Instr × Nat × Nat) := [(0, .aload_n 0, 1, 0), (1, .iload_n 1, 2, 0), (2, .invokevirtual 114, 5, 0), (5, .ifCond .eq 20, 8, 25), (8, .aload_n 0, 9, 0), (9, .iload_n 2, 10, 0), (10, .invokevirtual 114, 13, 0), (13, .ifCond .eq 12, 16, 25), (16, .iload_n 1, 17, 0), (17, .iload_n 2, 18, 0), (18, .if_icmp .eq 7, 21, 25), (21, .iconst 1, 22, 0), (22, .goto 4, 25, 26), (25, .iconst 0, 26, 0), (26, .istore 5, 28, 0), (28, .iload 5, 30, 0), (30, .ifCond .eq 22, 33, 52), (33, .iload_n 3, 34, 0), (34, .iconst 0, 35, 0), (35, .iconst 1, 36, 0), (36, .invokestatic 104, 39, 0), (39, .ifCond .eq 13, 42, 52), (42, .iload 4, 44, 0), (44, .iconst 0, 45, 0), (45, .iconst 1, 46, 0), (46, .invokestatic 104, 49, 0), (49, .ifCond .ne 7, 52, 56), (52, .sipush (-1000), 55, 0), (55, .ireturn, 56, 0), (56, .aload_n 0, 57, 0), (57, .iload_n 1, 58, 0), (58, .iload_n 2, 59, 0), (59, .iload_n 3, 60, 0), (60, .iload 4, 62, 0), (62, .invokevirtual 325, 65, 0), (65, .ireturn, 66, 0)]
set_option maxRecDepth 100000 in
theorem L128_ok : L128.all (dck 128) = true := by decide +kernel
theorem d128 {j pc nx tg : Nat} {ins : Instr} (hj : L128[j]? = some (pc, ins, nx, tg)) : dcd 128 pc ins nx tg := dcl_ok L128_ok hj
set_option maxRecDepth 100000 in
set_option maxHeartbeats 4000000 in
theorem r128_0 {x1 x2 x3 x4 : Int} {R1 : dsMem → Prop} {g1 : dsMem → Int} {M : dsMem} {Q : bQT} (s1 : -2147483648 ≤ ((M 24 5) - 1) ∧ ((M 24 5) - 1) < 2147483648 := by intros; omega) (k1 : (¬ (0 ≤ x1 ∧ x1 ≤ (M 24 5) - 1)) → Q [uI (-1000)] M) (k2 : ((0 ≤ x1 ∧ x1 ≤ (M 24 5) - 1)) → (¬ (0 ≤ x2 ∧ x2 ≤ (M 24 5) - 1)) → Q [uI (-1000)] M) (k3 : ((0 ≤ x1 ∧ x1 ≤ (M 24 5) - 1)) → ((0 ≤ x2 ∧ x2 ≤ (M 24 5) - 1)) → (x1 = x2) → Q [uI (-1000)] M) (k4 : ((0 ≤ x1 ∧ x1 ≤ (M 24 5) - 1)) → ((0 ≤ x2 ∧ x2 ≤ (M 24 5) - 1)) → (¬ x1 = x2) → (¬ (0 ≤ x3 ∧ x3 ≤ 1)) → Q [uI (-1000)] M) (hA1 : ((0 ≤ x1 ∧ x1 ≤ (M 24 5) - 1)) → ((0 ≤ x2 ∧ x2 ≤ (M 24 5) - 1)) → (¬ x1 = x2) → ((0 ≤ x3 ∧ x3 ≤ 1)) → ((0 ≤ x4 ∧ x4 ≤ 1)) → bCt 164 [uR 10 0, uI x1, uI x2, uI x3, uI x4, uX 0, uX 0] M (fun M1 => [uI (g1 M1)]) R1) (k5 : ((0 ≤ x1 ∧ x1 ≤ (M 24 5) - 1)) → ((0 ≤ x2 ∧ x2 ≤ (M 24 5) - 1)) → (¬ x1 = x2) → ((0 ≤ x3 ∧ x3 ≤ 1)) → ((0 ≤ x4 ∧ x4 ≤ 1)) → ∀ M1 : dsMem, R1 M1 → Q [uI (g1 M1)] M1) (k6 : ((0 ≤ x1 ∧ x1 ≤ (M 24 5) - 1)) → ((0 ≤ x2 ∧ x2 ≤ (M 24 5) - 1)) → (¬ x1 = x2) → ((0 ≤ x3 ∧ x3 ≤ 1)) → (¬ (0 ≤ x4 ∧ x4 ≤ 1)) → Q [uI (-1000)] M) :
    bB 128 0 [uR 10 0, uI x1, uI x2, uI x3, uI x4, uX 0] [] M Q := by
  refine b_aload_n (d128 (j := 0) rfl) rfl ?_
  refine b_iload_n (d128 (j := 1) rfl) rfl ?_
  refine b_callV (d128 (j := 2) rfl) rfl rfl (Or.inl rfl) rfl (bCk_mk (n := 0) (k := 2) (by decide +kernel) rfl rfl) (pu151 s1 ?_)
  refine b_stk [uI (if (0 ≤ x1 ∧ x1 ≤ (M 24 5) - 1) then 1 else 0)] rfl ?_
  refine b_ifeqP (d128 (j := 3) rfl) (fun c1 => ?_) (fun c1 => ?_)
  ·
    refine b_iconst (d128 (j := 13) rfl) (by decide) ?_
    refine b_istore [uR 10 0, uI x1, uI x2, uI x3, uI x4, uI 0] (d128 (j := 14) rfl) (by decide) rfl ?_
    refine b_iload (d128 (j := 15) rfl) rfl ?_
    refine b_if_eq (d128 (j := 16) rfl) (fun _ => ?_) (fun q => absurd q (by decide))
    refine b_sipush (d128 (j := 27) rfl) (by decide) ?_
    exact b_iret (d128 (j := 28) rfl) rfl (k1 c1)
  ·
    refine b_aload_n (d128 (j := 4) rfl) rfl ?_
    refine b_iload_n (d128 (j := 5) rfl) rfl ?_
    refine b_callV (d128 (j := 6) rfl) rfl rfl (Or.inl rfl) rfl (bCk_mk (n := 0) (k := 2) (by decide +kernel) rfl rfl) (pu151 s1 ?_)
    refine b_stk [uI (if (0 ≤ x2 ∧ x2 ≤ (M 24 5) - 1) then 1 else 0)] rfl ?_
    refine b_ifeqP (d128 (j := 7) rfl) (fun c3 => ?_) (fun c3 => ?_)
    ·
      refine b_iconst (d128 (j := 13) rfl) (by decide) ?_
      refine b_istore [uR 10 0, uI x1, uI x2, uI x3, uI x4, uI 0] (d128 (j := 14) rfl) (by decide) rfl ?_
      refine b_iload (d128 (j := 15) rfl) rfl ?_
      refine b_if_eq (d128 (j := 16) rfl) (fun _ => ?_) (fun q => absurd q (by decide))
      refine b_sipush (d128 (j := 27) rfl) (by decide) ?_
      exact b_iret (d128 (j := 28) rfl) rfl (k2 c1 c3)
    ·
      refine b_iload_n (d128 (j := 8) rfl) rfl ?_
      refine b_iload_n (d128 (j := 9) rfl) rfl ?_
      refine b_icmp_eq (d128 (j := 10) rfl) (fun c5 => ?_) (fun c5 => ?_)
      ·
        refine b_iconst (d128 (j := 13) rfl) (by decide) ?_
        refine b_istore [uR 10 0, uI x1, uI x2, uI x3, uI x4, uI 0] (d128 (j := 14) rfl) (by decide) rfl ?_
        refine b_iload (d128 (j := 15) rfl) rfl ?_
        refine b_if_eq (d128 (j := 16) rfl) (fun _ => ?_) (fun q => absurd q (by decide))
        refine b_sipush (d128 (j := 27) rfl) (by decide) ?_
        exact b_iret (d128 (j := 28) rfl) rfl (k3 c1 c3 c5)
      ·
        refine b_iconst (d128 (j := 11) rfl) (by decide) ?_
        refine b_goto (d128 (j := 12) rfl) ?_
        refine b_istore [uR 10 0, uI x1, uI x2, uI x3, uI x4, uI 1] (d128 (j := 14) rfl) (by decide) rfl ?_
        refine b_iload (d128 (j := 15) rfl) rfl ?_
        refine b_if_eq (d128 (j := 16) rfl) (fun q => absurd q (by decide)) (fun _ => ?_)
        refine b_iload_n (d128 (j := 17) rfl) rfl ?_
        refine b_iconst (d128 (j := 18) rfl) (by decide) ?_
        refine b_iconst (d128 (j := 19) rfl) (by decide) ?_
        refine b_callS (d128 (j := 20) rfl) (Or.inl rfl) rfl (bCk_mk (n := 0) (k := 3) (by decide +kernel) rfl rfl) (pu144  ?_)
        refine b_stk [uI (if (0 ≤ x3 ∧ x3 ≤ 1) then 1 else 0)] rfl ?_
        refine b_ifeqP (d128 (j := 21) rfl) (fun c8 => ?_) (fun c8 => ?_)
        ·
          refine b_sipush (d128 (j := 27) rfl) (by decide) ?_
          exact b_iret (d128 (j := 28) rfl) rfl (k4 c1 c3 c5 c8)
        ·
          refine b_iload (d128 (j := 22) rfl) rfl ?_
          refine b_iconst (d128 (j := 23) rfl) (by decide) ?_
          refine b_iconst (d128 (j := 24) rfl) (by decide) ?_
          refine b_callS (d128 (j := 25) rfl) (Or.inl rfl) rfl (bCk_mk (n := 0) (k := 3) (by decide +kernel) rfl rfl) (pu144  ?_)
          refine b_stk [uI (if (0 ≤ x4 ∧ x4 ≤ 1) then 1 else 0)] rfl ?_
          refine b_ifneP (d128 (j := 26) rfl) (fun c9 => ?_) (fun c9 => ?_)
          ·
            refine b_aload_n (d128 (j := 29) rfl) rfl ?_
            refine b_iload_n (d128 (j := 30) rfl) rfl ?_
            refine b_iload_n (d128 (j := 31) rfl) rfl ?_
            refine b_iload_n (d128 (j := 32) rfl) rfl ?_
            refine b_iload (d128 (j := 33) rfl) rfl ?_
            refine b_callV (d128 (j := 34) rfl) rfl rfl (Or.inl rfl) rfl (bCk_mk (n := 0) (k := 5) (by decide +kernel) rfl rfl) ((hA1 c1 c3 c5 c8 c9) _ (fun M1 hR1 => ?_))
            refine b_stk [uI (g1 M1)] rfl ?_
            exact b_iret (d128 (j := 35) rfl) rfl (k5 c1 c3 c5 c8 c9 M1 hR1)
          ·
            refine b_sipush (d128 (j := 27) rfl) (by decide) ?_
            exact b_iret (d128 (j := 28) rfl) rfl (k6 c1 c3 c5 c8 c9)
def L129 : List (Nat × Instr × Nat × Nat) := [(0, .aload_n 0, 1, 0), (1, .iload_n 1, 2, 0), (2, .invokevirtual 100, 5, 0), (5, .ifCond .eq 12, 8, 17), (8, .iload_n 2, 9, 0), (9, .iconst 0, 10, 0), (10, .iconst 1, 11, 0), (11, .invokestatic 104, 14, 0), (14, .ifCond .ne 7, 17, 21), (17, .ldc2_w 329, 20, 0), (20, .lreturn, 21, 0), (21, .aload_n 0, 22, 0), (22, .invokevirtual 331, 25, 0), (25, .aload_n 0, 26, 0), (26, .getfield 58, 29, 0), (29, .getfield 334, 32, 0), (32, .iload_n 1, 33, 0), (33, .laload, 34, 0), (34, .aload_n 0, 35, 0), (35, .getfield 58, 38, 0), (38, .getfield 338, 41, 0), (41, .iload_n 2, 42, 0), (42, .invokestatic 321, 45, 0), (45, .lreturn, 46, 0)]
set_option maxRecDepth 100000 in
theorem L129_ok : L129.all (dck 129) = true := by decide +kernel
theorem d129 {j pc nx tg : Nat} {ins : Instr} (hj : L129[j]? = some (pc, ins, nx, tg)) : dcd 129 pc ins nx tg := dcl_ok L129_ok hj
set_option maxRecDepth 100000 in
set_option maxHeartbeats 4000000 in
theorem r129_0 {x1 x2 : Int} {R1 : dsMem → Prop} {R2 : dsMem → dsMem → Prop} {g2 : dsMem → dsMem → Int} {M : dsMem} {Q : bQT} (s1 : -2147483648 ≤ ((M 24 4) - 1) ∧ ((M 24 4) - 1) < 2147483648 := by intros; omega) (k1 : (¬ (0 ≤ x1 ∧ x1 ≤ (M 24 4) - 1)) → Q [uJ (-2)] M) (hA1 : ((0 ≤ x1 ∧ x1 ≤ (M 24 4) - 1)) → ((0 ≤ x2 ∧ x2 ≤ 1)) → bCt 172 [uR 10 0, uX 0, uX 0, uX 0, uX 0] M (fun _ => []) R1) (s2 : ((0 ≤ x1 ∧ x1 ≤ (M 24 4) - 1)) → ((0 ≤ x2 ∧ x2 ≤ 1)) → ∀ M1 : dsMem, R1 M1 → 0 ≤ x1 ∧ x1 < 3 := by intros; omega) (hA2 : ((0 ≤ x1 ∧ x1 ≤ (M 24 4) - 1)) → ((0 ≤ x2 ∧ x2 ≤ 1)) → ∀ M1 : dsMem, R1 M1 → bCt 166 [uJ (M1 82 x1), uX 0, uJ (M1 81 1), uX 0, uI x2, uX 0, uX 0, uX 0, uX 0, uX 0, uX 0, uX 0] M1 (fun M2 => [uJ (g2 M1 M2)]) (R2 M1)) (k2 : ((0 ≤ x1 ∧ x1 ≤ (M 24 4) - 1)) → ((0 ≤ x2 ∧ x2 ≤ 1)) → ∀ M1 : dsMem, R1 M1 → ∀ M2 : dsMem, R2 M1 M2 → Q [uJ (g2 M1 M2)] M2) (k3 : ((0 ≤ x1 ∧ x1 ≤ (M 24 4) - 1)) → (¬ (0 ≤ x2 ∧ x2 ≤ 1)) → Q [uJ (-2)] M) :
    bB 129 0 [uR 10 0, uI x1, uI x2] [] M Q := by
  refine b_aload_n (d129 (j := 0) rfl) rfl ?_
  refine b_iload_n (d129 (j := 1) rfl) rfl ?_
  refine b_callV (d129 (j := 2) rfl) rfl rfl (Or.inl rfl) rfl (bCk_mk (n := 0) (k := 2) (by decide +kernel) rfl rfl) (pu150 s1 ?_)
  refine b_stk [uI (if (0 ≤ x1 ∧ x1 ≤ (M 24 4) - 1) then 1 else 0)] rfl ?_
  refine b_ifeqP (d129 (j := 3) rfl) (fun c1 => ?_) (fun c1 => ?_)
  ·
    refine b_ldc2 (d129 (j := 9) rfl) rfl ?_
    exact b_lret (d129 (j := 10) rfl) rfl (k1 c1)
  ·
    refine b_iload_n (d129 (j := 4) rfl) rfl ?_
    refine b_iconst (d129 (j := 5) rfl) (by decide) ?_
    refine b_iconst (d129 (j := 6) rfl) (by decide) ?_
    refine b_callS (d129 (j := 7) rfl) (Or.inl rfl) rfl (bCk_mk (n := 0) (k := 3) (by decide +kernel) rfl rfl) (pu144  ?_)
    refine b_stk [uI (if (0 ≤ x2 ∧ x2 ≤ 1) then 1 else 0)] rfl ?_
    refine b_ifneP (d129 (j := 8) rfl) (fun c2 => ?_) (fun c2 => ?_)
    ·
      refine b_aload_n (d129 (j := 11) rfl) rfl ?_
      refine b_callV (d129 (j := 12) rfl) rfl rfl (Or.inl rfl) rfl (bCk_mk (n := 0) (k := 1) (by decide +kernel) rfl rfl) ((hA1 c1 c2) _ (fun M1 hR1 => ?_))
      refine b_stk [] rfl ?_
      refine b_aload_n (d129 (j := 13) rfl) rfl ?_
      refine b_getR (d129 (j := 14) rfl) rfl rfl rfl rfl ?_
      refine b_stk [uR 8 81] rfl ?_
      refine b_getR (d129 (j := 15) rfl) rfl rfl rfl rfl ?_
      refine b_stk [uR 33 82] rfl ?_
      refine b_iload_n (d129 (j := 16) rfl) rfl ?_
      refine b_laload (d129 (j := 17) rfl) rfl (s2 c1 c2 M1 hR1) ?_
      refine b_aload_n (d129 (j := 18) rfl) rfl ?_
      refine b_getR (d129 (j := 19) rfl) rfl rfl rfl rfl ?_
      refine b_stk [uR 8 81, uJ (M1 82 x1)] rfl ?_
      refine b_getJ (d129 (j := 20) rfl) rfl rfl rfl rfl rfl ?_
      refine b_stk [uJ (M1 81 1), uJ (M1 82 x1)] rfl ?_
      refine b_iload_n (d129 (j := 21) rfl) rfl ?_
      refine b_callS (d129 (j := 22) rfl) (Or.inl rfl) rfl (bCk_mk (n := 0) (k := 5) (by decide +kernel) rfl rfl) ((hA2 c1 c2 M1 hR1) _ (fun M2 hR2 => ?_))
      refine b_stk [uJ (g2 M1 M2)] rfl ?_
      exact b_lret (d129 (j := 23) rfl) rfl (k2 c1 c2 M1 hR1 M2 hR2)
    ·
      refine b_ldc2 (d129 (j := 9) rfl) rfl ?_
      exact b_lret (d129 (j := 10) rfl) rfl (k3 c1 c2)
def L130 : List (Nat × Instr × Nat × Nat) := [(0, .aload_n 0, 1, 0), (1, .invokevirtual 179, 4, 0), (4, .ifCond .eq 12, 7, 16), (7, .iload_n 1, 8, 0), (8, .iconst 0, 9, 0), (9, .iconst 1, 10, 0), (10, .invokestatic 104, 13, 0), (13, .ifCond .ne 7, 16, 20), (16, .ldc2_w 329, 19, 0), (19, .lreturn, 20, 0), (20, .aload_n 0, 21, 0), (21, .invokevirtual 331, 24, 0), (24, .aload_n 0, 25, 0), (25, .getfield 58, 28, 0), (28, .getfield 342, 31, 0), (31, .aload_n 0, 32, 0), (32, .getfield 58, 35, 0), (35, .getfield 338, 38, 0), (38, .iload_n 1, 39, 0), (39, .invokestatic 321, 42, 0), (42, .lreturn, 43, 0)]
set_option maxRecDepth 100000 in
theorem L130_ok : L130.all (dck 130) = true := by decide +kernel
theorem d130 {j pc nx tg : Nat} {ins : Instr} (hj : L130[j]? = some (pc, ins, nx, tg)) : dcd 130 pc ins nx tg := dcl_ok L130_ok hj
set_option maxRecDepth 100000 in
set_option maxHeartbeats 4000000 in
theorem r130_0 {x1 : Int} {R1 : dsMem → Prop} {R2 : dsMem → dsMem → Prop} {g2 : dsMem → dsMem → Int} {M : dsMem} {Q : bQT} (k1 : (¬ (0 < (M 24 0))) → Q [uJ (-2)] M) (hA1 : ((0 < (M 24 0))) → ((0 ≤ x1 ∧ x1 ≤ 1)) → bCt 172 [uR 10 0, uX 0, uX 0, uX 0, uX 0] M (fun _ => []) R1) (hA2 : ((0 < (M 24 0))) → ((0 ≤ x1 ∧ x1 ≤ 1)) → ∀ M1 : dsMem, R1 M1 → bCt 166 [uJ (M1 81 2), uX 0, uJ (M1 81 1), uX 0, uI x1, uX 0, uX 0, uX 0, uX 0, uX 0, uX 0, uX 0] M1 (fun M2 => [uJ (g2 M1 M2)]) (R2 M1)) (k2 : ((0 < (M 24 0))) → ((0 ≤ x1 ∧ x1 ≤ 1)) → ∀ M1 : dsMem, R1 M1 → ∀ M2 : dsMem, R2 M1 M2 → Q [uJ (g2 M1 M2)] M2) (k3 : ((0 < (M 24 0))) → (¬ (0 ≤ x1 ∧ x1 ≤ 1)) → Q [uJ (-2)] M) :
    bB 130 0 [uR 10 0, uI x1] [] M Q := by
  refine b_aload_n (d130 (j := 0) rfl) rfl ?_
  refine b_callV (d130 (j := 1) rfl) rfl rfl (Or.inl rfl) rfl (bCk_mk (n := 0) (k := 1) (by decide +kernel) rfl rfl) (pu149  ?_)
  refine b_stk [uI (if (0 < (M 24 0)) then 1 else 0)] rfl ?_
  refine b_ifeqP (d130 (j := 2) rfl) (fun c1 => ?_) (fun c1 => ?_)
  ·
    refine b_ldc2 (d130 (j := 8) rfl) rfl ?_
    exact b_lret (d130 (j := 9) rfl) rfl (k1 c1)
  ·
    refine b_iload_n (d130 (j := 3) rfl) rfl ?_
    refine b_iconst (d130 (j := 4) rfl) (by decide) ?_
    refine b_iconst (d130 (j := 5) rfl) (by decide) ?_
    refine b_callS (d130 (j := 6) rfl) (Or.inl rfl) rfl (bCk_mk (n := 0) (k := 3) (by decide +kernel) rfl rfl) (pu144  ?_)
    refine b_stk [uI (if (0 ≤ x1 ∧ x1 ≤ 1) then 1 else 0)] rfl ?_
    refine b_ifneP (d130 (j := 7) rfl) (fun c2 => ?_) (fun c2 => ?_)
    ·
      refine b_aload_n (d130 (j := 10) rfl) rfl ?_
      refine b_callV (d130 (j := 11) rfl) rfl rfl (Or.inl rfl) rfl (bCk_mk (n := 0) (k := 1) (by decide +kernel) rfl rfl) ((hA1 c1 c2) _ (fun M1 hR1 => ?_))
      refine b_stk [] rfl ?_
      refine b_aload_n (d130 (j := 12) rfl) rfl ?_
      refine b_getR (d130 (j := 13) rfl) rfl rfl rfl rfl ?_
      refine b_stk [uR 8 81] rfl ?_
      refine b_getJ (d130 (j := 14) rfl) rfl rfl rfl rfl rfl ?_
      refine b_stk [uJ (M1 81 2)] rfl ?_
      refine b_aload_n (d130 (j := 15) rfl) rfl ?_
      refine b_getR (d130 (j := 16) rfl) rfl rfl rfl rfl ?_
      refine b_stk [uR 8 81, uJ (M1 81 2)] rfl ?_
      refine b_getJ (d130 (j := 17) rfl) rfl rfl rfl rfl rfl ?_
      refine b_stk [uJ (M1 81 1), uJ (M1 81 2)] rfl ?_
      refine b_iload_n (d130 (j := 18) rfl) rfl ?_
      refine b_callS (d130 (j := 19) rfl) (Or.inl rfl) rfl (bCk_mk (n := 0) (k := 5) (by decide +kernel) rfl rfl) ((hA2 c1 c2 M1 hR1) _ (fun M2 hR2 => ?_))
      refine b_stk [uJ (g2 M1 M2)] rfl ?_
      exact b_lret (d130 (j := 20) rfl) rfl (k2 c1 c2 M1 hR1 M2 hR2)
    ·
      refine b_ldc2 (d130 (j := 8) rfl) rfl ?_
      exact b_lret (d130 (j := 9) rfl) rfl (k3 c1 c2)
def L131 : List (Nat × Instr × Nat × Nat) := [(0, .iload_n 1, 1, 0), (1, .iconst 1, 2, 0), (2, .bipush 20, 4, 0), (4, .invokestatic 104, 7, 0), (7, .ifCond .eq 18, 10, 25), (10, .iload_n 2, 11, 0), (11, .invokestatic 169, 14, 0), (14, .ifCond .eq 11, 17, 25), (17, .aload_n 0, 18, 0), (18, .iload_n 3, 19, 0), (19, .invokevirtual 228, 22, 0), (22, .ifCond .ne 6, 25, 28), (25, .bipush (-2), 27, 0), (27, .ireturn, 28, 0), (28, .aload_n 0, 29, 0), (29, .getfield 23, 32, 0), (32, .getfield 345, 35, 0), (35, .invokevirtual 348, 38, 0), (38, .ifCond .eq 6, 41, 44), (41, .bipush (-5), 43, 0), (43, .ireturn, 44, 0), (44, .aload_n 0, 45, 0), (45, .getfield 23, 48, 0), (48, .getfield 345, 51, 0), (51, .iconst 0, 52, 0), (52, .iload_n 2, 53, 0), (53, .iload_n 1, 54, 0), (54, .iload_n 3, 55, 0), (55, .invokevirtual 351, 58, 0), (58, .aload_n 0, 59, 0), (59, .invokevirtual 88, 62, 0), (62, .aload_n 0, 63, 0), (63, .invokevirtual 149, 66, 0), (66, .aload_n 0, 67, 0), (67, .getfield 23, 70, 0), (70, .getfield 186, 73, 0), (73, .invokevirtual 183, 76, 0), (76, .ireturn, 77, 0)]
set_option maxRecDepth 100000 in
theorem L131_ok : L131.all (dck 131) = true := by decide +kernel
theorem d131 {j pc nx tg : Nat} {ins : Instr} (hj : L131[j]? = some (pc, ins, nx, tg)) : dcd 131 pc ins nx tg := dcl_ok L131_ok hj
set_option maxRecDepth 100000 in
set_option maxHeartbeats 4000000 in
theorem r131_0 {x1 x2 x3 : Int} {R1 : dsMem → Prop} {R2 : dsMem → dsMem → Prop} {R3 : dsMem → dsMem → dsMem → Prop} {M : dsMem} {Q : bQT} (k1 : (¬ (1 ≤ x1 ∧ x1 ≤ 20)) → Q [uI (-2)] M) (k2 : ((1 ≤ x1 ∧ x1 ≤ 20)) → (¬ (1 ≤ x2 ∧ x2 ≤ 5)) → Q [uI (-2)] M) (s1 : ((1 ≤ x1 ∧ x1 ≤ 20)) → ((1 ≤ x2 ∧ x2 ≤ 5)) → -2147483648 ≤ ((M 24 1) - 1) ∧ ((M 24 1) - 1) < 2147483648 := by intros; omega) (hA1 : ((1 ≤ x1 ∧ x1 ≤ 20)) → ((1 ≤ x2 ∧ x2 ≤ 5)) → ((0 < (M 24 0) ∧ 0 ≤ x3 ∧ x3 ≤ (M 24 1) - 1)) → (¬ (¬ ((M 40 0) < 30))) → bCt 4 [uR 3 40, uI 0, uI x2, uI x1, uI x3] M (fun _ => []) R1) (hA2 : ((1 ≤ x1 ∧ x1 ≤ 20)) → ((1 ≤ x2 ∧ x2 ≤ 5)) → ((0 < (M 24 0) ∧ 0 ≤ x3 ∧ x3 ≤ (M 24 1) - 1)) → (¬ (¬ ((M 40 0) < 30))) → ∀ M1 : dsMem, R1 M1 → bCt 156 [uR 10 0] M1 (fun _ => []) (R2 M1)) (hA3 : ((1 ≤ x1 ∧ x1 ≤ 20)) → ((1 ≤ x2 ∧ x2 ≤ 5)) → ((0 < (M 24 0) ∧ 0 ≤ x3 ∧ x3 ≤ (M 24 1) - 1)) → (¬ (¬ ((M 40 0) < 30))) → ∀ M1 : dsMem, R1 M1 → ∀ M2 : dsMem, R2 M1 M2 → bCt 157 [uR 10 0] M2 (fun _ => [uR 5 47]) (R3 M1 M2)) (s2 : ((1 ≤ x1 ∧ x1 ≤ 20)) → ((1 ≤ x2 ∧ x2 ≤ 5)) → ((0 < (M 24 0) ∧ 0 ≤ x3 ∧ x3 ≤ (M 24 1) - 1)) → (¬ (¬ ((M 40 0) < 30))) → ∀ M1 : dsMem, R1 M1 → ∀ M2 : dsMem, R2 M1 M2 → ∀ M3 : dsMem, R3 M1 M2 M3 → ∀ i24_1 : Int, ∀ a24_1 : Int, 0 ≤ i24_1 → i24_1 < (M3 24 5) → -2147483648 ≤ (((M3 24 1) * 6) + i24_1) ∧ (((M3 24 1) * 6) + i24_1) < 2147483648 := by intros; omega) (s3 : ((1 ≤ x1 ∧ x1 ≤ 20)) → ((1 ≤ x2 ∧ x2 ≤ 5)) → ((0 < (M 24 0) ∧ 0 ≤ x3 ∧ x3 ≤ (M 24 1) - 1)) → (¬ (¬ ((M 40 0) < 30))) → ∀ M1 : dsMem, R1 M1 → ∀ M2 : dsMem, R2 M1 M2 → ∀ M3 : dsMem, R3 M1 M2 M3 → ∀ i24_1 : Int, ∀ a24_1 : Int, 0 ≤ i24_1 → i24_1 < (M3 24 5) → 0 ≤ (((M3 24 1) * 6) + i24_1) ∧ (((M3 24 1) * 6) + i24_1) < 78 := by intros; omega) (s4 : ((1 ≤ x1 ∧ x1 ≤ 20)) → ((1 ≤ x2 ∧ x2 ≤ 5)) → ((0 < (M 24 0) ∧ 0 ≤ x3 ∧ x3 ≤ (M 24 1) - 1)) → (¬ (¬ ((M 40 0) < 30))) → ∀ M1 : dsMem, R1 M1 → ∀ M2 : dsMem, R2 M1 M2 → ∀ M3 : dsMem, R3 M1 M2 M3 → ∀ i24_1 : Int, ∀ a24_1 : Int, 0 ≤ i24_1 → i24_1 < (M3 24 5) → -2147483648 ≤ i24_1 + 1 ∧ i24_1 + 1 < 2147483648 := by intros; omega) (k3 : ((1 ≤ x1 ∧ x1 ≤ 20)) → ((1 ≤ x2 ∧ x2 ≤ 5)) → ((0 < (M 24 0) ∧ 0 ≤ x3 ∧ x3 ≤ (M 24 1) - 1)) → (¬ (¬ ((M 40 0) < 30))) → ∀ M1 : dsMem, R1 M1 → ∀ M2 : dsMem, R2 M1 M2 → ∀ M3 : dsMem, R3 M1 M2 M3 → Q [uI (v24 M3 47 (M3 24 1))] M3) (k4 : ((1 ≤ x1 ∧ x1 ≤ 20)) → ((1 ≤ x2 ∧ x2 ≤ 5)) → ((0 < (M 24 0) ∧ 0 ≤ x3 ∧ x3 ≤ (M 24 1) - 1)) → ((¬ ((M 40 0) < 30))) → Q [uI (-5)] M) (k5 : ((1 ≤ x1 ∧ x1 ≤ 20)) → ((1 ≤ x2 ∧ x2 ≤ 5)) → (¬ (0 < (M 24 0) ∧ 0 ≤ x3 ∧ x3 ≤ (M 24 1) - 1)) → Q [uI (-2)] M) :
    bB 131 0 [uR 10 0, uI x1, uI x2, uI x3] [] M Q := by
  refine b_iload_n (d131 (j := 0) rfl) rfl ?_
  refine b_iconst (d131 (j := 1) rfl) (by decide) ?_
  refine b_bipush (d131 (j := 2) rfl) (by decide) ?_
  refine b_callS (d131 (j := 3) rfl) (Or.inl rfl) rfl (bCk_mk (n := 0) (k := 3) (by decide +kernel) rfl rfl) (pu144  ?_)
  refine b_stk [uI (if (1 ≤ x1 ∧ x1 ≤ 20) then 1 else 0)] rfl ?_
  refine b_ifeqP (d131 (j := 4) rfl) (fun c1 => ?_) (fun c1 => ?_)
  ·
    refine b_bipush (d131 (j := 12) rfl) (by decide) ?_
    exact b_iret (d131 (j := 13) rfl) rfl (k1 c1)
  ·
    refine b_iload_n (d131 (j := 5) rfl) rfl ?_
    refine b_callS (d131 (j := 6) rfl) (Or.inl rfl) rfl (bCk_mk (n := 0) (k := 1) (by decide +kernel) rfl rfl) (pu147  ?_)
    refine b_stk [uI (if (1 ≤ x2 ∧ x2 ≤ 5) then 1 else 0)] rfl ?_
    refine b_ifeqP (d131 (j := 7) rfl) (fun c2 => ?_) (fun c2 => ?_)
    ·
      refine b_bipush (d131 (j := 12) rfl) (by decide) ?_
      exact b_iret (d131 (j := 13) rfl) rfl (k2 c1 c2)
    ·
      refine b_aload_n (d131 (j := 8) rfl) rfl ?_
      refine b_iload_n (d131 (j := 9) rfl) rfl ?_
      refine b_callV (d131 (j := 10) rfl) rfl rfl (Or.inl rfl) rfl (bCk_mk (n := 0) (k := 2) (by decide +kernel) rfl rfl) (pu153 (s1 c1 c2) ?_)
      refine b_stk [uI (if (0 < (M 24 0) ∧ 0 ≤ x3 ∧ x3 ≤ (M 24 1) - 1) then 1 else 0)] rfl ?_
      refine b_ifneP (d131 (j := 11) rfl) (fun c3 => ?_) (fun c3 => ?_)
      ·
        refine b_aload_n (d131 (j := 14) rfl) rfl ?_
        refine b_getR (d131 (j := 15) rfl) rfl rfl rfl rfl ?_
        refine b_stk [uR 4 24] rfl ?_
        refine b_getR (d131 (j := 16) rfl) rfl rfl rfl rfl ?_
        refine b_stk [uR 3 40] rfl ?_
        refine b_callV (d131 (j := 17) rfl) rfl rfl (Or.inl rfl) rfl (bCk_mk (n := 0) (k := 1) (by decide +kernel) rfl rfl) (fx3c  ?_)
        refine b_stk [uI (if (¬ ((M 40 0) < 30)) then 1 else 0)] rfl ?_
        refine b_ifeqP (d131 (j := 18) rfl) (fun c4 => ?_) (fun c4 => ?_)
        ·
          refine b_aload_n (d131 (j := 21) rfl) rfl ?_
          refine b_getR (d131 (j := 22) rfl) rfl rfl rfl rfl ?_
          refine b_stk [uR 4 24] rfl ?_
          refine b_getR (d131 (j := 23) rfl) rfl rfl rfl rfl ?_
          refine b_stk [uR 3 40] rfl ?_
          refine b_iconst (d131 (j := 24) rfl) (by decide) ?_
          refine b_iload_n (d131 (j := 25) rfl) rfl ?_
          refine b_iload_n (d131 (j := 26) rfl) rfl ?_
          refine b_iload_n (d131 (j := 27) rfl) rfl ?_
          refine b_callV (d131 (j := 28) rfl) rfl rfl (Or.inl rfl) rfl (bCk_mk (n := 0) (k := 5) (by decide +kernel) rfl rfl) ((hA1 c1 c2 c3 c4) _ (fun M1 hR1 => ?_))
          refine b_stk [] rfl ?_
          refine b_aload_n (d131 (j := 29) rfl) rfl ?_
          refine b_callV (d131 (j := 30) rfl) rfl rfl (Or.inl rfl) rfl (bCk_mk (n := 0) (k := 1) (by decide +kernel) rfl rfl) ((hA2 c1 c2 c3 c4 M1 hR1) _ (fun M2 hR2 => ?_))
          refine b_stk [] rfl ?_
          refine b_aload_n (d131 (j := 31) rfl) rfl ?_
          refine b_callV (d131 (j := 32) rfl) rfl rfl (Or.inl rfl) rfl (bCk_mk (n := 0) (k := 1) (by decide +kernel) rfl rfl) ((hA3 c1 c2 c3 c4 M1 hR1 M2 hR2) _ (fun M3 hR3 => ?_))
          refine b_stk [uR 5 47] rfl ?_
          refine b_aload_n (d131 (j := 33) rfl) rfl ?_
          refine b_getR (d131 (j := 34) rfl) rfl rfl rfl rfl ?_
          refine b_stk [uR 4 24, uR 5 47] rfl ?_
          refine b_getI (d131 (j := 35) rfl) rfl rfl rfl rfl (Or.inl rfl) ?_
          refine b_stk [uI (M3 24 1), uR 5 47] rfl ?_
          refine b_callV (d131 (j := 36) rfl) rfl rfl (Or.inl rfl) rfl (bCk_mk (n := 0) (k := 2) (by decide +kernel) rfl rfl) (fx24 (s2 c1 c2 c3 c4 M1 hR1 M2 hR2 M3 hR3) (s3 c1 c2 c3 c4 M1 hR1 M2 hR2 M3 hR3) (s4 c1 c2 c3 c4 M1 hR1 M2 hR2 M3 hR3) ?_)
          refine b_stk [uI (v24 M3 47 (M3 24 1))] rfl ?_
          exact b_iret (d131 (j := 37) rfl) rfl (k3 c1 c2 c3 c4 M1 hR1 M2 hR2 M3 hR3)
        ·
          refine b_bipush (d131 (j := 19) rfl) (by decide) ?_
          exact b_iret (d131 (j := 20) rfl) rfl (k4 c1 c2 c3 c4)
      ·
        refine b_bipush (d131 (j := 12) rfl) (by decide) ?_
        exact b_iret (d131 (j := 13) rfl) rfl (k5 c1 c2 c3)
def L132 : List (Nat × Instr × Nat × Nat) := [(0, .aload_n 0, 1, 0), (1, .iload_n 1, 2, 0), (2, .invokevirtual 114, 5, 0), (5, .ifCond .eq 21, 8, 26), (8, .iload_n 2, 9, 0), (9, .iconst 1, 10, 0), (10, .bipush 60, 12, 0), (12, .invokestatic 104, 15, 0), (15, .ifCond .eq 11, 18, 26), (18, .aload_n 0, 19, 0), (19, .iload_n 3, 20, 0), (20, .invokevirtual 228, 23, 0), (23, .ifCond .ne 6, 26, 29), (26, .bipush (-2), 28, 0), (28, .ireturn, 29, 0), (29, .aload_n 0, 30, 0), (30, .getfield 23, 33, 0), (33, .getfield 345, 36, 0), (36, .invokevirtual 348, 39, 0), (39, .ifCond .eq 6, 42, 45), (42, .bipush (-5), 44, 0), (44, .ireturn, 45, 0), (45, .aload_n 0, 46, 0), (46, .getfield 23, 49, 0), (49, .getfield 345, 52, 0), (52, .iconst 1, 53, 0), (53, .iload_n 1, 54, 0), (54, .iload_n 2, 55, 0), (55, .iload_n 3, 56, 0), (56, .invokevirtual 351, 59, 0), (59, .aload_n 0, 60, 0), (60, .invokevirtual 88, 63, 0), (63, .aload_n 0, 64, 0), (64, .invokevirtual 149, 67, 0), (67, .getfield 231, 70, 0), (70, .iload_n 3, 71, 0), (71, .iaload, 72, 0), (72, .ireturn, 73, 0)]
set_option maxRecDepth 100000 in
theorem L132_ok : L132.all (dck 132) = true := by decide +kernel
theorem d132 {j pc nx tg : Nat} {ins : Instr} (hj : L132[j]? = some (pc, ins, nx, tg)) : dcd 132 pc ins nx tg := dcl_ok L132_ok hj
set_option maxRecDepth 100000 in
set_option maxHeartbeats 4000000 in
theorem r132_0 {x1 x2 x3 : Int} {R1 : dsMem → Prop} {R2 : dsMem → dsMem → Prop} {R3 : dsMem → dsMem → dsMem → Prop} {M : dsMem} {Q : bQT} (s1 : -2147483648 ≤ ((M 24 5) - 1) ∧ ((M 24 5) - 1) < 2147483648 := by intros; omega) (k1 : (¬ (0 ≤ x1 ∧ x1 ≤ (M 24 5) - 1)) → Q [uI (-2)] M) (k2 : ((0 ≤ x1 ∧ x1 ≤ (M 24 5) - 1)) → (¬ (1 ≤ x2 ∧ x2 ≤ 60)) → Q [uI (-2)] M) (s2 : ((0 ≤ x1 ∧ x1 ≤ (M 24 5) - 1)) → ((1 ≤ x2 ∧ x2 ≤ 60)) → -2147483648 ≤ ((M 24 1) - 1) ∧ ((M 24 1) - 1) < 2147483648 := by intros; omega) (hA1 : ((0 ≤ x1 ∧ x1 ≤ (M 24 5) - 1)) → ((1 ≤ x2 ∧ x2 ≤ 60)) → ((0 < (M 24 0) ∧ 0 ≤ x3 ∧ x3 ≤ (M 24 1) - 1)) → (¬ (¬ ((M 40 0) < 30))) → bCt 4 [uR 3 40, uI 1, uI x1, uI x2, uI x3] M (fun _ => []) R1) (hA2 : ((0 ≤ x1 ∧ x1 ≤ (M 24 5) - 1)) → ((1 ≤ x2 ∧ x2 ≤ 60)) → ((0 < (M 24 0) ∧ 0 ≤ x3 ∧ x3 ≤ (M 24 1) - 1)) → (¬ (¬ ((M 40 0) < 30))) → ∀ M1 : dsMem, R1 M1 → bCt 156 [uR 10 0] M1 (fun _ => []) (R2 M1)) (hA3 : ((0 ≤ x1 ∧ x1 ≤ (M 24 5) - 1)) → ((1 ≤ x2 ∧ x2 ≤ 60)) → ((0 < (M 24 0) ∧ 0 ≤ x3 ∧ x3 ≤ (M 24 1) - 1)) → (¬ (¬ ((M 40 0) < 30))) → ∀ M1 : dsMem, R1 M1 → ∀ M2 : dsMem, R2 M1 M2 → bCt 157 [uR 10 0] M2 (fun _ => [uR 5 47]) (R3 M1 M2)) (s3 : ((0 ≤ x1 ∧ x1 ≤ (M 24 5) - 1)) → ((1 ≤ x2 ∧ x2 ≤ 60)) → ((0 < (M 24 0) ∧ 0 ≤ x3 ∧ x3 ≤ (M 24 1) - 1)) → (¬ (¬ ((M 40 0) < 30))) → ∀ M1 : dsMem, R1 M1 → ∀ M2 : dsMem, R2 M1 M2 → ∀ M3 : dsMem, R3 M1 M2 M3 → 0 ≤ x3 ∧ x3 < 12 := by intros; omega) (k3 : ((0 ≤ x1 ∧ x1 ≤ (M 24 5) - 1)) → ((1 ≤ x2 ∧ x2 ≤ 60)) → ((0 < (M 24 0) ∧ 0 ≤ x3 ∧ x3 ≤ (M 24 1) - 1)) → (¬ (¬ ((M 40 0) < 30))) → ∀ M1 : dsMem, R1 M1 → ∀ M2 : dsMem, R2 M1 M2 → ∀ M3 : dsMem, R3 M1 M2 M3 → Q [uI (M3 56 x3)] M3) (k4 : ((0 ≤ x1 ∧ x1 ≤ (M 24 5) - 1)) → ((1 ≤ x2 ∧ x2 ≤ 60)) → ((0 < (M 24 0) ∧ 0 ≤ x3 ∧ x3 ≤ (M 24 1) - 1)) → ((¬ ((M 40 0) < 30))) → Q [uI (-5)] M) (k5 : ((0 ≤ x1 ∧ x1 ≤ (M 24 5) - 1)) → ((1 ≤ x2 ∧ x2 ≤ 60)) → (¬ (0 < (M 24 0) ∧ 0 ≤ x3 ∧ x3 ≤ (M 24 1) - 1)) → Q [uI (-2)] M) :
    bB 132 0 [uR 10 0, uI x1, uI x2, uI x3] [] M Q := by
  refine b_aload_n (d132 (j := 0) rfl) rfl ?_
  refine b_iload_n (d132 (j := 1) rfl) rfl ?_
  refine b_callV (d132 (j := 2) rfl) rfl rfl (Or.inl rfl) rfl (bCk_mk (n := 0) (k := 2) (by decide +kernel) rfl rfl) (pu151 s1 ?_)
  refine b_stk [uI (if (0 ≤ x1 ∧ x1 ≤ (M 24 5) - 1) then 1 else 0)] rfl ?_
  refine b_ifeqP (d132 (j := 3) rfl) (fun c1 => ?_) (fun c1 => ?_)
  ·
    refine b_bipush (d132 (j := 13) rfl) (by decide) ?_
    exact b_iret (d132 (j := 14) rfl) rfl (k1 c1)
  ·
    refine b_iload_n (d132 (j := 4) rfl) rfl ?_
    refine b_iconst (d132 (j := 5) rfl) (by decide) ?_
    refine b_bipush (d132 (j := 6) rfl) (by decide) ?_
    refine b_callS (d132 (j := 7) rfl) (Or.inl rfl) rfl (bCk_mk (n := 0) (k := 3) (by decide +kernel) rfl rfl) (pu144  ?_)
    refine b_stk [uI (if (1 ≤ x2 ∧ x2 ≤ 60) then 1 else 0)] rfl ?_
    refine b_ifeqP (d132 (j := 8) rfl) (fun c2 => ?_) (fun c2 => ?_)
    ·
      refine b_bipush (d132 (j := 13) rfl) (by decide) ?_
      exact b_iret (d132 (j := 14) rfl) rfl (k2 c1 c2)
    ·
      refine b_aload_n (d132 (j := 9) rfl) rfl ?_
      refine b_iload_n (d132 (j := 10) rfl) rfl ?_
      refine b_callV (d132 (j := 11) rfl) rfl rfl (Or.inl rfl) rfl (bCk_mk (n := 0) (k := 2) (by decide +kernel) rfl rfl) (pu153 (s2 c1 c2) ?_)
      refine b_stk [uI (if (0 < (M 24 0) ∧ 0 ≤ x3 ∧ x3 ≤ (M 24 1) - 1) then 1 else 0)] rfl ?_
      refine b_ifneP (d132 (j := 12) rfl) (fun c3 => ?_) (fun c3 => ?_)
      ·
        refine b_aload_n (d132 (j := 15) rfl) rfl ?_
        refine b_getR (d132 (j := 16) rfl) rfl rfl rfl rfl ?_
        refine b_stk [uR 4 24] rfl ?_
        refine b_getR (d132 (j := 17) rfl) rfl rfl rfl rfl ?_
        refine b_stk [uR 3 40] rfl ?_
        refine b_callV (d132 (j := 18) rfl) rfl rfl (Or.inl rfl) rfl (bCk_mk (n := 0) (k := 1) (by decide +kernel) rfl rfl) (fx3c  ?_)
        refine b_stk [uI (if (¬ ((M 40 0) < 30)) then 1 else 0)] rfl ?_
        refine b_ifeqP (d132 (j := 19) rfl) (fun c4 => ?_) (fun c4 => ?_)
        ·
          refine b_aload_n (d132 (j := 22) rfl) rfl ?_
          refine b_getR (d132 (j := 23) rfl) rfl rfl rfl rfl ?_
          refine b_stk [uR 4 24] rfl ?_
          refine b_getR (d132 (j := 24) rfl) rfl rfl rfl rfl ?_
          refine b_stk [uR 3 40] rfl ?_
          refine b_iconst (d132 (j := 25) rfl) (by decide) ?_
          refine b_iload_n (d132 (j := 26) rfl) rfl ?_
          refine b_iload_n (d132 (j := 27) rfl) rfl ?_
          refine b_iload_n (d132 (j := 28) rfl) rfl ?_
          refine b_callV (d132 (j := 29) rfl) rfl rfl (Or.inl rfl) rfl (bCk_mk (n := 0) (k := 5) (by decide +kernel) rfl rfl) ((hA1 c1 c2 c3 c4) _ (fun M1 hR1 => ?_))
          refine b_stk [] rfl ?_
          refine b_aload_n (d132 (j := 30) rfl) rfl ?_
          refine b_callV (d132 (j := 31) rfl) rfl rfl (Or.inl rfl) rfl (bCk_mk (n := 0) (k := 1) (by decide +kernel) rfl rfl) ((hA2 c1 c2 c3 c4 M1 hR1) _ (fun M2 hR2 => ?_))
          refine b_stk [] rfl ?_
          refine b_aload_n (d132 (j := 32) rfl) rfl ?_
          refine b_callV (d132 (j := 33) rfl) rfl rfl (Or.inl rfl) rfl (bCk_mk (n := 0) (k := 1) (by decide +kernel) rfl rfl) ((hA3 c1 c2 c3 c4 M1 hR1 M2 hR2) _ (fun M3 hR3 => ?_))
          refine b_stk [uR 5 47] rfl ?_
          refine b_getR (d132 (j := 34) rfl) rfl rfl rfl rfl ?_
          refine b_stk [uR 28 56] rfl ?_
          refine b_iload_n (d132 (j := 35) rfl) rfl ?_
          refine b_iaload (d132 (j := 36) rfl) rfl (s3 c1 c2 c3 c4 M1 hR1 M2 hR2 M3 hR3) ?_
          exact b_iret (d132 (j := 37) rfl) rfl (k3 c1 c2 c3 c4 M1 hR1 M2 hR2 M3 hR3)
        ·
          refine b_bipush (d132 (j := 20) rfl) (by decide) ?_
          exact b_iret (d132 (j := 21) rfl) rfl (k4 c1 c2 c3 c4)
      ·
        refine b_bipush (d132 (j := 13) rfl) (by decide) ?_
        exact b_iret (d132 (j := 14) rfl) rfl (k5 c1 c2 c3)
def L133 : List (Nat × Instr × Nat × Nat) := [(0, .aload_n 0, 1, 0), (1, .invokevirtual 179, 4, 0), (4, .ifCond .ne 6, 7, 10), (7, .bipush (-2), 9, 0), (9, .ireturn, 10, 0), (10, .aload_n 0, 11, 0), (11, .getfield 23, 14, 0), (14, .getfield 345, 17, 0), (17, .getfield 130, 20, 0), (20, .ifCond .ne 6, 23, 26), (23, .bipush (-5), 25, 0), (25, .ireturn, 26, 0), (26, .aload_n 0, 27, 0), (27, .getfield 23, 30, 0), (30, .getfield 345, 33, 0), (33, .dup, 34, 0), (34, .getfield 130, 37, 0), (37, .iconst 1, 38, 0), (38, .isub, 39, 0), (39, .putfield 130, 42, 0), (42, .aload_n 0, 43, 0), (43, .invokevirtual 88, 46, 0), (46, .aload_n 0, 47, 0), (47, .getfield 23, 50, 0), (50, .getfield 345, 53, 0), (53, .getfield 130, 56, 0), (56, .ireturn, 57, 0)]
set_option maxRecDepth 100000 in
theorem L133_ok : L133.all (dck 133) = true := by decide +kernel
theorem d133 {j pc nx tg : Nat} {ins : Instr} (hj : L133[j]? = some (pc, ins, nx, tg)) : dcd 133 pc ins nx tg := dcl_ok L133_ok hj
set_option maxRecDepth 100000 in
set_option maxHeartbeats 4000000 in
theorem r133_0  {R1 : dsMem → Prop} {M : dsMem} {Q : bQT} (s1 : ((0 < (M 24 0))) → (¬ (M 40 0) = 0) → -2147483648 ≤ ((M 40 0) - 1) ∧ ((M 40 0) - 1) < 2147483648 := by intros; omega) (hA1 : ((0 < (M 24 0))) → (¬ (M 40 0) = 0) → bCt 156 [uR 10 0] (dsSet M 40 0 ((M 40 0) - 1)) (fun _ => []) R1) (k1 : ((0 < (M 24 0))) → (¬ (M 40 0) = 0) → ∀ M1 : dsMem, R1 M1 → Q [uI (M1 40 0)] M1) (k2 : ((0 < (M 24 0))) → ((M 40 0) = 0) → Q [uI (-5)] M) (k3 : (¬ (0 < (M 24 0))) → Q [uI (-2)] M) :
    bB 133 0 [uR 10 0] [] M Q := by
  refine b_aload_n (d133 (j := 0) rfl) rfl ?_
  refine b_callV (d133 (j := 1) rfl) rfl rfl (Or.inl rfl) rfl (bCk_mk (n := 0) (k := 1) (by decide +kernel) rfl rfl) (pu149  ?_)
  refine b_stk [uI (if (0 < (M 24 0)) then 1 else 0)] rfl ?_
  refine b_ifneP (d133 (j := 2) rfl) (fun c1 => ?_) (fun c1 => ?_)
  ·
    refine b_aload_n (d133 (j := 5) rfl) rfl ?_
    refine b_getR (d133 (j := 6) rfl) rfl rfl rfl rfl ?_
    refine b_stk [uR 4 24] rfl ?_
    refine b_getR (d133 (j := 7) rfl) rfl rfl rfl rfl ?_
    refine b_stk [uR 3 40] rfl ?_
    refine b_getI (d133 (j := 8) rfl) rfl rfl rfl rfl (Or.inl rfl) ?_
    refine b_stk [uI (M 40 0)] rfl ?_
    refine b_if_ne (d133 (j := 9) rfl) (fun c2 => ?_) (fun c2 => ?_)
    ·
      refine b_aload_n (d133 (j := 12) rfl) rfl ?_
      refine b_getR (d133 (j := 13) rfl) rfl rfl rfl rfl ?_
      refine b_stk [uR 4 24] rfl ?_
      refine b_getR (d133 (j := 14) rfl) rfl rfl rfl rfl ?_
      refine b_stk [uR 3 40] rfl ?_
      refine b_dup (d133 (j := 15) rfl) rfl ?_
      refine b_getI (d133 (j := 16) rfl) rfl rfl rfl rfl (Or.inl rfl) ?_
      refine b_stk [uI (M 40 0), uR 3 40] rfl ?_
      refine b_iconst (d133 (j := 17) rfl) (by decide) ?_
      refine b_isub (d133 (j := 18) rfl) rfl rfl ?_
      refine b_stk [uI ((M 40 0) - 1), uR 3 40] (by rw [dsw_r (s1 c1 c2)]) ?_
      refine b_putI (d133 (j := 19) rfl) rfl ⟨rfl, rfl⟩ rfl rfl ?_
      refine b_aload_n (d133 (j := 20) rfl) rfl ?_
      refine b_callV (d133 (j := 21) rfl) rfl rfl (Or.inl rfl) rfl (bCk_mk (n := 0) (k := 1) (by decide +kernel) rfl rfl) ((hA1 c1 c2) _ (fun M1 hR1 => ?_))
      refine b_stk [] rfl ?_
      refine b_aload_n (d133 (j := 22) rfl) rfl ?_
      refine b_getR (d133 (j := 23) rfl) rfl rfl rfl rfl ?_
      refine b_stk [uR 4 24] rfl ?_
      refine b_getR (d133 (j := 24) rfl) rfl rfl rfl rfl ?_
      refine b_stk [uR 3 40] rfl ?_
      refine b_getI (d133 (j := 25) rfl) rfl rfl rfl rfl (Or.inl rfl) ?_
      refine b_stk [uI (M1 40 0)] rfl ?_
      exact b_iret (d133 (j := 26) rfl) rfl (k1 c1 c2 M1 hR1)
    ·
      refine b_bipush (d133 (j := 10) rfl) (by decide) ?_
      exact b_iret (d133 (j := 11) rfl) rfl (k2 c1 c2)
  ·
    refine b_bipush (d133 (j := 3) rfl) (by decide) ?_
    exact b_iret (d133 (j := 4) rfl) rfl (k3 c1)
def L134 : List (Nat × Instr × Nat × Nat) := [(0, .aload_n 0, 1, 0), (1, .invokevirtual 179, 4, 0), (4, .ifCond .ne 6, 7, 10), (7, .bipush (-2), 9, 0), (9, .ireturn, 10, 0), (10, .aload_n 0, 11, 0), (11, .getfield 23, 14, 0), (14, .getfield 345, 17, 0), (17, .getfield 130, 20, 0), (20, .istore_n 1, 21, 0), (21, .aload_n 0, 22, 0), (22, .getfield 23, 25, 0), (25, .getfield 345, 28, 0), (28, .iconst 0, 29, 0), (29, .putfield 130, 32, 0), (32, .aload_n 0, 33, 0), (33, .invokevirtual 88, 36, 0), (36, .iload_n 1, 37, 0), (37, .ireturn, 38, 0)]
set_option maxRecDepth 100000 in
theorem L134_ok : L134.all (dck 134) = true := by decide +kernel
theorem d134 {j pc nx tg : Nat} {ins : Instr} (hj : L134[j]? = some (pc, ins, nx, tg)) : dcd 134 pc ins nx tg := dcl_ok L134_ok hj
set_option maxRecDepth 100000 in
set_option maxHeartbeats 4000000 in
theorem r134_0  {R1 : dsMem → Prop} {M : dsMem} {Q : bQT} (hA1 : ((0 < (M 24 0))) → bCt 156 [uR 10 0] (dsSet M 40 0 0) (fun _ => []) R1) (k1 : ((0 < (M 24 0))) → ∀ M1 : dsMem, R1 M1 → Q [uI (M 40 0)] M1) (k2 : (¬ (0 < (M 24 0))) → Q [uI (-2)] M) :
    bB 134 0 [uR 10 0, uX 0] [] M Q := by
  refine b_aload_n (d134 (j := 0) rfl) rfl ?_
  refine b_callV (d134 (j := 1) rfl) rfl rfl (Or.inl rfl) rfl (bCk_mk (n := 0) (k := 1) (by decide +kernel) rfl rfl) (pu149  ?_)
  refine b_stk [uI (if (0 < (M 24 0)) then 1 else 0)] rfl ?_
  refine b_ifneP (d134 (j := 2) rfl) (fun c1 => ?_) (fun c1 => ?_)
  ·
    refine b_aload_n (d134 (j := 5) rfl) rfl ?_
    refine b_getR (d134 (j := 6) rfl) rfl rfl rfl rfl ?_
    refine b_stk [uR 4 24] rfl ?_
    refine b_getR (d134 (j := 7) rfl) rfl rfl rfl rfl ?_
    refine b_stk [uR 3 40] rfl ?_
    refine b_getI (d134 (j := 8) rfl) rfl rfl rfl rfl (Or.inl rfl) ?_
    refine b_stk [uI (M 40 0)] rfl ?_
    refine b_istore_n [uR 10 0, uI (M 40 0)] (d134 (j := 9) rfl) (by decide) rfl ?_
    refine b_aload_n (d134 (j := 10) rfl) rfl ?_
    refine b_getR (d134 (j := 11) rfl) rfl rfl rfl rfl ?_
    refine b_stk [uR 4 24] rfl ?_
    refine b_getR (d134 (j := 12) rfl) rfl rfl rfl rfl ?_
    refine b_stk [uR 3 40] rfl ?_
    refine b_iconst (d134 (j := 13) rfl) (by decide) ?_
    refine b_putI (d134 (j := 14) rfl) rfl ⟨rfl, rfl⟩ rfl rfl ?_
    refine b_aload_n (d134 (j := 15) rfl) rfl ?_
    refine b_callV (d134 (j := 16) rfl) rfl rfl (Or.inl rfl) rfl (bCk_mk (n := 0) (k := 1) (by decide +kernel) rfl rfl) ((hA1 c1) _ (fun M1 hR1 => ?_))
    refine b_stk [] rfl ?_
    refine b_iload_n (d134 (j := 17) rfl) rfl ?_
    exact b_iret (d134 (j := 18) rfl) rfl (k1 c1 M1 hR1)
  ·
    refine b_bipush (d134 (j := 3) rfl) (by decide) ?_
    exact b_iret (d134 (j := 4) rfl) rfl (k2 c1)
def L135 : List (Nat × Instr × Nat × Nat) := [(0, .aload_n 0, 1, 0), (1, .invokevirtual 179, 4, 0), (4, .ifCond .eq 23, 7, 27), (7, .iload_n 1, 8, 0), (8, .iconst 0, 9, 0), (9, .ldc_w 355, 12, 0), (12, .invokestatic 104, 15, 0), (15, .ifCond .eq 12, 18, 27), (18, .iload_n 2, 19, 0), (19, .iconst 0, 20, 0), (20, .iconst 1, 21, 0), (21, .invokestatic 104, 24, 0), (24, .ifCond .ne 6, 27, 30), (27, .bipush (-2), 29, 0), (29, .ireturn, 30, 0), (30, .iload_n 2, 31, 0), (31, .ifCond .ne 11, 34, 42), (34, .aload_n 0, 35, 0), (35, .iload_n 1, 36, 0), (36, .invokevirtual 356, 39, 0), (39, .goto 8, 42, 47), (42, .aload_n 0, 43, 0), (43, .iload_n 1, 44, 0), (44, .invokevirtual 359, 47, 0), (47, .ireturn, 48, 0)]
set_option maxRecDepth 100000 in
theorem L135_ok : L135.all (dck 135) = true := by decide +kernel
theorem d135 {j pc nx tg : Nat} {ins : Instr} (hj : L135[j]? = some (pc, ins, nx, tg)) : dcd 135 pc ins nx tg := dcl_ok L135_ok hj
set_option maxRecDepth 100000 in
set_option maxHeartbeats 4000000 in
theorem r135_0 {x1 x2 : Int} {R1 : dsMem → Prop} {g1 : dsMem → Int} {M : dsMem} {Q : bQT} (k1 : (¬ (0 < (M 24 0))) → Q [uI (-2)] M) (k2 : ((0 < (M 24 0))) → (¬ (0 ≤ x1 ∧ x1 ≤ 2000000000)) → Q [uI (-2)] M) (hA1 : ((0 < (M 24 0))) → ((0 ≤ x1 ∧ x1 ≤ 2000000000)) → ((0 ≤ x2 ∧ x2 ≤ 1)) → (¬ x2 = 0) → bCt 175 [uR 10 0, uI x1] M (fun M1 => [uI (g1 M1)]) R1) (k3 : ((0 < (M 24 0))) → ((0 ≤ x1 ∧ x1 ≤ 2000000000)) → ((0 ≤ x2 ∧ x2 ≤ 1)) → (¬ x2 = 0) → ∀ M1 : dsMem, R1 M1 → Q [uI (g1 M1)] M1) (s1 : ((0 < (M 24 0))) → ((0 ≤ x1 ∧ x1 ≤ 2000000000)) → ((0 ≤ x2 ∧ x2 ≤ 1)) → (x2 = 0) → ∀ i174_1 : Int, ∀ a174_1 : Int × Int, 0 ≤ i174_1 → i174_1 < (M 30 0) → 0 ≤ (dsw64 (((1103515245 * (a174_1.1)) + 12345))) ∧ (0 : Int) < 2147483648 := by intros; omega) (s2 : ((0 < (M 24 0))) → ((0 ≤ x1 ∧ x1 ≤ 2000000000)) → ((0 ≤ x2 ∧ x2 ≤ 1)) → (x2 = 0) → ∀ i174_1 : Int, ∀ a174_1 : Int × Int, 0 ≤ i174_1 → i174_1 < (M 30 0) → (0 ≤ ((dsw64 (((1103515245 * (a174_1.1)) + 12345))) % 2147483648) ∧ ((dsw64 (((1103515245 * (a174_1.1)) + 12345))) % 2147483648) < 9223372036854775808) ∧ (0 : Int) < 65536 := by intros; omega) (s3 : ((0 < (M 24 0))) → ((0 ≤ x1 ∧ x1 ≤ 2000000000)) → ((0 ≤ x2 ∧ x2 ≤ 1)) → (x2 = 0) → ∀ i174_1 : Int, ∀ a174_1 : Int × Int, 0 ≤ i174_1 → i174_1 < (M 30 0) → 0 ≤ (((dsw64 (((1103515245 * (a174_1.1)) + 12345))) % 2147483648) / 65536) ∧ (0 : Int) < 10 := by intros; omega) (s4 : ((0 < (M 24 0))) → ((0 ≤ x1 ∧ x1 ≤ 2000000000)) → ((0 ≤ x2 ∧ x2 ≤ 1)) → (x2 = 0) → ∀ i174_1 : Int, ∀ a174_1 : Int × Int, 0 ≤ i174_1 → i174_1 < (M 30 0) → -2147483648 ≤ i174_1 + 1 ∧ i174_1 + 1 < 2147483648 := by intros; omega) (k4 : ((0 < (M 24 0))) → ((0 ≤ x1 ∧ x1 ≤ 2000000000)) → ((0 ≤ x2 ∧ x2 ≤ 1)) → (x2 = 0) → Q [uI (v174 M x1)] M) (k5 : ((0 < (M 24 0))) → ((0 ≤ x1 ∧ x1 ≤ 2000000000)) → (¬ (0 ≤ x2 ∧ x2 ≤ 1)) → Q [uI (-2)] M) :
    bB 135 0 [uR 10 0, uI x1, uI x2] [] M Q := by
  refine b_aload_n (d135 (j := 0) rfl) rfl ?_
  refine b_callV (d135 (j := 1) rfl) rfl rfl (Or.inl rfl) rfl (bCk_mk (n := 0) (k := 1) (by decide +kernel) rfl rfl) (pu149  ?_)
  refine b_stk [uI (if (0 < (M 24 0)) then 1 else 0)] rfl ?_
  refine b_ifeqP (d135 (j := 2) rfl) (fun c1 => ?_) (fun c1 => ?_)
  ·
    refine b_bipush (d135 (j := 13) rfl) (by decide) ?_
    exact b_iret (d135 (j := 14) rfl) rfl (k1 c1)
  ·
    refine b_iload_n (d135 (j := 3) rfl) rfl ?_
    refine b_iconst (d135 (j := 4) rfl) (by decide) ?_
    refine b_ldcw (d135 (j := 5) rfl) rfl ?_
    refine b_callS (d135 (j := 6) rfl) (Or.inl rfl) rfl (bCk_mk (n := 0) (k := 3) (by decide +kernel) rfl rfl) (pu144  ?_)
    refine b_stk [uI (if (0 ≤ x1 ∧ x1 ≤ 2000000000) then 1 else 0)] rfl ?_
    refine b_ifeqP (d135 (j := 7) rfl) (fun c2 => ?_) (fun c2 => ?_)
    ·
      refine b_bipush (d135 (j := 13) rfl) (by decide) ?_
      exact b_iret (d135 (j := 14) rfl) rfl (k2 c1 c2)
    ·
      refine b_iload_n (d135 (j := 8) rfl) rfl ?_
      refine b_iconst (d135 (j := 9) rfl) (by decide) ?_
      refine b_iconst (d135 (j := 10) rfl) (by decide) ?_
      refine b_callS (d135 (j := 11) rfl) (Or.inl rfl) rfl (bCk_mk (n := 0) (k := 3) (by decide +kernel) rfl rfl) (pu144  ?_)
      refine b_stk [uI (if (0 ≤ x2 ∧ x2 ≤ 1) then 1 else 0)] rfl ?_
      refine b_ifneP (d135 (j := 12) rfl) (fun c3 => ?_) (fun c3 => ?_)
      ·
        refine b_iload_n (d135 (j := 15) rfl) rfl ?_
        refine b_if_ne (d135 (j := 16) rfl) (fun c4 => ?_) (fun c4 => ?_)
        ·
          refine b_aload_n (d135 (j := 21) rfl) rfl ?_
          refine b_iload_n (d135 (j := 22) rfl) rfl ?_
          refine b_callV (d135 (j := 23) rfl) rfl rfl (Or.inl rfl) rfl (bCk_mk (n := 0) (k := 2) (by decide +kernel) rfl rfl) ((hA1 c1 c2 c3 c4) _ (fun M1 hR1 => ?_))
          refine b_stk [uI (g1 M1)] rfl ?_
          exact b_iret (d135 (j := 24) rfl) rfl (k3 c1 c2 c3 c4 M1 hR1)
        ·
          refine b_aload_n (d135 (j := 17) rfl) rfl ?_
          refine b_iload_n (d135 (j := 18) rfl) rfl ?_
          refine b_callV (d135 (j := 19) rfl) rfl rfl (Or.inl rfl) rfl (bCk_mk (n := 0) (k := 2) (by decide +kernel) rfl rfl) (fx174 (s1 c1 c2 c3 c4) (s2 c1 c2 c3 c4) (s3 c1 c2 c3 c4) (s4 c1 c2 c3 c4) ?_)
          refine b_stk [uI (v174 M x1)] rfl ?_
          refine b_goto (d135 (j := 20) rfl) ?_
          exact b_iret (d135 (j := 24) rfl) rfl (k4 c1 c2 c3 c4)
      ·
        refine b_bipush (d135 (j := 13) rfl) (by decide) ?_
        exact b_iret (d135 (j := 14) rfl) rfl (k5 c1 c2 c3)
def L136 : List (Nat × Instr × Nat × Nat) := [(0, .iload_n 1, 1, 0), (1, .iconst 0, 2, 0), (2, .ldc_w 355, 5, 0), (5, .invokestatic 104, 8, 0), (8, .ifCond .eq 21, 11, 29), (11, .iload_n 2, 12, 0), (12, .iconst 1, 13, 0), (13, .bipush 20, 15, 0), (15, .invokestatic 104, 18, 0), (18, .ifCond .eq 11, 21, 29), (21, .aload_n 0, 22, 0), (22, .iload_n 3, 23, 0), (23, .invokevirtual 100, 26, 0), (26, .ifCond .ne 6, 29, 32), (29, .bipush (-2), 31, 0), (31, .ireturn, 32, 0), (32, .iconst 0, 33, 0), (33, .istore 4, 35, 0), (35, .iconst 0, 36, 0), (36, .istore 5, 38, 0), (38, .iload 5, 40, 0), (40, .iload_n 2, 41, 0), (41, .if_icmp .ge 27, 44, 68), (44, .aload_n 0, 45, 0), (45, .iload_n 1, 46, 0), (46, .iload 5, 48, 0), (48, .iadd, 49, 0), (49, .invokevirtual 359, 52, 0), (52, .iload_n 3, 53, 0), (53, .invokestatic 219, 56, 0), (56, .ifCond .eq 6, 59, 62), (59, .iinc 4 1, 62, 0), (62, .iinc 5 1, 65, 0), (65, .goto (-27), 68, 38), (68, .iload 4, 70, 0), (70, .ireturn, 71, 0)]
set_option maxRecDepth 100000 in
theorem L136_ok : L136.all (dck 136) = true := by decide +kernel
theorem d136 {j pc nx tg : Nat} {ins : Instr} (hj : L136[j]? = some (pc, ins, nx, tg)) : dcd 136 pc ins nx tg := dcl_ok L136_ok hj
set_option maxRecDepth 100000 in
set_option maxHeartbeats 4000000 in
theorem r136_0 {x1 x2 x3 : Int}  {M : dsMem} {Q : bQT} (k1 : (¬ (0 ≤ x1 ∧ x1 ≤ 2000000000)) → Q [uI (-2)] M) (k2 : ((0 ≤ x1 ∧ x1 ≤ 2000000000)) → (¬ (1 ≤ x2 ∧ x2 ≤ 20)) → Q [uI (-2)] M) (s1 : ((0 ≤ x1 ∧ x1 ≤ 2000000000)) → ((1 ≤ x2 ∧ x2 ≤ 20)) → -2147483648 ≤ ((M 24 4) - 1) ∧ ((M 24 4) - 1) < 2147483648 := by intros; omega) (k3 : ((0 ≤ x1 ∧ x1 ≤ 2000000000)) → ((1 ≤ x2 ∧ x2 ≤ 20)) → ((0 ≤ x3 ∧ x3 ≤ (M 24 4) - 1)) → bB 136 38 [uR 10 0, uI x1, uI x2, uI x3, uI 0, uI 0] [] M Q) (k4 : ((0 ≤ x1 ∧ x1 ≤ 2000000000)) → ((1 ≤ x2 ∧ x2 ≤ 20)) → (¬ (0 ≤ x3 ∧ x3 ≤ (M 24 4) - 1)) → Q [uI (-2)] M) :
    bB 136 0 [uR 10 0, uI x1, uI x2, uI x3, uX 0, uX 0] [] M Q := by
  refine b_iload_n (d136 (j := 0) rfl) rfl ?_
  refine b_iconst (d136 (j := 1) rfl) (by decide) ?_
  refine b_ldcw (d136 (j := 2) rfl) rfl ?_
  refine b_callS (d136 (j := 3) rfl) (Or.inl rfl) rfl (bCk_mk (n := 0) (k := 3) (by decide +kernel) rfl rfl) (pu144  ?_)
  refine b_stk [uI (if (0 ≤ x1 ∧ x1 ≤ 2000000000) then 1 else 0)] rfl ?_
  refine b_ifeqP (d136 (j := 4) rfl) (fun c1 => ?_) (fun c1 => ?_)
  ·
    refine b_bipush (d136 (j := 14) rfl) (by decide) ?_
    exact b_iret (d136 (j := 15) rfl) rfl (k1 c1)
  ·
    refine b_iload_n (d136 (j := 5) rfl) rfl ?_
    refine b_iconst (d136 (j := 6) rfl) (by decide) ?_
    refine b_bipush (d136 (j := 7) rfl) (by decide) ?_
    refine b_callS (d136 (j := 8) rfl) (Or.inl rfl) rfl (bCk_mk (n := 0) (k := 3) (by decide +kernel) rfl rfl) (pu144  ?_)
    refine b_stk [uI (if (1 ≤ x2 ∧ x2 ≤ 20) then 1 else 0)] rfl ?_
    refine b_ifeqP (d136 (j := 9) rfl) (fun c2 => ?_) (fun c2 => ?_)
    ·
      refine b_bipush (d136 (j := 14) rfl) (by decide) ?_
      exact b_iret (d136 (j := 15) rfl) rfl (k2 c1 c2)
    ·
      refine b_aload_n (d136 (j := 10) rfl) rfl ?_
      refine b_iload_n (d136 (j := 11) rfl) rfl ?_
      refine b_callV (d136 (j := 12) rfl) rfl rfl (Or.inl rfl) rfl (bCk_mk (n := 0) (k := 2) (by decide +kernel) rfl rfl) (pu150 (s1 c1 c2) ?_)
      refine b_stk [uI (if (0 ≤ x3 ∧ x3 ≤ (M 24 4) - 1) then 1 else 0)] rfl ?_
      refine b_ifneP (d136 (j := 13) rfl) (fun c3 => ?_) (fun c3 => ?_)
      ·
        refine b_iconst (d136 (j := 16) rfl) (by decide) ?_
        refine b_istore [uR 10 0, uI x1, uI x2, uI x3, uI 0, uX 0] (d136 (j := 17) rfl) (by decide) rfl ?_
        refine b_iconst (d136 (j := 18) rfl) (by decide) ?_
        refine b_istore [uR 10 0, uI x1, uI x2, uI x3, uI 0, uI 0] (d136 (j := 19) rfl) (by decide) rfl ?_
        exact (k3 c1 c2 c3)
      ·
        refine b_bipush (d136 (j := 14) rfl) (by decide) ?_
        exact b_iret (d136 (j := 15) rfl) rfl (k4 c1 c2 c3)
set_option maxRecDepth 100000 in
set_option maxHeartbeats 4000000 in
theorem r136_38 {x1 x2 x3 x4 x5 : Int} {R1 : dsMem → Prop} {g1 : dsMem → Int} {M : dsMem} {Q : bQT} (k1 : (x2 ≤ x5) → Q [uI x4] M) (s1 : (¬ x2 ≤ x5) → -2147483648 ≤ (x1 + x5) ∧ (x1 + x5) < 2147483648 := by intros; omega) (hA1 : (¬ x2 ≤ x5) → bCt 175 [uR 10 0, uI (x1 + x5)] M (fun M1 => [uI (g1 M1)]) R1) (s2 : (¬ x2 ≤ x5) → ∀ M1 : dsMem, R1 M1 → (¬ (dsAnd (dsShr (g1 M1) x3) 1 = 1)) → -2147483648 ≤ x5 + 1 ∧ x5 + 1 < 2147483648 := by intros; omega) (k2 : (¬ x2 ≤ x5) → ∀ M1 : dsMem, R1 M1 → (¬ (dsAnd (dsShr (g1 M1) x3) 1 = 1)) → bB 136 38 [uR 10 0, uI x1, uI x2, uI x3, uI x4, uI (x5 + 1)] [] M1 Q) (s3 : (¬ x2 ≤ x5) → ∀ M1 : dsMem, R1 M1 → ((dsAnd (dsShr (g1 M1) x3) 1 = 1)) → -2147483648 ≤ x4 + 1 ∧ x4 + 1 < 2147483648 := by intros; omega) (s4 : (¬ x2 ≤ x5) → ∀ M1 : dsMem, R1 M1 → ((dsAnd (dsShr (g1 M1) x3) 1 = 1)) → -2147483648 ≤ x5 + 1 ∧ x5 + 1 < 2147483648 := by intros; omega) (k3 : (¬ x2 ≤ x5) → ∀ M1 : dsMem, R1 M1 → ((dsAnd (dsShr (g1 M1) x3) 1 = 1)) → bB 136 38 [uR 10 0, uI x1, uI x2, uI x3, uI (x4 + 1), uI (x5 + 1)] [] M1 Q) :
    bB 136 38 [uR 10 0, uI x1, uI x2, uI x3, uI x4, uI x5] [] M Q := by
  refine b_iload (d136 (j := 20) rfl) rfl ?_
  refine b_iload_n (d136 (j := 21) rfl) rfl ?_
  refine b_icmp_ge (d136 (j := 22) rfl) (fun c1 => ?_) (fun c1 => ?_)
  ·
    refine b_iload (d136 (j := 34) rfl) rfl ?_
    exact b_iret (d136 (j := 35) rfl) rfl (k1 c1)
  ·
    refine b_aload_n (d136 (j := 23) rfl) rfl ?_
    refine b_iload_n (d136 (j := 24) rfl) rfl ?_
    refine b_iload (d136 (j := 25) rfl) rfl ?_
    refine b_iadd (d136 (j := 26) rfl) rfl rfl ?_
    refine b_stk [uI (x1 + x5), uR 10 0] (by rw [dsw_r (s1 c1)]) ?_
    refine b_callV (d136 (j := 27) rfl) rfl rfl (Or.inl rfl) rfl (bCk_mk (n := 0) (k := 2) (by decide +kernel) rfl rfl) ((hA1 c1) _ (fun M1 hR1 => ?_))
    refine b_stk [uI (g1 M1)] rfl ?_
    refine b_iload_n (d136 (j := 28) rfl) rfl ?_
    refine b_callS (d136 (j := 29) rfl) (Or.inl rfl) rfl (bCk_mk (n := 0) (k := 2) (by decide +kernel) rfl rfl) (pu145 ?_)
    refine b_stk [uI (if (dsAnd (dsShr (g1 M1) x3) 1 = 1) then 1 else 0)] rfl ?_
    refine b_ifeqP (d136 (j := 30) rfl) (fun c2 => ?_) (fun c2 => ?_)
    ·
      refine b_iinc [uR 10 0, uI x1, uI x2, uI x3, uI x4, uI (x5 + 1)] (d136 (j := 32) rfl) rfl (by decide) (s2 c1 M1 hR1 c2) rfl ?_
      refine b_goto (d136 (j := 33) rfl) ?_
      exact (k2 c1 M1 hR1 c2)
    ·
      refine b_iinc [uR 10 0, uI x1, uI x2, uI x3, uI (x4 + 1), uI x5] (d136 (j := 31) rfl) rfl (by decide) (s3 c1 M1 hR1 c2) rfl ?_
      refine b_iinc [uR 10 0, uI x1, uI x2, uI x3, uI (x4 + 1), uI (x5 + 1)] (d136 (j := 32) rfl) rfl (by decide) (s4 c1 M1 hR1 c2) rfl ?_
      refine b_goto (d136 (j := 33) rfl) ?_
      exact (k3 c1 M1 hR1 c2)
def L137 : List (Nat × Instr × Nat × Nat) := [(0, .aload_n 0, 1, 0), (1, .iload_n 1, 2, 0), (2, .invokevirtual 100, 5, 0), (5, .ifCond .eq 14, 8, 19), (8, .iload_n 2, 9, 0), (9, .iconst 0, 10, 0), (10, .sipush 300, 13, 0), (13, .invokestatic 104, 16, 0), (16, .ifCond .ne 6, 19, 22), (19, .bipush (-2), 21, 0), (21, .ireturn, 22, 0), (22, .aload_n 0, 23, 0), (23, .getfield 23, 26, 0), (26, .getfield 345, 29, 0), (29, .getfield 130, 32, 0), (32, .ifCond .le 6, 35, 38), (35, .bipush (-5), 37, 0), (37, .ireturn, 38, 0), (38, .aload_n 0, 39, 0), (39, .getfield 23, 42, 0), (42, .getfield 108, 45, 0), (45, .iload_n 1, 46, 0), (46, .iaload, 47, 0), (47, .istore_n 3, 48, 0), (48, .aload_n 0, 49, 0), (49, .getfield 23, 52, 0), (52, .getfield 108, 55, 0), (55, .iload_n 1, 56, 0), (56, .iload_n 2, 57, 0), (57, .iastore, 58, 0), (58, .aload_n 0, 59, 0), (59, .invokevirtual 88, 62, 0), (62, .iload_n 3, 63, 0), (63, .ireturn, 64, 0)]
set_option maxRecDepth 100000 in
theorem L137_ok : L137.all (dck 137) = true := by decide +kernel
theorem d137 {j pc nx tg : Nat} {ins : Instr} (hj : L137[j]? = some (pc, ins, nx, tg)) : dcd 137 pc ins nx tg := dcl_ok L137_ok hj
set_option maxRecDepth 100000 in
set_option maxHeartbeats 4000000 in
theorem r137_0 {x1 x2 : Int} {R1 : dsMem → Prop} {M : dsMem} {Q : bQT} (s1 : -2147483648 ≤ ((M 24 4) - 1) ∧ ((M 24 4) - 1) < 2147483648 := by intros; omega) (k1 : (¬ (0 ≤ x1 ∧ x1 ≤ (M 24 4) - 1)) → Q [uI (-2)] M) (s2 : ((0 ≤ x1 ∧ x1 ≤ (M 24 4) - 1)) → ((0 ≤ x2 ∧ x2 ≤ 300)) → ((M 40 0) ≤ 0) → 0 ≤ x1 ∧ x1 < 3 := by intros; omega) (hA1 : ((0 ≤ x1 ∧ x1 ≤ (M 24 4) - 1)) → ((0 ≤ x2 ∧ x2 ≤ 300)) → ((M 40 0) ≤ 0) → bCt 156 [uR 10 0] (dsSet M 25 x1 x2) (fun _ => []) R1) (k2 : ((0 ≤ x1 ∧ x1 ≤ (M 24 4) - 1)) → ((0 ≤ x2 ∧ x2 ≤ 300)) → ((M 40 0) ≤ 0) → ∀ M1 : dsMem, R1 M1 → Q [uI (M 25 x1)] M1) (k3 : ((0 ≤ x1 ∧ x1 ≤ (M 24 4) - 1)) → ((0 ≤ x2 ∧ x2 ≤ 300)) → (¬ (M 40 0) ≤ 0) → Q [uI (-5)] M) (k4 : ((0 ≤ x1 ∧ x1 ≤ (M 24 4) - 1)) → (¬ (0 ≤ x2 ∧ x2 ≤ 300)) → Q [uI (-2)] M) :
    bB 137 0 [uR 10 0, uI x1, uI x2, uX 0] [] M Q := by
  refine b_aload_n (d137 (j := 0) rfl) rfl ?_
  refine b_iload_n (d137 (j := 1) rfl) rfl ?_
  refine b_callV (d137 (j := 2) rfl) rfl rfl (Or.inl rfl) rfl (bCk_mk (n := 0) (k := 2) (by decide +kernel) rfl rfl) (pu150 s1 ?_)
  refine b_stk [uI (if (0 ≤ x1 ∧ x1 ≤ (M 24 4) - 1) then 1 else 0)] rfl ?_
  refine b_ifeqP (d137 (j := 3) rfl) (fun c1 => ?_) (fun c1 => ?_)
  ·
    refine b_bipush (d137 (j := 9) rfl) (by decide) ?_
    exact b_iret (d137 (j := 10) rfl) rfl (k1 c1)
  ·
    refine b_iload_n (d137 (j := 4) rfl) rfl ?_
    refine b_iconst (d137 (j := 5) rfl) (by decide) ?_
    refine b_sipush (d137 (j := 6) rfl) (by decide) ?_
    refine b_callS (d137 (j := 7) rfl) (Or.inl rfl) rfl (bCk_mk (n := 0) (k := 3) (by decide +kernel) rfl rfl) (pu144  ?_)
    refine b_stk [uI (if (0 ≤ x2 ∧ x2 ≤ 300) then 1 else 0)] rfl ?_
    refine b_ifneP (d137 (j := 8) rfl) (fun c2 => ?_) (fun c2 => ?_)
    ·
      refine b_aload_n (d137 (j := 11) rfl) rfl ?_
      refine b_getR (d137 (j := 12) rfl) rfl rfl rfl rfl ?_
      refine b_stk [uR 4 24] rfl ?_
      refine b_getR (d137 (j := 13) rfl) rfl rfl rfl rfl ?_
      refine b_stk [uR 3 40] rfl ?_
      refine b_getI (d137 (j := 14) rfl) rfl rfl rfl rfl (Or.inl rfl) ?_
      refine b_stk [uI (M 40 0)] rfl ?_
      refine b_if_le (d137 (j := 15) rfl) (fun c3 => ?_) (fun c3 => ?_)
      ·
        refine b_aload_n (d137 (j := 18) rfl) rfl ?_
        refine b_getR (d137 (j := 19) rfl) rfl rfl rfl rfl ?_
        refine b_stk [uR 4 24] rfl ?_
        refine b_getR (d137 (j := 20) rfl) rfl rfl rfl rfl ?_
        refine b_stk [uR 23 25] rfl ?_
        refine b_iload_n (d137 (j := 21) rfl) rfl ?_
        refine b_iaload (d137 (j := 22) rfl) rfl (s2 c1 c2 c3) ?_
        refine b_istore_n [uR 10 0, uI x1, uI x2, uI (M 25 x1)] (d137 (j := 23) rfl) (by decide) rfl ?_
        refine b_aload_n (d137 (j := 24) rfl) rfl ?_
        refine b_getR (d137 (j := 25) rfl) rfl rfl rfl rfl ?_
        refine b_stk [uR 4 24] rfl ?_
        refine b_getR (d137 (j := 26) rfl) rfl rfl rfl rfl ?_
        refine b_stk [uR 23 25] rfl ?_
        refine b_iload_n (d137 (j := 27) rfl) rfl ?_
        refine b_iload_n (d137 (j := 28) rfl) rfl ?_
        refine b_iastore (d137 (j := 29) rfl) rfl (s2 c1 c2 c3) ?_
        refine b_aload_n (d137 (j := 30) rfl) rfl ?_
        refine b_callV (d137 (j := 31) rfl) rfl rfl (Or.inl rfl) rfl (bCk_mk (n := 0) (k := 1) (by decide +kernel) rfl rfl) ((hA1 c1 c2 c3) _ (fun M1 hR1 => ?_))
        refine b_stk [] rfl ?_
        refine b_iload_n (d137 (j := 32) rfl) rfl ?_
        exact b_iret (d137 (j := 33) rfl) rfl (k2 c1 c2 c3 M1 hR1)
      ·
        refine b_bipush (d137 (j := 16) rfl) (by decide) ?_
        exact b_iret (d137 (j := 17) rfl) rfl (k3 c1 c2 c3)
    ·
      refine b_bipush (d137 (j := 9) rfl) (by decide) ?_
      exact b_iret (d137 (j := 10) rfl) rfl (k4 c1 c2)
def L138 : List (Nat × Instr × Nat × Nat) := [(0, .iload_n 1, 1, 0), (1, .tableswitch 153 0 10 #[59, 67, 75, 83, 91, 99, 110, 121, 132, 140, 148], 60, 0), (60, .aload_n 0, 61, 0), (61, .getfield 23, 64, 0), (64, .getfield 186, 67, 0), (67, .ireturn, 68, 0), (68, .aload_n 0, 69, 0), (69, .getfield 23, 72, 0), (72, .getfield 362, 75, 0), (75, .ireturn, 76, 0), (76, .aload_n 0, 77, 0), (77, .getfield 23, 80, 0), (80, .getfield 365, 83, 0), (83, .ireturn, 84, 0), (84, .aload_n 0, 85, 0), (85, .getfield 23, 88, 0), (88, .getfield 222, 91, 0), (91, .ireturn, 92, 0), (92, .aload_n 0, 93, 0), (93, .getfield 23, 96, 0), (96, .getfield 142, 99, 0), (99, .ireturn, 100, 0), (100, .aload_n 0, 101, 0), (101, .getfield 23, 104, 0), (104, .getfield 126, 107, 0), (107, .getfield 130, 110, 0), (110, .ireturn, 111, 0), (111, .aload_n 0, 112, 0), (112, .getfield 23, 115, 0), (115, .getfield 264, 118, 0), (118, .getfield 130, 121, 0), (121, .ireturn, 122, 0), (122, .aload_n 0, 123, 0), (123, .getfield 23, 126, 0), (126, .getfield 345, 129, 0), (129, .getfield 130, 132, 0), (132, .ireturn, 133, 0), (133, .aload_n 0, 134, 0), (134, .getfield 23, 137, 0), (137, .getfield 91, 140, 0), (140, .ireturn, 141, 0), (141, .aload_n 0, 142, 0), (142, .getfield 10, 145, 0), (145, .getfield 73, 148, 0), (148, .ireturn, 149, 0), (149, .aload_n 0, 150, 0), (150, .invokevirtual 368, 153, 0), (153, .ireturn, 154, 0), (154, .iconst (-1), 155, 0), (155, .ireturn, 156, 0)]
set_option maxRecDepth 100000 in
theorem L138_ok : L138.all (dck 138) = true := by decide +kernel
theorem d138 {j pc nx tg : Nat} {ins : Instr} (hj : L138[j]? = some (pc, ins, nx, tg)) : dcd 138 pc ins nx tg := dcl_ok L138_ok hj
set_option maxRecDepth 100000 in
set_option maxHeartbeats 4000000 in
theorem r138_0 {x1 : Int}  {M : dsMem} {Q : bQT} (k1 : (x1 = 0) → Q [uI (M 24 1)] M) (k2 : (x1 = 1) → Q [uI (M 24 2)] M) (k3 : (x1 = 2) → Q [uI (M 24 3)] M) (k4 : (x1 = 3) → Q [uI (M 24 4)] M) (k5 : (x1 = 4) → Q [uI (M 24 5)] M) (k6 : (x1 = 5) → Q [uI (M 30 0)] M) (k7 : (x1 = 6) → Q [uI (M 35 0)] M) (k8 : (x1 = 7) → Q [uI (M 40 0)] M) (k9 : (x1 = 8) → Q [uI (M 24 0)] M) (k10 : (x1 = 9) → Q [uI (M 1 0)] M) (s1 : (x1 = 10) → ∀ i155_1 : Int, ∀ a155_1 : Int, 0 ≤ i155_1 → i155_1 < 4 → 0 ≤ i155_1 ∧ i155_1 < 4 := by intros; omega) (s2 : (x1 = 10) → ∀ i155_1 : Int, ∀ a155_1 : Int, 0 ≤ i155_1 → i155_1 < 4 → -2147483648 ≤ i155_1 + 1 ∧ i155_1 + 1 < 2147483648 := by intros; omega) (s3 : (x1 = 10) → ∀ i155_1 : Int, ∀ a155_1 : Int, 0 ≤ i155_1 → i155_1 < 4 → (¬ (M 46 i155_1) < 0) → -2147483648 ≤ a155_1 + 1 ∧ a155_1 + 1 < 2147483648 := by intros; omega) (k11 : (x1 = 10) → Q [uI (v155 M)] M) (k12 : (x1 < 0 ∨ 10 < x1) → Q [uI (-1)] M) :
    bB 138 0 [uR 10 0, uI x1] [] M Q := by
  refine b_iload_n (d138 (j := 0) rfl) rfl ?_
  by_cases c1 : x1 = 0
  · refine b_switch (d138 (j := 1) rfl) 60 (by rw [c1]; decide) ?_
    refine b_aload_n (d138 (j := 2) rfl) rfl ?_
    refine b_getR (d138 (j := 3) rfl) rfl rfl rfl rfl ?_
    refine b_stk [uR 4 24] rfl ?_
    refine b_getI (d138 (j := 4) rfl) rfl rfl rfl rfl (Or.inl rfl) ?_
    refine b_stk [uI (M 24 1)] rfl ?_
    exact b_iret (d138 (j := 5) rfl) rfl (k1 c1)
  by_cases c2 : x1 = 1
  · refine b_switch (d138 (j := 1) rfl) 68 (by rw [c2]; decide) ?_
    refine b_aload_n (d138 (j := 6) rfl) rfl ?_
    refine b_getR (d138 (j := 7) rfl) rfl rfl rfl rfl ?_
    refine b_stk [uR 4 24] rfl ?_
    refine b_getI (d138 (j := 8) rfl) rfl rfl rfl rfl (Or.inl rfl) ?_
    refine b_stk [uI (M 24 2)] rfl ?_
    exact b_iret (d138 (j := 9) rfl) rfl (k2 c2)
  by_cases c3 : x1 = 2
  · refine b_switch (d138 (j := 1) rfl) 76 (by rw [c3]; decide) ?_
    refine b_aload_n (d138 (j := 10) rfl) rfl ?_
    refine b_getR (d138 (j := 11) rfl) rfl rfl rfl rfl ?_
    refine b_stk [uR 4 24] rfl ?_
    refine b_getI (d138 (j := 12) rfl) rfl rfl rfl rfl (Or.inl rfl) ?_
    refine b_stk [uI (M 24 3)] rfl ?_
    exact b_iret (d138 (j := 13) rfl) rfl (k3 c3)
  by_cases c4 : x1 = 3
  · refine b_switch (d138 (j := 1) rfl) 84 (by rw [c4]; decide) ?_
    refine b_aload_n (d138 (j := 14) rfl) rfl ?_
    refine b_getR (d138 (j := 15) rfl) rfl rfl rfl rfl ?_
    refine b_stk [uR 4 24] rfl ?_
    refine b_getI (d138 (j := 16) rfl) rfl rfl rfl rfl (Or.inl rfl) ?_
    refine b_stk [uI (M 24 4)] rfl ?_
    exact b_iret (d138 (j := 17) rfl) rfl (k4 c4)
  by_cases c5 : x1 = 4
  · refine b_switch (d138 (j := 1) rfl) 92 (by rw [c5]; decide) ?_
    refine b_aload_n (d138 (j := 18) rfl) rfl ?_
    refine b_getR (d138 (j := 19) rfl) rfl rfl rfl rfl ?_
    refine b_stk [uR 4 24] rfl ?_
    refine b_getI (d138 (j := 20) rfl) rfl rfl rfl rfl (Or.inl rfl) ?_
    refine b_stk [uI (M 24 5)] rfl ?_
    exact b_iret (d138 (j := 21) rfl) rfl (k5 c5)
  by_cases c6 : x1 = 5
  · refine b_switch (d138 (j := 1) rfl) 100 (by rw [c6]; decide) ?_
    refine b_aload_n (d138 (j := 22) rfl) rfl ?_
    refine b_getR (d138 (j := 23) rfl) rfl rfl rfl rfl ?_
    refine b_stk [uR 4 24] rfl ?_
    refine b_getR (d138 (j := 24) rfl) rfl rfl rfl rfl ?_
    refine b_stk [uR 1 30] rfl ?_
    refine b_getI (d138 (j := 25) rfl) rfl rfl rfl rfl (Or.inl rfl) ?_
    refine b_stk [uI (M 30 0)] rfl ?_
    exact b_iret (d138 (j := 26) rfl) rfl (k6 c6)
  by_cases c7 : x1 = 6
  · refine b_switch (d138 (j := 1) rfl) 111 (by rw [c7]; decide) ?_
    refine b_aload_n (d138 (j := 27) rfl) rfl ?_
    refine b_getR (d138 (j := 28) rfl) rfl rfl rfl rfl ?_
    refine b_stk [uR 4 24] rfl ?_
    refine b_getR (d138 (j := 29) rfl) rfl rfl rfl rfl ?_
    refine b_stk [uR 2 35] rfl ?_
    refine b_getI (d138 (j := 30) rfl) rfl rfl rfl rfl (Or.inl rfl) ?_
    refine b_stk [uI (M 35 0)] rfl ?_
    exact b_iret (d138 (j := 31) rfl) rfl (k7 c7)
  by_cases c8 : x1 = 7
  · refine b_switch (d138 (j := 1) rfl) 122 (by rw [c8]; decide) ?_
    refine b_aload_n (d138 (j := 32) rfl) rfl ?_
    refine b_getR (d138 (j := 33) rfl) rfl rfl rfl rfl ?_
    refine b_stk [uR 4 24] rfl ?_
    refine b_getR (d138 (j := 34) rfl) rfl rfl rfl rfl ?_
    refine b_stk [uR 3 40] rfl ?_
    refine b_getI (d138 (j := 35) rfl) rfl rfl rfl rfl (Or.inl rfl) ?_
    refine b_stk [uI (M 40 0)] rfl ?_
    exact b_iret (d138 (j := 36) rfl) rfl (k8 c8)
  by_cases c9 : x1 = 8
  · refine b_switch (d138 (j := 1) rfl) 133 (by rw [c9]; decide) ?_
    refine b_aload_n (d138 (j := 37) rfl) rfl ?_
    refine b_getR (d138 (j := 38) rfl) rfl rfl rfl rfl ?_
    refine b_stk [uR 4 24] rfl ?_
    refine b_getI (d138 (j := 39) rfl) rfl rfl rfl rfl (Or.inl rfl) ?_
    refine b_stk [uI (M 24 0)] rfl ?_
    exact b_iret (d138 (j := 40) rfl) rfl (k9 c9)
  by_cases c10 : x1 = 9
  · refine b_switch (d138 (j := 1) rfl) 141 (by rw [c10]; decide) ?_
    refine b_aload_n (d138 (j := 41) rfl) rfl ?_
    refine b_getR (d138 (j := 42) rfl) rfl rfl rfl rfl ?_
    refine b_stk [uR 6 1] rfl ?_
    refine b_getI (d138 (j := 43) rfl) rfl rfl rfl rfl (Or.inl rfl) ?_
    refine b_stk [uI (M 1 0)] rfl ?_
    exact b_iret (d138 (j := 44) rfl) rfl (k10 c10)
  by_cases c11 : x1 = 10
  · refine b_switch (d138 (j := 1) rfl) 149 (by rw [c11]; decide) ?_
    refine b_aload_n (d138 (j := 45) rfl) rfl ?_
    refine b_callV (d138 (j := 46) rfl) rfl rfl (Or.inl rfl) rfl (bCk_mk (n := 0) (k := 1) (by decide +kernel) rfl rfl) (fx155 (s1 c11) (s2 c11) (s3 c11) ?_)
    refine b_stk [uI (v155 M)] rfl ?_
    exact b_iret (d138 (j := 47) rfl) rfl (k11 c11)
  have c12 : x1 < 0 ∨ 10 < x1 := by omega
  refine b_switch (d138 (j := 1) rfl) 154 (by rw [if_pos c12]; decide) ?_
  refine b_iconst (d138 (j := 48) rfl) (by decide) ?_
  exact b_iret (d138 (j := 49) rfl) rfl (k12 c12)
def L140 : List (Nat × Instr × Nat × Nat) := [(0, .iload_n 1, 1, 0), (1, .iconst 0, 2, 0), (2, .iconst 2, 3, 0), (3, .invokestatic 104, 6, 0), (6, .ifCond .ne 6, 9, 12), (9, .bipush (-2), 11, 0), (11, .ireturn, 12, 0), (12, .aload_n 0, 13, 0), (13, .getfield 26, 16, 0), (16, .iload_n 1, 17, 0), (17, .aaload, 18, 0), (18, .astore_n 2, 19, 0), (19, .aload_n 2, 20, 0), (20, .ifnonnull 6, 23, 26), (23, .bipush (-6), 25, 0), (25, .ireturn, 26, 0), (26, .aload_n 0, 27, 0), (27, .getfield 23, 30, 0), (30, .aload_n 2, 31, 0), (31, .invokevirtual 85, 34, 0), (34, .aload_n 0, 35, 0), (35, .invokevirtual 88, 38, 0), (38, .iconst 0, 39, 0), (39, .ireturn, 40, 0)]
set_option maxRecDepth 100000 in
theorem L140_ok : L140.all (dck 140) = true := by decide +kernel
theorem d140 {j pc nx tg : Nat} {ins : Instr} (hj : L140[j]? = some (pc, ins, nx, tg)) : dcd 140 pc ins nx tg := dcl_ok L140_ok hj
set_option maxRecDepth 100000 in
set_option maxHeartbeats 4000000 in
theorem r140_0 {x1 : Int} {R1 : dsMem → Prop} {R2 : dsMem → dsMem → Prop} {M : dsMem} {Q : bQT} (s1 : ((0 ≤ x1 ∧ x1 ≤ 2)) → 0 ≤ x1 ∧ x1 < 3 := by intros; omega) (hA1 : ((0 ≤ x1 ∧ x1 ≤ 2)) → (¬ (M 45 x1) < 0) → bCt 62 [uR 4 24, uR 12 (M 45 x1)] M (fun _ => []) R1) (hA2 : ((0 ≤ x1 ∧ x1 ≤ 2)) → (¬ (M 45 x1) < 0) → ∀ M1 : dsMem, R1 M1 → bCt 156 [uR 10 0] M1 (fun _ => []) (R2 M1)) (k1 : ((0 ≤ x1 ∧ x1 ≤ 2)) → (¬ (M 45 x1) < 0) → ∀ M1 : dsMem, R1 M1 → ∀ M2 : dsMem, R2 M1 M2 → Q [uI 0] M2) (k2 : ((0 ≤ x1 ∧ x1 ≤ 2)) → ((M 45 x1) < 0) → Q [uI (-6)] M) (k3 : (¬ (0 ≤ x1 ∧ x1 ≤ 2)) → Q [uI (-2)] M) :
    bB 140 0 [uR 10 0, uI x1, uX 0] [] M Q := by
  refine b_iload_n (d140 (j := 0) rfl) rfl ?_
  refine b_iconst (d140 (j := 1) rfl) (by decide) ?_
  refine b_iconst (d140 (j := 2) rfl) (by decide) ?_
  refine b_callS (d140 (j := 3) rfl) (Or.inl rfl) rfl (bCk_mk (n := 0) (k := 3) (by decide +kernel) rfl rfl) (pu144  ?_)
  refine b_stk [uI (if (0 ≤ x1 ∧ x1 ≤ 2) then 1 else 0)] rfl ?_
  refine b_ifneP (d140 (j := 4) rfl) (fun c1 => ?_) (fun c1 => ?_)
  ·
    refine b_aload_n (d140 (j := 7) rfl) rfl ?_
    refine b_getR (d140 (j := 8) rfl) rfl rfl rfl rfl ?_
    refine b_stk [uR 35 45] rfl ?_
    refine b_iload_n (d140 (j := 9) rfl) rfl ?_
    refine b_aaloadW (d140 (j := 10) rfl) rfl (s1 c1) ?_
    refine b_astore_n [uR 10 0, uI x1, uR 12 (M 45 x1)] (d140 (j := 11) rfl) (by decide) rfl ?_
    refine b_aload_n (d140 (j := 12) rfl) rfl ?_
    refine b_ifnonnull (d140 (j := 13) rfl) (fun c2 => ?_) (fun c2 => ?_)
    ·
      refine b_aload_n (d140 (j := 16) rfl) rfl ?_
      refine b_getR (d140 (j := 17) rfl) rfl rfl rfl rfl ?_
      refine b_stk [uR 4 24] rfl ?_
      refine b_aload_n (d140 (j := 18) rfl) rfl ?_
      refine b_callV (d140 (j := 19) rfl) rfl rfl (Or.inl rfl) rfl (bCk_mk (n := 0) (k := 2) (by decide +kernel) rfl rfl) ((hA1 c1 c2) _ (fun M1 hR1 => ?_))
      refine b_stk [] rfl ?_
      refine b_aload_n (d140 (j := 20) rfl) rfl ?_
      refine b_callV (d140 (j := 21) rfl) rfl rfl (Or.inl rfl) rfl (bCk_mk (n := 0) (k := 1) (by decide +kernel) rfl rfl) ((hA2 c1 c2 M1 hR1) _ (fun M2 hR2 => ?_))
      refine b_stk [] rfl ?_
      refine b_iconst (d140 (j := 22) rfl) (by decide) ?_
      exact b_iret (d140 (j := 23) rfl) rfl (k1 c1 c2 M1 hR1 M2 hR2)
    ·
      refine b_bipush (d140 (j := 14) rfl) (by decide) ?_
      exact b_iret (d140 (j := 15) rfl) rfl (k2 c1 c2)
  ·
    refine b_bipush (d140 (j := 5) rfl) (by decide) ?_
    exact b_iret (d140 (j := 6) rfl) rfl (k3 c1)
def L142 : List (Nat × Instr × Nat × Nat) := [(0, .iload_n 1, 1, 0), (1, .invokestatic 371, 4, 0), (4, .ifCond .ne 6, 7, 10), (7, .bipush (-2), 9, 0), (9, .ireturn, 10, 0), (10, .aload_n 0, 11, 0), (11, .getfield 32, 14, 0), (14, .iload_n 1, 15, 0), (15, .aaload, 16, 0), (16, .astore 5, 18, 0), (18, .aload 5, 20, 0), (20, .ifnonnull 6, 23, 26), (23, .bipush (-6), 25, 0), (25, .ireturn, 26, 0), (26, .iload_n 2, 27, 0), (27, .iconst 0, 28, 0), (28, .aload 5, 30, 0), (30, .getfield 379, 33, 0), (33, .iconst 1, 34, 0), (34, .isub, 35, 0), (35, .invokestatic 104, 38, 0), (38, .ifCond .ne 6, 41, 44), (41, .bipush (-7), 43, 0), (43, .ireturn, 44, 0), (44, .aload 5, 46, 0), (46, .getfield 380, 49, 0), (49, .iload_n 2, 50, 0), (50, .aload 5, 52, 0), (52, .lload_n 3, 53, 0), (53, .invokevirtual 383, 56, 0), (56, .lastore, 57, 0), (57, .iconst 0, 58, 0), (58, .ireturn, 59, 0)]
set_option maxRecDepth 100000 in
theorem L142_ok : L142.all (dck 142) = true := by decide +kernel
theorem d142 {j pc nx tg : Nat} {ins : Instr} (hj : L142[j]? = some (pc, ins, nx, tg)) : dcd 142 pc ins nx tg := dcl_ok L142_ok hj
set_option maxRecDepth 100000 in
set_option maxHeartbeats 4000000 in
theorem r142_0 {x1 x2 x3 : Int}  {M : dsMem} {Q : bQT} (s1 : ((0 ≤ x1 ∧ x1 ≤ 3)) → 0 ≤ x1 ∧ x1 < 4 := by intros; omega) (s2 : ((0 ≤ x1 ∧ x1 ≤ 3)) → (¬ (M 46 x1) < 0) → 0 ≤ (M 46 x1) := by intros; omega) (s3 : ((0 ≤ x1 ∧ x1 ≤ 3)) → (¬ (M 46 x1) < 0) → -2147483648 ≤ ((M (M 46 x1) 1) - 1) ∧ ((M (M 46 x1) 1) - 1) < 2147483648 := by intros; omega) (s4 : ((0 ≤ x1 ∧ x1 ≤ 3)) → (¬ (M 46 x1) < 0) → ((0 ≤ x2 ∧ x2 ≤ ((M (M 46 x1) 1) - 1))) → -2147483648 ≤ (64 - (dsShl 8 (M (M 46 x1) 0))) ∧ (64 - (dsShl 8 (M (M 46 x1) 0))) < 2147483648 := by intros; omega) (s5 : ((0 ≤ x1 ∧ x1 ≤ 3)) → (¬ (M 46 x1) < 0) → ((0 ≤ x2 ∧ x2 ≤ ((M (M 46 x1) 1) - 1))) → 0 ≤ x2 ∧ x2 < 60 := by intros; omega) (k1 : ((0 ≤ x1 ∧ x1 ≤ 3)) → (¬ (M 46 x1) < 0) → ((0 ≤ x2 ∧ x2 ≤ ((M (M 46 x1) 1) - 1))) → Q [uI 0] (dsSet M ((M 46 x1) + 1) x2 (v41 M (M 46 x1) x3))) (k2 : ((0 ≤ x1 ∧ x1 ≤ 3)) → (¬ (M 46 x1) < 0) → (¬ (0 ≤ x2 ∧ x2 ≤ ((M (M 46 x1) 1) - 1))) → Q [uI (-7)] M) (k3 : ((0 ≤ x1 ∧ x1 ≤ 3)) → ((M 46 x1) < 0) → Q [uI (-6)] M) (k4 : (¬ (0 ≤ x1 ∧ x1 ≤ 3)) → Q [uI (-2)] M) :
    bB 142 0 [uR 10 0, uI x1, uI x2, uJ x3, uX 0, uX 0] [] M Q := by
  refine b_iload_n (d142 (j := 0) rfl) rfl ?_
  refine b_callS (d142 (j := 1) rfl) (Or.inl rfl) rfl (bCk_mk (n := 0) (k := 1) (by decide +kernel) rfl rfl) (pu148  ?_)
  refine b_stk [uI (if (0 ≤ x1 ∧ x1 ≤ 3) then 1 else 0)] rfl ?_
  refine b_ifneP (d142 (j := 2) rfl) (fun c1 => ?_) (fun c1 => ?_)
  ·
    refine b_aload_n (d142 (j := 5) rfl) rfl ?_
    refine b_getR (d142 (j := 6) rfl) rfl rfl rfl rfl ?_
    refine b_stk [uR 36 46] rfl ?_
    refine b_iload_n (d142 (j := 7) rfl) rfl ?_
    refine b_aaloadR (d142 (j := 8) rfl) rfl (s1 c1) ?_
    refine b_astore [uR 10 0, uI x1, uI x2, uJ x3, uX 0, uR 13 (M 46 x1)] (d142 (j := 9) rfl) (by decide) rfl ?_
    refine b_aload (d142 (j := 10) rfl) rfl ?_
    refine b_ifnonnull (d142 (j := 11) rfl) (fun c2 => ?_) (fun c2 => ?_)
    ·
      refine b_iload_n (d142 (j := 14) rfl) rfl ?_
      refine b_iconst (d142 (j := 15) rfl) (by decide) ?_
      refine b_aload (d142 (j := 16) rfl) rfl ?_
      refine b_getIN (d142 (j := 17) rfl) rfl rfl (s2 c1 c2) rfl (Or.inl rfl) ?_
      refine b_stk [uI (M (M 46 x1) 1), uI 0, uI x2] rfl ?_
      refine b_iconst (d142 (j := 18) rfl) (by decide) ?_
      refine b_isub (d142 (j := 19) rfl) rfl rfl ?_
      refine b_stk [uI ((M (M 46 x1) 1) - 1), uI 0, uI x2] (by rw [dsw_r (s3 c1 c2)]) ?_
      refine b_callS (d142 (j := 20) rfl) (Or.inl rfl) rfl (bCk_mk (n := 0) (k := 3) (by decide +kernel) rfl rfl) (pu144  ?_)
      refine b_stk [uI (if (0 ≤ x2 ∧ x2 ≤ ((M (M 46 x1) 1) - 1)) then 1 else 0)] rfl ?_
      refine b_ifneP (d142 (j := 21) rfl) (fun c3 => ?_) (fun c3 => ?_)
      ·
        refine b_aload (d142 (j := 24) rfl) rfl ?_
        refine b_getRN (d142 (j := 25) rfl) rfl rfl (s2 c1 c2) rfl ?_
        refine b_iload_n (d142 (j := 26) rfl) rfl ?_
        refine b_aload (d142 (j := 27) rfl) rfl ?_
        refine b_lload_n (d142 (j := 28) rfl) rfl ?_
        refine b_callV (d142 (j := 29) rfl) rfl rfl (Or.inr (s2 c1 c2)) rfl (bCk_mk (n := 2) (k := 3) (by decide +kernel) rfl rfl) (fx41 (s4 c1 c2 c3) ?_)
        refine b_stk [uJ (v41 M (M 46 x1) x3), uI x2, uR 34 ((M 46 x1) + 1)] rfl ?_
        refine b_lastore (d142 (j := 30) rfl) rfl (s5 c1 c2 c3) ?_
        refine b_iconst (d142 (j := 31) rfl) (by decide) ?_
        exact b_iret (d142 (j := 32) rfl) rfl (k1 c1 c2 c3)
      ·
        refine b_bipush (d142 (j := 22) rfl) (by decide) ?_
        exact b_iret (d142 (j := 23) rfl) rfl (k2 c1 c2 c3)
    ·
      refine b_bipush (d142 (j := 12) rfl) (by decide) ?_
      exact b_iret (d142 (j := 13) rfl) rfl (k3 c1 c2)
  ·
    refine b_bipush (d142 (j := 3) rfl) (by decide) ?_
    exact b_iret (d142 (j := 4) rfl) rfl (k4 c1)
def L143 : List (Nat × Instr × Nat × Nat) := [(0, .iload_n 1, 1, 0), (1, .invokestatic 371, 4, 0), (4, .ifCond .eq 10, 7, 14), (7, .iload_n 3, 8, 0), (8, .invokestatic 371, 11, 0), (11, .ifCond .ne 6, 14, 17), (14, .bipush (-2), 16, 0), (16, .ireturn, 17, 0), (17, .aload_n 0, 18, 0), (18, .getfield 32, 21, 0), (21, .iload_n 1, 22, 0), (22, .aaload, 23, 0), (23, .astore 6, 25, 0), (25, .aload_n 0, 26, 0), (26, .getfield 32, 29, 0), (29, .iload_n 3, 30, 0), (30, .aaload, 31, 0), (31, .astore 7, 33, 0), (33, .aload 6, 35, 0), (35, .ifnull 8, 38, 43), (38, .aload 7, 40, 0), (40, .ifnonnull 6, 43, 46), (43, .bipush (-6), 45, 0), (45, .ireturn, 46, 0), (46, .aload 6, 48, 0), (48, .getfield 387, 51, 0), (51, .aload 7, 53, 0), (53, .getfield 387, 56, 0), (56, .if_icmp .eq 6, 59, 62), (59, .bipush (-8), 61, 0), (61, .ireturn, 62, 0), (62, .aload 6, 64, 0), (64, .iload_n 2, 65, 0), (65, .iload 5, 67, 0), (67, .invokevirtual 390, 70, 0), (70, .ifCond .eq 15, 73, 85), (73, .aload 7, 75, 0), (75, .iload 4, 77, 0), (77, .iload 5, 79, 0), (79, .invokevirtual 390, 82, 0), (82, .ifCond .ne 6, 85, 88), (85, .bipush (-7), 87, 0), (87, .ireturn, 88, 0), (88, .aload 6, 90, 0), (90, .getfield 380, 93, 0), (93, .iload_n 2, 94, 0), (94, .aload 7, 96, 0), (96, .getfield 380, 99, 0), (99, .iload 4, 101, 0), (101, .iload 5, 103, 0), (103, .invokestatic 393, 106, 0), (106, .iconst 0, 107, 0), (107, .ireturn, 108, 0)]
set_option maxRecDepth 100000 in
theorem L143_ok : L143.all (dck 143) = true := by decide +kernel
theorem d143 {j pc nx tg : Nat} {ins : Instr} (hj : L143[j]? = some (pc, ins, nx, tg)) : dcd 143 pc ins nx tg := dcl_ok L143_ok hj
set_option maxRecDepth 100000 in
set_option maxHeartbeats 4000000 in
theorem r143_0 {x1 x2 x3 x4 x5 : Int}  {M : dsMem} {Q : bQT} (k1 : (¬ (0 ≤ x1 ∧ x1 ≤ 3)) → Q [uI (-2)] M) (s1 : ((0 ≤ x1 ∧ x1 ≤ 3)) → ((0 ≤ x3 ∧ x3 ≤ 3)) → 0 ≤ x1 ∧ x1 < 4 := by intros; omega) (s2 : ((0 ≤ x1 ∧ x1 ≤ 3)) → ((0 ≤ x3 ∧ x3 ≤ 3)) → 0 ≤ x3 ∧ x3 < 4 := by intros; omega) (k2 : ((0 ≤ x1 ∧ x1 ≤ 3)) → ((0 ≤ x3 ∧ x3 ≤ 3)) → ((M 46 x1) < 0) → Q [uI (-6)] M) (s3 : ((0 ≤ x1 ∧ x1 ≤ 3)) → ((0 ≤ x3 ∧ x3 ≤ 3)) → (¬ (M 46 x1) < 0) → (¬ (M 46 x3) < 0) → 0 ≤ (M 46 x1) := by intros; omega) (s4 : ((0 ≤ x1 ∧ x1 ≤ 3)) → ((0 ≤ x3 ∧ x3 ≤ 3)) → (¬ (M 46 x1) < 0) → (¬ (M 46 x3) < 0) → 0 ≤ (M 46 x3) := by intros; omega) (s5 : ((0 ≤ x1 ∧ x1 ≤ 3)) → ((0 ≤ x3 ∧ x3 ≤ 3)) → (¬ (M 46 x1) < 0) → (¬ (M 46 x3) < 0) → ((M (M 46 x1) 0) = (M (M 46 x3) 0)) → (¬ x2 < 0) → (¬ x5 < 0) → (¬ (M (M 46 x1) 1) < x2) → -2147483648 ≤ ((M (M 46 x1) 1) - x2) ∧ ((M (M 46 x1) 1) - x2) < 2147483648 := by intros; omega) (k3 : ((0 ≤ x1 ∧ x1 ≤ 3)) → ((0 ≤ x3 ∧ x3 ≤ 3)) → (¬ (M 46 x1) < 0) → (¬ (M 46 x3) < 0) → ((M (M 46 x1) 0) = (M (M 46 x3) 0)) → (¬ ((¬ (x2 < 0)) ∧ ((¬ (x5 < 0)) ∧ ((¬ ((M (M 46 x1) 1) < x2)) ∧ (¬ (((M (M 46 x1) 1) - x2) < x5)))))) → Q [uI (-7)] M) (s6 : ((0 ≤ x1 ∧ x1 ≤ 3)) → ((0 ≤ x3 ∧ x3 ≤ 3)) → (¬ (M 46 x1) < 0) → (¬ (M 46 x3) < 0) → ((M (M 46 x1) 0) = (M (M 46 x3) 0)) → (((¬ (x2 < 0)) ∧ ((¬ (x5 < 0)) ∧ ((¬ ((M (M 46 x1) 1) < x2)) ∧ (¬ (((M (M 46 x1) 1) - x2) < x5)))))) → (¬ x4 < 0) → (¬ x5 < 0) → (¬ (M (M 46 x3) 1) < x4) → -2147483648 ≤ ((M (M 46 x3) 1) - x4) ∧ ((M (M 46 x3) 1) - x4) < 2147483648 := by intros; omega) (s7 : ((0 ≤ x1 ∧ x1 ≤ 3)) → ((0 ≤ x3 ∧ x3 ≤ 3)) → (¬ (M 46 x1) < 0) → (¬ (M 46 x3) < 0) → ((M (M 46 x1) 0) = (M (M 46 x3) 0)) → (((¬ (x2 < 0)) ∧ ((¬ (x5 < 0)) ∧ ((¬ ((M (M 46 x1) 1) < x2)) ∧ (¬ (((M (M 46 x1) 1) - x2) < x5)))))) → (((¬ (x4 < 0)) ∧ ((¬ (x5 < 0)) ∧ ((¬ ((M (M 46 x3) 1) < x4)) ∧ (¬ (((M (M 46 x3) 1) - x4) < x5)))))) → 0 ≤ x5 ∧ 0 ≤ x2 ∧ 0 ≤ x4 ∧ x2 + x5 ≤ 60 ∧ x4 + x5 ≤ 60 := by intros; omega) (k4 : ((0 ≤ x1 ∧ x1 ≤ 3)) → ((0 ≤ x3 ∧ x3 ≤ 3)) → (¬ (M 46 x1) < 0) → (¬ (M 46 x3) < 0) → ((M (M 46 x1) 0) = (M (M 46 x3) 0)) → (((¬ (x2 < 0)) ∧ ((¬ (x5 < 0)) ∧ ((¬ ((M (M 46 x1) 1) < x2)) ∧ (¬ (((M (M 46 x1) 1) - x2) < x5)))))) → (((¬ (x4 < 0)) ∧ ((¬ (x5 < 0)) ∧ ((¬ ((M (M 46 x3) 1) < x4)) ∧ (¬ (((M (M 46 x3) 1) - x4) < x5)))))) → Q [uI 0] (dsCpy M ((M 46 x1) + 1) x2 ((M 46 x3) + 1) x4 x5)) (k5 : ((0 ≤ x1 ∧ x1 ≤ 3)) → ((0 ≤ x3 ∧ x3 ≤ 3)) → (¬ (M 46 x1) < 0) → (¬ (M 46 x3) < 0) → ((M (M 46 x1) 0) = (M (M 46 x3) 0)) → (((¬ (x2 < 0)) ∧ ((¬ (x5 < 0)) ∧ ((¬ ((M (M 46 x1) 1) < x2)) ∧ (¬ (((M (M 46 x1) 1) - x2) < x5)))))) → (¬ ((¬ (x4 < 0)) ∧ ((¬ (x5 < 0)) ∧ ((¬ ((M (M 46 x3) 1) < x4)) ∧ (¬ (((M (M 46 x3) 1) - x4) < x5)))))) → Q [uI (-7)] M) (k6 : ((0 ≤ x1 ∧ x1 ≤ 3)) → ((0 ≤ x3 ∧ x3 ≤ 3)) → (¬ (M 46 x1) < 0) → (¬ (M 46 x3) < 0) → (¬ (M (M 46 x1) 0) = (M (M 46 x3) 0)) → Q [uI (-8)] M) (k7 : ((0 ≤ x1 ∧ x1 ≤ 3)) → ((0 ≤ x3 ∧ x3 ≤ 3)) → (¬ (M 46 x1) < 0) → ((M 46 x3) < 0) → Q [uI (-6)] M) (k8 : ((0 ≤ x1 ∧ x1 ≤ 3)) → (¬ (0 ≤ x3 ∧ x3 ≤ 3)) → Q [uI (-2)] M) :
    bB 143 0 [uR 10 0, uI x1, uI x2, uI x3, uI x4, uI x5, uX 0, uX 0] [] M Q := by
  refine b_iload_n (d143 (j := 0) rfl) rfl ?_
  refine b_callS (d143 (j := 1) rfl) (Or.inl rfl) rfl (bCk_mk (n := 0) (k := 1) (by decide +kernel) rfl rfl) (pu148  ?_)
  refine b_stk [uI (if (0 ≤ x1 ∧ x1 ≤ 3) then 1 else 0)] rfl ?_
  refine b_ifeqP (d143 (j := 2) rfl) (fun c1 => ?_) (fun c1 => ?_)
  ·
    refine b_bipush (d143 (j := 6) rfl) (by decide) ?_
    exact b_iret (d143 (j := 7) rfl) rfl (k1 c1)
  ·
    refine b_iload_n (d143 (j := 3) rfl) rfl ?_
    refine b_callS (d143 (j := 4) rfl) (Or.inl rfl) rfl (bCk_mk (n := 0) (k := 1) (by decide +kernel) rfl rfl) (pu148  ?_)
    refine b_stk [uI (if (0 ≤ x3 ∧ x3 ≤ 3) then 1 else 0)] rfl ?_
    refine b_ifneP (d143 (j := 5) rfl) (fun c2 => ?_) (fun c2 => ?_)
    ·
      refine b_aload_n (d143 (j := 8) rfl) rfl ?_
      refine b_getR (d143 (j := 9) rfl) rfl rfl rfl rfl ?_
      refine b_stk [uR 36 46] rfl ?_
      refine b_iload_n (d143 (j := 10) rfl) rfl ?_
      refine b_aaloadR (d143 (j := 11) rfl) rfl (s1 c1 c2) ?_
      refine b_astore [uR 10 0, uI x1, uI x2, uI x3, uI x4, uI x5, uR 13 (M 46 x1), uX 0] (d143 (j := 12) rfl) (by decide) rfl ?_
      refine b_aload_n (d143 (j := 13) rfl) rfl ?_
      refine b_getR (d143 (j := 14) rfl) rfl rfl rfl rfl ?_
      refine b_stk [uR 36 46] rfl ?_
      refine b_iload_n (d143 (j := 15) rfl) rfl ?_
      refine b_aaloadR (d143 (j := 16) rfl) rfl (s2 c1 c2) ?_
      refine b_astore [uR 10 0, uI x1, uI x2, uI x3, uI x4, uI x5, uR 13 (M 46 x1), uR 13 (M 46 x3)] (d143 (j := 17) rfl) (by decide) rfl ?_
      refine b_aload (d143 (j := 18) rfl) rfl ?_
      refine b_ifnull (d143 (j := 19) rfl) (fun c3 => ?_) (fun c3 => ?_)
      ·
        refine b_bipush (d143 (j := 22) rfl) (by decide) ?_
        exact b_iret (d143 (j := 23) rfl) rfl (k2 c1 c2 c3)
      ·
        refine b_aload (d143 (j := 20) rfl) rfl ?_
        refine b_ifnonnull (d143 (j := 21) rfl) (fun c4 => ?_) (fun c4 => ?_)
        ·
          refine b_aload (d143 (j := 24) rfl) rfl ?_
          refine b_getIN (d143 (j := 25) rfl) rfl rfl (s3 c1 c2 c3 c4) rfl (Or.inl rfl) ?_
          refine b_stk [uI (M (M 46 x1) 0)] rfl ?_
          refine b_aload (d143 (j := 26) rfl) rfl ?_
          refine b_getIN (d143 (j := 27) rfl) rfl rfl (s4 c1 c2 c3 c4) rfl (Or.inl rfl) ?_
          refine b_stk [uI (M (M 46 x3) 0), uI (M (M 46 x1) 0)] rfl ?_
          refine b_icmp_eq (d143 (j := 28) rfl) (fun c5 => ?_) (fun c5 => ?_)
          ·
            refine b_aload (d143 (j := 31) rfl) rfl ?_
            refine b_iload_n (d143 (j := 32) rfl) rfl ?_
            refine b_iload (d143 (j := 33) rfl) rfl ?_
            refine b_callV (d143 (j := 34) rfl) rfl rfl (Or.inr (s3 c1 c2 c3 c4)) rfl (bCk_mk (n := 0) (k := 3) (by decide +kernel) rfl rfl) (fx42 (s5 c1 c2 c3 c4 c5) ?_)
            refine b_stk [uI (if ((¬ (x2 < 0)) ∧ ((¬ (x5 < 0)) ∧ ((¬ ((M (M 46 x1) 1) < x2)) ∧ (¬ (((M (M 46 x1) 1) - x2) < x5))))) then 1 else 0)] rfl ?_
            refine b_ifeqP (d143 (j := 35) rfl) (fun c6 => ?_) (fun c6 => ?_)
            ·
              refine b_bipush (d143 (j := 41) rfl) (by decide) ?_
              exact b_iret (d143 (j := 42) rfl) rfl (k3 c1 c2 c3 c4 c5 c6)
            ·
              refine b_aload (d143 (j := 36) rfl) rfl ?_
              refine b_iload (d143 (j := 37) rfl) rfl ?_
              refine b_iload (d143 (j := 38) rfl) rfl ?_
              refine b_callV (d143 (j := 39) rfl) rfl rfl (Or.inr (s4 c1 c2 c3 c4)) rfl (bCk_mk (n := 0) (k := 3) (by decide +kernel) rfl rfl) (fx42 (s6 c1 c2 c3 c4 c5 c6) ?_)
              refine b_stk [uI (if ((¬ (x4 < 0)) ∧ ((¬ (x5 < 0)) ∧ ((¬ ((M (M 46 x3) 1) < x4)) ∧ (¬ (((M (M 46 x3) 1) - x4) < x5))))) then 1 else 0)] rfl ?_
              refine b_ifneP (d143 (j := 40) rfl) (fun c7 => ?_) (fun c7 => ?_)
              ·
                refine b_aload (d143 (j := 43) rfl) rfl ?_
                refine b_getRN (d143 (j := 44) rfl) rfl rfl (s3 c1 c2 c3 c4) rfl ?_
                refine b_iload_n (d143 (j := 45) rfl) rfl ?_
                refine b_aload (d143 (j := 46) rfl) rfl ?_
                refine b_getRN (d143 (j := 47) rfl) rfl rfl (s4 c1 c2 c3 c4) rfl ?_
                refine b_iload (d143 (j := 48) rfl) rfl ?_
                refine b_iload (d143 (j := 49) rfl) rfl ?_
                refine b_copy (d143 (j := 50) rfl) rfl (by decide) (s7 c1 c2 c3 c4 c5 c6 c7) ?_
                refine b_iconst (d143 (j := 51) rfl) (by decide) ?_
                exact b_iret (d143 (j := 52) rfl) rfl (k4 c1 c2 c3 c4 c5 c6 c7)
              ·
                refine b_bipush (d143 (j := 41) rfl) (by decide) ?_
                exact b_iret (d143 (j := 42) rfl) rfl (k5 c1 c2 c3 c4 c5 c6 c7)
          ·
            refine b_bipush (d143 (j := 29) rfl) (by decide) ?_
            exact b_iret (d143 (j := 30) rfl) rfl (k6 c1 c2 c3 c4 c5)
        ·
          refine b_bipush (d143 (j := 22) rfl) (by decide) ?_
          exact b_iret (d143 (j := 23) rfl) rfl (k7 c1 c2 c3 c4)
    ·
      refine b_bipush (d143 (j := 6) rfl) (by decide) ?_
      exact b_iret (d143 (j := 7) rfl) rfl (k8 c1 c2)
def L156 : List (Nat × Instr × Nat × Nat) := [(0, .aload_n 0, 1, 0), (1, .iconst 0, 2, 0), (2, .putfield 66, 5, 0), (5, .aload_n 0, 6, 0), (6, .iconst 0, 7, 0), (7, .putfield 70, 10, 0), (10, .aload_n 0, 11, 0), (11, .getfield 58, 14, 0), (14, .iconst 0, 15, 0), (15, .putfield 399, 18, 0), (18, .return_, 19, 0)]
set_option maxRecDepth 100000 in
theorem L156_ok : L156.all (dck 156) = true := by decide +kernel
theorem d156 {j pc nx tg : Nat} {ins : Instr} (hj : L156[j]? = some (pc, ins, nx, tg)) : dcd 156 pc ins nx tg := dcl_ok L156_ok hj
set_option maxRecDepth 100000 in
set_option maxHeartbeats 4000000 in
theorem r156_0   {M : dsMem} {Q : bQT} (k1 : Q [] (dsSet (dsSet (dsSet M 0 10 0) 0 11 0) 81 0 0)) :
    bB 156 0 [uR 10 0] [] M Q := by
  refine b_aload_n (d156 (j := 0) rfl) rfl ?_
  refine b_iconst (d156 (j := 1) rfl) (by decide) ?_
  refine b_putZ (d156 (j := 2) rfl) rfl ⟨rfl, rfl⟩ rfl rfl (by decide) ?_
  refine b_aload_n (d156 (j := 3) rfl) rfl ?_
  refine b_iconst (d156 (j := 4) rfl) (by decide) ?_
  refine b_putZ (d156 (j := 5) rfl) rfl ⟨rfl, rfl⟩ rfl rfl (by decide) ?_
  refine b_aload_n (d156 (j := 6) rfl) rfl ?_
  refine b_getR (d156 (j := 7) rfl) rfl rfl rfl rfl ?_
  refine b_stk [uR 8 81] rfl ?_
  refine b_iconst (d156 (j := 8) rfl) (by decide) ?_
  refine b_putZ (d156 (j := 9) rfl) rfl ⟨rfl, rfl⟩ rfl rfl (by decide) ?_
  exact b_vret (d156 (j := 10) rfl) rfl k1
def L157 : List (Nat × Instr × Nat × Nat) := [(0, .aload_n 0, 1, 0), (1, .getfield 66, 4, 0), (4, .ifCond .ne 18, 7, 22), (7, .aload_n 0, 8, 0), (8, .getfield 41, 11, 0), (11, .iconst 0, 12, 0), (12, .iconst 0, 13, 0), (13, .invokevirtual 279, 16, 0), (16, .pop, 17, 0), (17, .aload_n 0, 18, 0), (18, .iconst 1, 19, 0), (19, .putfield 66, 22, 0), (22, .aload_n 0, 23, 0), (23, .getfield 41, 26, 0), (26, .areturn, 27, 0)]
set_option maxRecDepth 100000 in
theorem L157_ok : L157.all (dck 157) = true := by decide +kernel
theorem d157 {j pc nx tg : Nat} {ins : Instr} (hj : L157[j]? = some (pc, ins, nx, tg)) : dcd 157 pc ins nx tg := dcl_ok L157_ok hj
set_option maxRecDepth 100000 in
set_option maxHeartbeats 4000000 in
theorem r157_0  {R1 : dsMem → Prop} {g1 : dsMem → Int} {M : dsMem} {Q : bQT} (k1 : (¬ (M 0 10) = 0) → Q [uR 5 47] M) (hA1 : ((M 0 10) = 0) → bCt 7 [uR 5 47, uI 0, uI 0, uX 0, uX 0] M (fun M1 => [uI (g1 M1)]) R1) (k2 : ((M 0 10) = 0) → ∀ M1 : dsMem, R1 M1 → Q [uR 5 47] (dsSet M1 0 10 1)) :
    bB 157 0 [uR 10 0] [] M Q := by
  refine b_aload_n (d157 (j := 0) rfl) rfl ?_
  refine b_getI (d157 (j := 1) rfl) rfl rfl rfl rfl (Or.inr rfl) ?_
  refine b_stk [uI (M 0 10)] rfl ?_
  refine b_if_ne (d157 (j := 2) rfl) (fun c1 => ?_) (fun c1 => ?_)
  ·
    refine b_aload_n (d157 (j := 12) rfl) rfl ?_
    refine b_getR (d157 (j := 13) rfl) rfl rfl rfl rfl ?_
    refine b_stk [uR 5 47] rfl ?_
    exact b_aret (d157 (j := 14) rfl) rfl (k1 c1)
  ·
    refine b_aload_n (d157 (j := 3) rfl) rfl ?_
    refine b_getR (d157 (j := 4) rfl) rfl rfl rfl rfl ?_
    refine b_stk [uR 5 47] rfl ?_
    refine b_iconst (d157 (j := 5) rfl) (by decide) ?_
    refine b_iconst (d157 (j := 6) rfl) (by decide) ?_
    refine b_callV (d157 (j := 7) rfl) rfl rfl (Or.inl rfl) rfl (bCk_mk (n := 0) (k := 3) (by decide +kernel) rfl rfl) ((hA1 c1) _ (fun M1 hR1 => ?_))
    refine b_stk [uI (g1 M1)] rfl ?_
    refine b_pop (d157 (j := 8) rfl) rfl ?_
    refine b_aload_n (d157 (j := 9) rfl) rfl ?_
    refine b_iconst (d157 (j := 10) rfl) (by decide) ?_
    refine b_putZ (d157 (j := 11) rfl) rfl ⟨rfl, rfl⟩ rfl rfl (by decide) ?_
    refine b_aload_n (d157 (j := 12) rfl) rfl ?_
    refine b_getR (d157 (j := 13) rfl) rfl rfl rfl rfl ?_
    refine b_stk [uR 5 47] rfl ?_
    exact b_aret (d157 (j := 14) rfl) rfl (k2 c1 M1 hR1)
def L158 : List (Nat × Instr × Nat × Nat) := [(0, .aload_n 0, 1, 0), (1, .getfield 45, 4, 0), (4, .getfield 402, 7, 0), (7, .invokevirtual 406, 10, 0), (10, .aload_n 0, 11, 0), (11, .getfield 45, 14, 0), (14, .getfield 402, 17, 0), (17, .areturn, 18, 0)]
set_option maxRecDepth 100000 in
theorem L158_ok : L158.all (dck 158) = true := by decide +kernel
theorem d158 {j pc nx tg : Nat} {ins : Instr} (hj : L158[j]? = some (pc, ins, nx, tg)) : dcd 158 pc ins nx tg := dcl_ok L158_ok hj
set_option maxRecDepth 100000 in
set_option maxHeartbeats 4000000 in
theorem r158_0  {R1 : dsMem → Prop} {M : dsMem} {Q : bQT} (hA1 : bCt 1 [uR 0 63] M (fun _ => []) R1) (k1 : ∀ M1 : dsMem, R1 M1 → Q [uR 0 63] M1) :
    bB 158 0 [uR 10 0] [] M Q := by
  refine b_aload_n (d158 (j := 0) rfl) rfl ?_
  refine b_getR (d158 (j := 1) rfl) rfl rfl rfl rfl ?_
  refine b_stk [uR 5 62] rfl ?_
  refine b_getR (d158 (j := 2) rfl) rfl rfl rfl rfl ?_
  refine b_stk [uR 0 63] rfl ?_
  refine b_callV (d158 (j := 3) rfl) rfl rfl (Or.inl rfl) rfl (bCk_mk (n := 0) (k := 1) (by decide +kernel) rfl rfl) ((hA1) _ (fun M1 hR1 => ?_))
  refine b_stk [] rfl ?_
  refine b_aload_n (d158 (j := 4) rfl) rfl ?_
  refine b_getR (d158 (j := 5) rfl) rfl rfl rfl rfl ?_
  refine b_stk [uR 5 62] rfl ?_
  refine b_getR (d158 (j := 6) rfl) rfl rfl rfl rfl ?_
  refine b_stk [uR 0 63] rfl ?_
  exact b_aret (d158 (j := 7) rfl) rfl (k1 M1 hR1)
def L159 : List (Nat × Instr × Nat × Nat) := [(0, .aload_n 0, 1, 0), (1, .getfield 45, 4, 0), (4, .iconst 0, 5, 0), (5, .iconst 0, 6, 0), (6, .invokevirtual 279, 9, 0), (9, .pop, 10, 0), (10, .aload_n 0, 11, 0), (11, .getfield 45, 14, 0), (14, .getfield 189, 17, 0), (17, .aload_n 0, 18, 0), (18, .getfield 23, 21, 0), (21, .getfield 186, 24, 0), (24, .iaload, 25, 0), (25, .ireturn, 26, 0)]
set_option maxRecDepth 100000 in
theorem L159_ok : L159.all (dck 159) = true := by decide +kernel
theorem d159 {j pc nx tg : Nat} {ins : Instr} (hj : L159[j]? = some (pc, ins, nx, tg)) : dcd 159 pc ins nx tg := dcl_ok L159_ok hj
set_option maxRecDepth 100000 in
set_option maxHeartbeats 4000000 in
theorem r159_0  {R1 : dsMem → Prop} {g1 : dsMem → Int} {M : dsMem} {Q : bQT} (hA1 : bCt 7 [uR 5 62, uI 0, uI 0, uX 0, uX 0] M (fun M1 => [uI (g1 M1)]) R1) (s1 : ∀ M1 : dsMem, R1 M1 → 0 ≤ (M1 24 1) ∧ (M1 24 1) < 13 := by intros; omega) (k1 : ∀ M1 : dsMem, R1 M1 → Q [uI (M1 69 (M1 24 1))] M1) :
    bB 159 0 [uR 10 0] [] M Q := by
  refine b_aload_n (d159 (j := 0) rfl) rfl ?_
  refine b_getR (d159 (j := 1) rfl) rfl rfl rfl rfl ?_
  refine b_stk [uR 5 62] rfl ?_
  refine b_iconst (d159 (j := 2) rfl) (by decide) ?_
  refine b_iconst (d159 (j := 3) rfl) (by decide) ?_
  refine b_callV (d159 (j := 4) rfl) rfl rfl (Or.inl rfl) rfl (bCk_mk (n := 0) (k := 3) (by decide +kernel) rfl rfl) ((hA1) _ (fun M1 hR1 => ?_))
  refine b_stk [uI (g1 M1)] rfl ?_
  refine b_pop (d159 (j := 5) rfl) rfl ?_
  refine b_aload_n (d159 (j := 6) rfl) rfl ?_
  refine b_getR (d159 (j := 7) rfl) rfl rfl rfl rfl ?_
  refine b_stk [uR 5 62] rfl ?_
  refine b_getR (d159 (j := 8) rfl) rfl rfl rfl rfl ?_
  refine b_stk [uR 27 69] rfl ?_
  refine b_aload_n (d159 (j := 9) rfl) rfl ?_
  refine b_getR (d159 (j := 10) rfl) rfl rfl rfl rfl ?_
  refine b_stk [uR 4 24, uR 27 69] rfl ?_
  refine b_getI (d159 (j := 11) rfl) rfl rfl rfl rfl (Or.inl rfl) ?_
  refine b_stk [uI (M1 24 1), uR 27 69] rfl ?_
  refine b_iaload (d159 (j := 12) rfl) rfl (s1 M1 hR1) ?_
  exact b_iret (d159 (j := 13) rfl) rfl (k1 M1 hR1)
def L160 : List (Nat × Instr × Nat × Nat) := [(0, .aload_n 0, 1, 0), (1, .invokevirtual 252, 4, 0), (4, .iload_n 1, 5, 0), (5, .putfield 409, 8, 0), (8, .aload_n 0, 9, 0), (9, .getfield 45, 12, 0), (12, .iconst 0, 13, 0), (13, .iconst 0, 14, 0), (14, .invokevirtual 279, 17, 0), (17, .pop, 18, 0), (18, .return_, 19, 0)]
set_option maxRecDepth 100000 in
theorem L160_ok : L160.all (dck 160) = true := by decide +kernel
theorem d160 {j pc nx tg : Nat} {ins : Instr} (hj : L160[j]? = some (pc, ins, nx, tg)) : dcd 160 pc ins nx tg := dcl_ok L160_ok hj
set_option maxRecDepth 100000 in
set_option maxHeartbeats 4000000 in
theorem r160_0 {x1 : Int} {R1 : dsMem → Prop} {R2 : dsMem → dsMem → Prop} {g2 : dsMem → dsMem → Int} {M : dsMem} {Q : bQT} (hA1 : bCt 158 [uR 10 0] M (fun _ => [uR 0 63]) R1) (hA2 : ∀ M1 : dsMem, R1 M1 → bCt 7 [uR 5 62, uI 0, uI 0, uX 0, uX 0] (dsSet M1 63 0 x1) (fun M2 => [uI (g2 M1 M2)]) (R2 M1)) (k1 : ∀ M1 : dsMem, R1 M1 → ∀ M2 : dsMem, R2 M1 M2 → Q [] M2) :
    bB 160 0 [uR 10 0, uI x1] [] M Q := by
  refine b_aload_n (d160 (j := 0) rfl) rfl ?_
  refine b_callV (d160 (j := 1) rfl) rfl rfl (Or.inl rfl) rfl (bCk_mk (n := 0) (k := 1) (by decide +kernel) rfl rfl) ((hA1) _ (fun M1 hR1 => ?_))
  refine b_stk [uR 0 63] rfl ?_
  refine b_iload_n (d160 (j := 2) rfl) rfl ?_
  refine b_putI (d160 (j := 3) rfl) rfl ⟨rfl, rfl⟩ rfl rfl ?_
  refine b_aload_n (d160 (j := 4) rfl) rfl ?_
  refine b_getR (d160 (j := 5) rfl) rfl rfl rfl rfl ?_
  refine b_stk [uR 5 62] rfl ?_
  refine b_iconst (d160 (j := 6) rfl) (by decide) ?_
  refine b_iconst (d160 (j := 7) rfl) (by decide) ?_
  refine b_callV (d160 (j := 8) rfl) rfl rfl (Or.inl rfl) rfl (bCk_mk (n := 0) (k := 3) (by decide +kernel) rfl rfl) ((hA2 M1 hR1) _ (fun M2 hR2 => ?_))
  refine b_stk [uI (g2 M1 M2)] rfl ?_
  refine b_pop (d160 (j := 9) rfl) rfl ?_
  exact b_vret (d160 (j := 10) rfl) rfl (k1 M1 hR1 M2 hR2)
def L161 : List (Nat × Instr × Nat × Nat) := [(0, .aload_n 1, 1, 0), (1, .getfield 189, 4, 0), (4, .iload_n 2, 5, 0), (5, .iaload, 6, 0), (6, .aload_n 0, 7, 0), (7, .getfield 23, 10, 0), (10, .invokevirtual 192, 13, 0), (13, .if_icmp .eq 5, 16, 18), (16, .iconst (-1), 17, 0), (17, .ireturn, 18, 0), (18, .aload_n 0, 19, 0), (19, .invokevirtual 252, 22, 0), (22, .pop, 23, 0), (23, .iconst (-1), 24, 0), (24, .istore_n 3, 25, 0), (25, .bipush 7, 27, 0), (27, .istore 4, 29, 0), (29, .iconst 0, 30, 0), (30, .istore 5, 32, 0), (32, .iload 5, 34, 0), (34, .aload_n 0, 35, 0), (35, .getfield 23, 38, 0), (38, .invokevirtual 307, 41, 0), (41, .if_icmp .gt 52, 44, 93), (44, .iload 5, 46, 0), (46, .invokestatic 247, 49, 0), (49, .iload 4, 51, 0), (51, .if_icmp .ge 36, 54, 87), (54, .aload_n 0, 55, 0), (55, .getfield 45, 58, 0), (58, .iload_n 2, 59, 0), (59, .aload_n 1, 60, 0), (60, .iload 5, 62, 0), (62, .invokevirtual 412, 65, 0), (65, .aload_n 0, 66, 0), (66, .getfield 45, 69, 0), (69, .iload_n 2, 70, 0), (70, .iconst 1, 71, 0), (71, .invokevirtual 279, 74, 0), (74, .ifCond .eq 13, 77, 87), (77, .iload 5, 79, 0), (79, .istore_n 3, 80, 0), (80, .iload 5, 82, 0), (82, .invokestatic 247, 85, 0), (85, .istore 4, 87, 0), (87, .iinc 5 1, 90, 0), (90, .goto (-58), 93, 32), (93, .iload_n 3, 94, 0), (94, .ireturn, 95, 0)]
set_option maxRecDepth 100000 in
theorem L161_ok : L161.all (dck 161) = true := by decide +kernel
theorem d161 {j pc nx tg : Nat} {ins : Instr} (hj : L161[j]? = some (pc, ins, nx, tg)) : dcd 161 pc ins nx tg := dcl_ok L161_ok hj
set_option maxRecDepth 100000 in
set_option maxHeartbeats 4000000 in
theorem r161_0 {x2 : Int} {R1 : dsMem → Prop} {M : dsMem} {Q : bQT} (s1 : 0 ≤ x2 ∧ x2 < 13 := by intros; omega) (s2 : -2147483648 ≤ ((dsShl 1 (M 24 4)) - 1) ∧ ((dsShl 1 (M 24 4)) - 1) < 2147483648 := by intros; omega) (hA1 : ((M 54 x2) = ((dsShl 1 (M 24 4)) - 1)) → bCt 158 [uR 10 0] M (fun _ => [uR 0 63]) R1) (k1 : ((M 54 x2) = ((dsShl 1 (M 24 4)) - 1)) → ∀ M1 : dsMem, R1 M1 → bB 161 32 [uR 10 0, uR 5 47, uI x2, uI (-1), uI 7, uI 0] [] M1 Q) (k2 : (¬ (M 54 x2) = ((dsShl 1 (M 24 4)) - 1)) → Q [uI (-1)] M) :
    bB 161 0 [uR 10 0, uR 5 47, uI x2, uX 0, uX 0, uX 0] [] M Q := by
  refine b_aload_n (d161 (j := 0) rfl) rfl ?_
  refine b_getR (d161 (j := 1) rfl) rfl rfl rfl rfl ?_
  refine b_stk [uR 27 54] rfl ?_
  refine b_iload_n (d161 (j := 2) rfl) rfl ?_
  refine b_iaload (d161 (j := 3) rfl) rfl s1 ?_
  refine b_aload_n (d161 (j := 4) rfl) rfl ?_
  refine b_getR (d161 (j := 5) rfl) rfl rfl rfl rfl ?_
  refine b_stk [uR 4 24, uI (M 54 x2)] rfl ?_
  refine b_callV (d161 (j := 6) rfl) rfl rfl (Or.inl rfl) rfl (bCk_mk (n := 1) (k := 1) (by decide +kernel) rfl rfl) (pu63 s2 ?_)
  refine b_stk [uI ((dsShl 1 (M 24 4)) - 1), uI (M 54 x2)] rfl ?_
  refine b_icmp_eq (d161 (j := 7) rfl) (fun c1 => ?_) (fun c1 => ?_)
  ·
    refine b_aload_n (d161 (j := 10) rfl) rfl ?_
    refine b_callV (d161 (j := 11) rfl) rfl rfl (Or.inl rfl) rfl (bCk_mk (n := 0) (k := 1) (by decide +kernel) rfl rfl) ((hA1 c1) _ (fun M1 hR1 => ?_))
    refine b_stk [uR 0 63] rfl ?_
    refine b_pop (d161 (j := 12) rfl) rfl ?_
    refine b_iconst (d161 (j := 13) rfl) (by decide) ?_
    refine b_istore_n [uR 10 0, uR 5 47, uI x2, uI (-1), uX 0, uX 0] (d161 (j := 14) rfl) (by decide) rfl ?_
    refine b_bipush (d161 (j := 15) rfl) (by decide) ?_
    refine b_istore [uR 10 0, uR 5 47, uI x2, uI (-1), uI 7, uX 0] (d161 (j := 16) rfl) (by decide) rfl ?_
    refine b_iconst (d161 (j := 17) rfl) (by decide) ?_
    refine b_istore [uR 10 0, uR 5 47, uI x2, uI (-1), uI 7, uI 0] (d161 (j := 18) rfl) (by decide) rfl ?_
    exact (k1 c1 M1 hR1)
  ·
    refine b_iconst (d161 (j := 8) rfl) (by decide) ?_
    exact b_iret (d161 (j := 9) rfl) rfl (k2 c1)
set_option maxRecDepth 100000 in
set_option maxHeartbeats 4000000 in
theorem r161_32 {x2 x3 x4 x5 : Int} {R1 : dsMem → Prop} {R2 : dsMem → dsMem → Prop} {g2 : dsMem → dsMem → Int} {M : dsMem} {Q : bQT} (s1 : -2147483648 ≤ ((dsShl 1 (M 24 5)) - 1) ∧ ((dsShl 1 (M 24 5)) - 1) < 2147483648 := by intros; omega) (k1 : (((dsShl 1 (M 24 5)) - 1) < x5) → Q [uI x3] M) (s2 : (¬ ((dsShl 1 (M 24 5)) - 1) < x5) → -2147483648 ≤ (x5 - (dsAnd (dsUsh x5 1) 1431655765)) ∧ (x5 - (dsAnd (dsUsh x5 1) 1431655765)) < 2147483648 := by intros; omega) (s3 : (¬ ((dsShl 1 (M 24 5)) - 1) < x5) → -2147483648 ≤ ((dsAnd (x5 - (dsAnd (dsUsh x5 1) 1431655765)) 858993459) + (dsAnd (dsUsh (x5 - (dsAnd (dsUsh x5 1) 1431655765)) 2) 858993459)) ∧ ((dsAnd (x5 - (dsAnd (dsUsh x5 1) 1431655765)) 858993459) + (dsAnd (dsUsh (x5 - (dsAnd (dsUsh x5 1) 1431655765)) 2) 858993459)) < 2147483648 := by intros; omega) (s4 : (¬ ((dsShl 1 (M 24 5)) - 1) < x5) → -2147483648 ≤ (((dsAnd (x5 - (dsAnd (dsUsh x5 1) 1431655765)) 858993459) + (dsAnd (dsUsh (x5 - (dsAnd (dsUsh x5 1) 1431655765)) 2) 858993459)) + (dsUsh ((dsAnd (x5 - (dsAnd (dsUsh x5 1) 1431655765)) 858993459) + (dsAnd (dsUsh (x5 - (dsAnd (dsUsh x5 1) 1431655765)) 2) 858993459)) 4)) ∧ (((dsAnd (x5 - (dsAnd (dsUsh x5 1) 1431655765)) 858993459) + (dsAnd (dsUsh (x5 - (dsAnd (dsUsh x5 1) 1431655765)) 2) 858993459)) + (dsUsh ((dsAnd (x5 - (dsAnd (dsUsh x5 1) 1431655765)) 858993459) + (dsAnd (dsUsh (x5 - (dsAnd (dsUsh x5 1) 1431655765)) 2) 858993459)) 4)) < 2147483648 := by intros; omega) (s5 : (¬ ((dsShl 1 (M 24 5)) - 1) < x5) → -2147483648 ≤ ((dsAnd (((dsAnd (x5 - (dsAnd (dsUsh x5 1) 1431655765)) 858993459) + (dsAnd (dsUsh (x5 - (dsAnd (dsUsh x5 1) 1431655765)) 2) 858993459)) + (dsUsh ((dsAnd (x5 - (dsAnd (dsUsh x5 1) 1431655765)) 858993459) + (dsAnd (dsUsh (x5 - (dsAnd (dsUsh x5 1) 1431655765)) 2) 858993459)) 4)) 252645135) + (dsUsh (dsAnd (((dsAnd (x5 - (dsAnd (dsUsh x5 1) 1431655765)) 858993459) + (dsAnd (dsUsh (x5 - (dsAnd (dsUsh x5 1) 1431655765)) 2) 858993459)) + (dsUsh ((dsAnd (x5 - (dsAnd (dsUsh x5 1) 1431655765)) 858993459) + (dsAnd (dsUsh (x5 - (dsAnd (dsUsh x5 1) 1431655765)) 2) 858993459)) 4)) 252645135) 8)) ∧ ((dsAnd (((dsAnd (x5 - (dsAnd (dsUsh x5 1) 1431655765)) 858993459) + (dsAnd (dsUsh (x5 - (dsAnd (dsUsh x5 1) 1431655765)) 2) 858993459)) + (dsUsh ((dsAnd (x5 - (dsAnd (dsUsh x5 1) 1431655765)) 858993459) + (dsAnd (dsUsh (x5 - (dsAnd (dsUsh x5 1) 1431655765)) 2) 858993459)) 4)) 252645135) + (dsUsh (dsAnd (((dsAnd (x5 - (dsAnd (dsUsh x5 1) 1431655765)) 858993459) + (dsAnd (dsUsh (x5 - (dsAnd (dsUsh x5 1) 1431655765)) 2) 858993459)) + (dsUsh ((dsAnd (x5 - (dsAnd (dsUsh x5 1) 1431655765)) 858993459) + (dsAnd (dsUsh (x5 - (dsAnd (dsUsh x5 1) 1431655765)) 2) 858993459)) 4)) 252645135) 8)) < 2147483648 := by intros; omega) (s6 : (¬ ((dsShl 1 (M 24 5)) - 1) < x5) → -2147483648 ≤ (((dsAnd (((dsAnd (x5 - (dsAnd (dsUsh x5 1) 1431655765)) 858993459) + (dsAnd (dsUsh (x5 - (dsAnd (dsUsh x5 1) 1431655765)) 2) 858993459)) + (dsUsh ((dsAnd (x5 - (dsAnd (dsUsh x5 1) 1431655765)) 858993459) + (dsAnd (dsUsh (x5 - (dsAnd (dsUsh x5 1) 1431655765)) 2) 858993459)) 4)) 252645135) + (dsUsh (dsAnd (((dsAnd (x5 - (dsAnd (dsUsh x5 1) 1431655765)) 858993459) + (dsAnd (dsUsh (x5 - (dsAnd (dsUsh x5 1) 1431655765)) 2) 858993459)) + (dsUsh ((dsAnd (x5 - (dsAnd (dsUsh x5 1) 1431655765)) 858993459) + (dsAnd (dsUsh (x5 - (dsAnd (dsUsh x5 1) 1431655765)) 2) 858993459)) 4)) 252645135) 8)) + (dsUsh ((dsAnd (((dsAnd (x5 - (dsAnd (dsUsh x5 1) 1431655765)) 858993459) + (dsAnd (dsUsh (x5 - (dsAnd (dsUsh x5 1) 1431655765)) 2) 858993459)) + (dsUsh ((dsAnd (x5 - (dsAnd (dsUsh x5 1) 1431655765)) 858993459) + (dsAnd (dsUsh (x5 - (dsAnd (dsUsh x5 1) 1431655765)) 2) 858993459)) 4)) 252645135) + (dsUsh (dsAnd (((dsAnd (x5 - (dsAnd (dsUsh x5 1) 1431655765)) 858993459) + (dsAnd (dsUsh (x5 - (dsAnd (dsUsh x5 1) 1431655765)) 2) 858993459)) + (dsUsh ((dsAnd (x5 - (dsAnd (dsUsh x5 1) 1431655765)) 858993459) + (dsAnd (dsUsh (x5 - (dsAnd (dsUsh x5 1) 1431655765)) 2) 858993459)) 4)) 252645135) 8)) 16)) ∧ (((dsAnd (((dsAnd (x5 - (dsAnd (dsUsh x5 1) 1431655765)) 858993459) + (dsAnd (dsUsh (x5 - (dsAnd (dsUsh x5 1) 1431655765)) 2) 858993459)) + (dsUsh ((dsAnd (x5 - (dsAnd (dsUsh x5 1) 1431655765)) 858993459) + (dsAnd (dsUsh (x5 - (dsAnd (dsUsh x5 1) 1431655765)) 2) 858993459)) 4)) 252645135) + (dsUsh (dsAnd (((dsAnd (x5 - (dsAnd (dsUsh x5 1) 1431655765)) 858993459) + (dsAnd (dsUsh (x5 - (dsAnd (dsUsh x5 1) 1431655765)) 2) 858993459)) + (dsUsh ((dsAnd (x5 - (dsAnd (dsUsh x5 1) 1431655765)) 858993459) + (dsAnd (dsUsh (x5 - (dsAnd (dsUsh x5 1) 1431655765)) 2) 858993459)) 4)) 252645135) 8)) + (dsUsh ((dsAnd (((dsAnd (x5 - (dsAnd (dsUsh x5 1) 1431655765)) 858993459) + (dsAnd (dsUsh (x5 - (dsAnd (dsUsh x5 1) 1431655765)) 2) 858993459)) + (dsUsh ((dsAnd (x5 - (dsAnd (dsUsh x5 1) 1431655765)) 858993459) + (dsAnd (dsUsh (x5 - (dsAnd (dsUsh x5 1) 1431655765)) 2) 858993459)) 4)) 252645135) + (dsUsh (dsAnd (((dsAnd (x5 - (dsAnd (dsUsh x5 1) 1431655765)) 858993459) + (dsAnd (dsUsh (x5 - (dsAnd (dsUsh x5 1) 1431655765)) 2) 858993459)) + (dsUsh ((dsAnd (x5 - (dsAnd (dsUsh x5 1) 1431655765)) 858993459) + (dsAnd (dsUsh (x5 - (dsAnd (dsUsh x5 1) 1431655765)) 2) 858993459)) 4)) 252645135) 8)) 16)) < 2147483648 := by intros; omega) (s7 : (¬ ((dsShl 1 (M 24 5)) - 1) < x5) → (x4 ≤ (v333 M x5)) → -2147483648 ≤ x5 + 1 ∧ x5 + 1 < 2147483648 := by intros; omega) (k2 : (¬ ((dsShl 1 (M 24 5)) - 1) < x5) → (x4 ≤ (v333 M x5)) → bB 161 32 [uR 10 0, uR 5 47, uI x2, uI x3, uI x4, uI (x5 + 1)] [] M Q) (hA1 : (¬ ((dsShl 1 (M 24 5)) - 1) < x5) → (¬ x4 ≤ (v333 M x5)) → bCt 10 [uR 5 62, uI x2, uR 5 47, uI x5, uX 0] M (fun _ => []) R1) (hA2 : (¬ ((dsShl 1 (M 24 5)) - 1) < x5) → (¬ x4 ≤ (v333 M x5)) → ∀ M1 : dsMem, R1 M1 → bCt 7 [uR 5 62, uI x2, uI 1, uX 0, uX 0] M1 (fun M2 => [uI (g2 M1 M2)]) (R2 M1)) (s8 : (¬ ((dsShl 1 (M 24 5)) - 1) < x5) → (¬ x4 ≤ (v333 M x5)) → ∀ M1 : dsMem, R1 M1 → ∀ M2 : dsMem, R2 M1 M2 → ((g2 M1 M2) = 0) → -2147483648 ≤ x5 + 1 ∧ x5 + 1 < 2147483648 := by intros; omega) (k3 : (¬ ((dsShl 1 (M 24 5)) - 1) < x5) → (¬ x4 ≤ (v333 M x5)) → ∀ M1 : dsMem, R1 M1 → ∀ M2 : dsMem, R2 M1 M2 → ((g2 M1 M2) = 0) → bB 161 32 [uR 10 0, uR 5 47, uI x2, uI x3, uI x4, uI (x5 + 1)] [] M2 Q) (s9 : (¬ ((dsShl 1 (M 24 5)) - 1) < x5) → (¬ x4 ≤ (v333 M x5)) → ∀ M1 : dsMem, R1 M1 → ∀ M2 : dsMem, R2 M1 M2 → (¬ (g2 M1 M2) = 0) → -2147483648 ≤ x5 + 1 ∧ x5 + 1 < 2147483648 := by intros; omega) (k4 : (¬ ((dsShl 1 (M 24 5)) - 1) < x5) → (¬ x4 ≤ (v333 M x5)) → ∀ M1 : dsMem, R1 M1 → ∀ M2 : dsMem, R2 M1 M2 → (¬ (g2 M1 M2) = 0) → bB 161 32 [uR 10 0, uR 5 47, uI x2, uI x5, uI (v333 M2 x5), uI (x5 + 1)] [] M2 Q) :
    bB 161 32 [uR 10 0, uR 5 47, uI x2, uI x3, uI x4, uI x5] [] M Q := by
  refine b_iload (d161 (j := 19) rfl) rfl ?_
  refine b_aload_n (d161 (j := 20) rfl) rfl ?_
  refine b_getR (d161 (j := 21) rfl) rfl rfl rfl rfl ?_
  refine b_stk [uR 4 24, uI x5] rfl ?_
  refine b_callV (d161 (j := 22) rfl) rfl rfl (Or.inl rfl) rfl (bCk_mk (n := 1) (k := 1) (by decide +kernel) rfl rfl) (pu64 s1 ?_)
  refine b_stk [uI ((dsShl 1 (M 24 5)) - 1), uI x5] rfl ?_
  refine b_icmp_gt (d161 (j := 23) rfl) (fun c1 => ?_) (fun c1 => ?_)
  ·
    refine b_iload_n (d161 (j := 47) rfl) rfl ?_
    exact b_iret (d161 (j := 48) rfl) rfl (k1 c1)
  ·
    refine b_iload (d161 (j := 24) rfl) rfl ?_
    refine b_callS (d161 (j := 25) rfl) (Or.inl rfl) rfl (bCk_mk (n := 0) (k := 1) (by decide +kernel) rfl rfl) (fx333 (s2 c1) (s3 c1) (s4 c1) (s5 c1) (s6 c1) ?_)
    refine b_stk [uI (v333 M x5)] rfl ?_
    refine b_iload (d161 (j := 26) rfl) rfl ?_
    refine b_icmp_ge (d161 (j := 27) rfl) (fun c2 => ?_) (fun c2 => ?_)
    ·
      refine b_iinc [uR 10 0, uR 5 47, uI x2, uI x3, uI x4, uI (x5 + 1)] (d161 (j := 45) rfl) rfl (by decide) (s7 c1 c2) rfl ?_
      refine b_goto (d161 (j := 46) rfl) ?_
      exact (k2 c1 c2)
    ·
      refine b_aload_n (d161 (j := 28) rfl) rfl ?_
      refine b_getR (d161 (j := 29) rfl) rfl rfl rfl rfl ?_
      refine b_stk [uR 5 62] rfl ?_
      refine b_iload_n (d161 (j := 30) rfl) rfl ?_
      refine b_aload_n (d161 (j := 31) rfl) rfl ?_
      refine b_iload (d161 (j := 32) rfl) rfl ?_
      refine b_callV (d161 (j := 33) rfl) rfl rfl (Or.inl rfl) rfl (bCk_mk (n := 0) (k := 4) (by decide +kernel) rfl rfl) ((hA1 c1 c2) _ (fun M1 hR1 => ?_))
      refine b_stk [] rfl ?_
      refine b_aload_n (d161 (j := 34) rfl) rfl ?_
      refine b_getR (d161 (j := 35) rfl) rfl rfl rfl rfl ?_
      refine b_stk [uR 5 62] rfl ?_
      refine b_iload_n (d161 (j := 36) rfl) rfl ?_
      refine b_iconst (d161 (j := 37) rfl) (by decide) ?_
      refine b_callV (d161 (j := 38) rfl) rfl rfl (Or.inl rfl) rfl (bCk_mk (n := 0) (k := 3) (by decide +kernel) rfl rfl) ((hA2 c1 c2 M1 hR1) _ (fun M2 hR2 => ?_))
      refine b_stk [uI (g2 M1 M2)] rfl ?_
      refine b_if_eq (d161 (j := 39) rfl) (fun c3 => ?_) (fun c3 => ?_)
      ·
        refine b_iinc [uR 10 0, uR 5 47, uI x2, uI x3, uI x4, uI (x5 + 1)] (d161 (j := 45) rfl) rfl (by decide) (s8 c1 c2 M1 hR1 M2 hR2 c3) rfl ?_
        refine b_goto (d161 (j := 46) rfl) ?_
        exact (k3 c1 c2 M1 hR1 M2 hR2 c3)
      ·
        refine b_iload (d161 (j := 40) rfl) rfl ?_
        refine b_istore_n [uR 10 0, uR 5 47, uI x2, uI x5, uI x4, uI x5] (d161 (j := 41) rfl) (by decide) rfl ?_
        refine b_iload (d161 (j := 42) rfl) rfl ?_
        refine b_callS (d161 (j := 43) rfl) (Or.inl rfl) rfl (bCk_mk (n := 0) (k := 1) (by decide +kernel) rfl rfl) (fx333 (s2 c1) (s3 c1) (s4 c1) (s5 c1) (s6 c1) ?_)
        refine b_stk [uI (v333 M2 x5)] rfl ?_
        refine b_istore [uR 10 0, uR 5 47, uI x2, uI x5, uI (v333 M2 x5), uI x5] (d161 (j := 44) rfl) (by decide) rfl ?_
        refine b_iinc [uR 10 0, uR 5 47, uI x2, uI x5, uI (v333 M2 x5), uI (x5 + 1)] (d161 (j := 45) rfl) rfl (by decide) (s9 c1 c2 M1 hR1 M2 hR2 c3) rfl ?_
        refine b_goto (d161 (j := 46) rfl) ?_
        exact (k4 c1 c2 M1 hR1 M2 hR2 c3)
def L162 : List (Nat × Instr × Nat × Nat) := [(0, .aload_n 0, 1, 0), (1, .invokevirtual 252, 4, 0), (4, .iload_n 1, 5, 0), (5, .putfield 416, 8, 0), (8, .aload_n 0, 9, 0), (9, .getfield 45, 12, 0), (12, .iconst 0, 13, 0), (13, .iconst 0, 14, 0), (14, .invokevirtual 279, 17, 0), (17, .pop, 18, 0), (18, .aload_n 0, 19, 0), (19, .getfield 45, 22, 0), (22, .aload_n 0, 23, 0), (23, .getfield 23, 26, 0), (26, .getfield 186, 29, 0), (29, .invokevirtual 183, 32, 0), (32, .ireturn, 33, 0)]
set_option maxRecDepth 100000 in
theorem L162_ok : L162.all (dck 162) = true := by decide +kernel
theorem d162 {j pc nx tg : Nat} {ins : Instr} (hj : L162[j]? = some (pc, ins, nx, tg)) : dcd 162 pc ins nx tg := dcl_ok L162_ok hj
set_option maxRecDepth 100000 in
set_option maxHeartbeats 4000000 in
theorem r162_0 {x1 : Int} {R1 : dsMem → Prop} {R2 : dsMem → dsMem → Prop} {g2 : dsMem → dsMem → Int} {M : dsMem} {Q : bQT} (hA1 : bCt 158 [uR 10 0] M (fun _ => [uR 0 63]) R1) (hA2 : ∀ M1 : dsMem, R1 M1 → bCt 7 [uR 5 62, uI 0, uI 0, uX 0, uX 0] (dsSet M1 63 4 x1) (fun M2 => [uI (g2 M1 M2)]) (R2 M1)) (s1 : ∀ M1 : dsMem, R1 M1 → ∀ M2 : dsMem, R2 M1 M2 → ∀ i24_1 : Int, ∀ a24_1 : Int, 0 ≤ i24_1 → i24_1 < (M2 24 5) → -2147483648 ≤ (((M2 24 1) * 6) + i24_1) ∧ (((M2 24 1) * 6) + i24_1) < 2147483648 := by intros; omega) (s2 : ∀ M1 : dsMem, R1 M1 → ∀ M2 : dsMem, R2 M1 M2 → ∀ i24_1 : Int, ∀ a24_1 : Int, 0 ≤ i24_1 → i24_1 < (M2 24 5) → 0 ≤ (((M2 24 1) * 6) + i24_1) ∧ (((M2 24 1) * 6) + i24_1) < 78 := by intros; omega) (s3 : ∀ M1 : dsMem, R1 M1 → ∀ M2 : dsMem, R2 M1 M2 → ∀ i24_1 : Int, ∀ a24_1 : Int, 0 ≤ i24_1 → i24_1 < (M2 24 5) → -2147483648 ≤ i24_1 + 1 ∧ i24_1 + 1 < 2147483648 := by intros; omega) (k1 : ∀ M1 : dsMem, R1 M1 → ∀ M2 : dsMem, R2 M1 M2 → Q [uI (v24 M2 62 (M2 24 1))] M2) :
    bB 162 0 [uR 10 0, uI x1] [] M Q := by
  refine b_aload_n (d162 (j := 0) rfl) rfl ?_
  refine b_callV (d162 (j := 1) rfl) rfl rfl (Or.inl rfl) rfl (bCk_mk (n := 0) (k := 1) (by decide +kernel) rfl rfl) ((hA1) _ (fun M1 hR1 => ?_))
  refine b_stk [uR 0 63] rfl ?_
  refine b_iload_n (d162 (j := 2) rfl) rfl ?_
  refine b_putI (d162 (j := 3) rfl) rfl ⟨rfl, rfl⟩ rfl rfl ?_
  refine b_aload_n (d162 (j := 4) rfl) rfl ?_
  refine b_getR (d162 (j := 5) rfl) rfl rfl rfl rfl ?_
  refine b_stk [uR 5 62] rfl ?_
  refine b_iconst (d162 (j := 6) rfl) (by decide) ?_
  refine b_iconst (d162 (j := 7) rfl) (by decide) ?_
  refine b_callV (d162 (j := 8) rfl) rfl rfl (Or.inl rfl) rfl (bCk_mk (n := 0) (k := 3) (by decide +kernel) rfl rfl) ((hA2 M1 hR1) _ (fun M2 hR2 => ?_))
  refine b_stk [uI (g2 M1 M2)] rfl ?_
  refine b_pop (d162 (j := 9) rfl) rfl ?_
  refine b_aload_n (d162 (j := 10) rfl) rfl ?_
  refine b_getR (d162 (j := 11) rfl) rfl rfl rfl rfl ?_
  refine b_stk [uR 5 62] rfl ?_
  refine b_aload_n (d162 (j := 12) rfl) rfl ?_
  refine b_getR (d162 (j := 13) rfl) rfl rfl rfl rfl ?_
  refine b_stk [uR 4 24, uR 5 62] rfl ?_
  refine b_getI (d162 (j := 14) rfl) rfl rfl rfl rfl (Or.inl rfl) ?_
  refine b_stk [uI (M2 24 1), uR 5 62] rfl ?_
  refine b_callV (d162 (j := 15) rfl) rfl rfl (Or.inl rfl) rfl (bCk_mk (n := 0) (k := 2) (by decide +kernel) rfl rfl) (fx24 (s1 M1 hR1 M2 hR2) (s2 M1 hR1 M2 hR2) (s3 M1 hR1 M2 hR2) ?_)
  refine b_stk [uI (v24 M2 62 (M2 24 1))] rfl ?_
  exact b_iret (d162 (j := 16) rfl) rfl (k1 M1 hR1 M2 hR2)
def L163 : List (Nat × Instr × Nat × Nat) := [(0, .aload_n 0, 1, 0), (1, .getfield 70, 4, 0), (4, .ifCond .eq 4, 7, 8), (7, .return_, 8, 0), (8, .iconst 0, 9, 0), (9, .istore_n 1, 10, 0), (10, .iload_n 1, 11, 0), (11, .aload_n 0, 12, 0), (12, .getfield 23, 15, 0), (15, .invokevirtual 307, 18, 0), (18, .if_icmp .gt 20, 21, 38), (21, .aload_n 0, 22, 0), (22, .getfield 62, 25, 0), (25, .iload_n 1, 26, 0), (26, .aload_n 0, 27, 0), (27, .iload_n 1, 28, 0), (28, .invokevirtual 310, 31, 0), (31, .iastore, 32, 0), (32, .iinc 1 1, 35, 0), (35, .goto (-25), 38, 10), (38, .aload_n 0, 39, 0), (39, .iconst 1, 40, 0), (40, .putfield 70, 43, 0), (43, .return_, 44, 0)]
set_option maxRecDepth 100000 in
theorem L163_ok : L163.all (dck 163) = true := by decide +kernel
theorem d163 {j pc nx tg : Nat} {ins : Instr} (hj : L163[j]? = some (pc, ins, nx, tg)) : dcd 163 pc ins nx tg := dcl_ok L163_ok hj
set_option maxRecDepth 100000 in
set_option maxHeartbeats 4000000 in
theorem r163_0   {M : dsMem} {Q : bQT} (k1 : ((M 0 11) = 0) → bB 163 10 [uR 10 0, uI 0] [] M Q) (k2 : (¬ (M 0 11) = 0) → Q [] M) :
    bB 163 0 [uR 10 0, uX 0] [] M Q := by
  refine b_aload_n (d163 (j := 0) rfl) rfl ?_
  refine b_getI (d163 (j := 1) rfl) rfl rfl rfl rfl (Or.inr rfl) ?_
  refine b_stk [uI (M 0 11)] rfl ?_
  refine b_if_eq (d163 (j := 2) rfl) (fun c1 => ?_) (fun c1 => ?_)
  ·
    refine b_iconst (d163 (j := 4) rfl) (by decide) ?_
    refine b_istore_n [uR 10 0, uI 0] (d163 (j := 5) rfl) (by decide) rfl ?_
    exact (k1 c1)
  ·
    exact b_vret (d163 (j := 3) rfl) rfl (k2 c1)
set_option maxRecDepth 100000 in
set_option maxHeartbeats 4000000 in
theorem r163_10 {x1 : Int} {R1 : dsMem → Prop} {g1 : dsMem → Int} {M : dsMem} {Q : bQT} (s1 : -2147483648 ≤ ((dsShl 1 (M 24 5)) - 1) ∧ ((dsShl 1 (M 24 5)) - 1) < 2147483648 := by intros; omega) (k1 : (((dsShl 1 (M 24 5)) - 1) < x1) → Q [] (dsSet M 0 11 1)) (hA1 : (¬ ((dsShl 1 (M 24 5)) - 1) < x1) → bCt 162 [uR 10 0, uI x1] M (fun M1 => [uI (g1 M1)]) R1) (s2 : (¬ ((dsShl 1 (M 24 5)) - 1) < x1) → ∀ M1 : dsMem, R1 M1 → 0 ≤ x1 ∧ x1 < 64 := by intros; omega) (s3 : (¬ ((dsShl 1 (M 24 5)) - 1) < x1) → ∀ M1 : dsMem, R1 M1 → -2147483648 ≤ x1 + 1 ∧ x1 + 1 < 2147483648 := by intros; omega) (k2 : (¬ ((dsShl 1 (M 24 5)) - 1) < x1) → ∀ M1 : dsMem, R1 M1 → bB 163 10 [uR 10 0, uI (x1 + 1)] [] (dsSet M1 83 x1 (g1 M1)) Q) :
    bB 163 10 [uR 10 0, uI x1] [] M Q := by
  refine b_iload_n (d163 (j := 6) rfl) rfl ?_
  refine b_aload_n (d163 (j := 7) rfl) rfl ?_
  refine b_getR (d163 (j := 8) rfl) rfl rfl rfl rfl ?_
  refine b_stk [uR 4 24, uI x1] rfl ?_
  refine b_callV (d163 (j := 9) rfl) rfl rfl (Or.inl rfl) rfl (bCk_mk (n := 1) (k := 1) (by decide +kernel) rfl rfl) (pu64 s1 ?_)
  refine b_stk [uI ((dsShl 1 (M 24 5)) - 1), uI x1] rfl ?_
  refine b_icmp_gt (d163 (j := 10) rfl) (fun c1 => ?_) (fun c1 => ?_)
  ·
    refine b_aload_n (d163 (j := 20) rfl) rfl ?_
    refine b_iconst (d163 (j := 21) rfl) (by decide) ?_
    refine b_putZ (d163 (j := 22) rfl) rfl ⟨rfl, rfl⟩ rfl rfl (by decide) ?_
    exact b_vret (d163 (j := 23) rfl) rfl (k1 c1)
  ·
    refine b_aload_n (d163 (j := 11) rfl) rfl ?_
    refine b_getR (d163 (j := 12) rfl) rfl rfl rfl rfl ?_
    refine b_stk [uR 37 83] rfl ?_
    refine b_iload_n (d163 (j := 13) rfl) rfl ?_
    refine b_aload_n (d163 (j := 14) rfl) rfl ?_
    refine b_iload_n (d163 (j := 15) rfl) rfl ?_
    refine b_callV (d163 (j := 16) rfl) rfl rfl (Or.inl rfl) rfl (bCk_mk (n := 2) (k := 2) (by decide +kernel) rfl rfl) ((hA1 c1) _ (fun M1 hR1 => ?_))
    refine b_stk [uI (g1 M1), uI x1, uR 37 83] rfl ?_
    refine b_iastore (d163 (j := 17) rfl) rfl (s2 c1 M1 hR1) ?_
    refine b_iinc [uR 10 0, uI (x1 + 1)] (d163 (j := 18) rfl) rfl (by decide) (s3 c1 M1 hR1) rfl ?_
    refine b_goto (d163 (j := 19) rfl) ?_
    exact (k2 c1 M1 hR1)
def L164 : List (Nat × Instr × Nat × Nat) := [(0, .aload_n 0, 1, 0), (1, .invokevirtual 252, 4, 0), (4, .iload_n 3, 5, 0), (5, .iload_n 1, 6, 0), (6, .ishl, 7, 0), (7, .iload 4, 9, 0), (9, .iload_n 2, 10, 0), (10, .ishl, 11, 0), (11, .ior, 12, 0), (12, .putfield 276, 15, 0), (15, .aload_n 0, 16, 0), (16, .getfield 45, 19, 0), (19, .iconst 0, 20, 0), (20, .iconst 0, 21, 0), (21, .invokevirtual 279, 24, 0), (24, .pop, 25, 0), (25, .aload_n 0, 26, 0), (26, .getfield 23, 29, 0), (29, .getfield 186, 32, 0), (32, .istore 5, 34, 0), (34, .aload_n 0, 35, 0), (35, .getfield 45, 38, 0), (38, .getfield 189, 41, 0), (41, .iload 5, 43, 0), (43, .iaload, 44, 0), (44, .aload_n 0, 45, 0), (45, .getfield 23, 48, 0), (48, .getfield 123, 51, 0), (51, .iload_n 1, 52, 0), (52, .iaload, 53, 0), (53, .invokestatic 219, 56, 0), (56, .ifCond .ne 7, 59, 63), (59, .iconst 1, 60, 0), (60, .goto 4, 63, 64), (63, .iconst 0, 64, 0), (64, .istore 6, 66, 0), (66, .aload_n 0, 67, 0), (67, .getfield 45, 70, 0), (70, .getfield 153, 73, 0), (73, .iload_n 1, 74, 0), (74, .iload 5, 76, 0), (76, .invokestatic 156, 79, 0), (79, .iaload, 80, 0), (80, .iload_n 3, 81, 0), (81, .bipush 7, 83, 0), (83, .imul, 84, 0), (84, .iadd, 85, 0), (85, .iload 6, 87, 0), (87, .ifCond .eq 8, 90, 95), (90, .bipush 10, 92, 0), (92, .goto 4, 95, 96), (95, .iconst 0, 96, 0), (96, .isub, 97, 0), (97, .ireturn, 98, 0)]
set_option maxRecDepth 100000 in
theorem L164_ok : L164.all (dck 164) = true := by decide +kernel
theorem d164 {j pc nx tg : Nat} {ins : Instr} (hj : L164[j]? = some (pc, ins, nx, tg)) : dcd 164 pc ins nx tg := dcl_ok L164_ok hj
set_option maxRecDepth 100000 in
set_option maxHeartbeats 4000000 in
theorem r164_0 {x1 x2 x3 x4 : Int} {R1 : dsMem → Prop} {R2 : dsMem → dsMem → Prop} {g2 : dsMem → dsMem → Int} {M : dsMem} {Q : bQT} (hA1 : bCt 158 [uR 10 0] M (fun _ => [uR 0 63]) R1) (hA2 : ∀ M1 : dsMem, R1 M1 → bCt 7 [uR 5 62, uI 0, uI 0, uX 0, uX 0] (dsSet M1 63 3 (dsOr (dsShl x3 x1) (dsShl x4 x2))) (fun M2 => [uI (g2 M1 M2)]) (R2 M1)) (s1 : ∀ M1 : dsMem, R1 M1 → ∀ M2 : dsMem, R2 M1 M2 → 0 ≤ (M2 24 1) ∧ (M2 24 1) < 13 := by intros; omega) (s2 : ∀ M1 : dsMem, R1 M1 → ∀ M2 : dsMem, R2 M1 M2 → 0 ≤ x1 ∧ x1 < 6 := by intros; omega) (s3 : ∀ M1 : dsMem, R1 M1 → ∀ M2 : dsMem, R2 M1 M2 → ((dsAnd (dsShr (M2 69 (M2 24 1)) (M2 29 x1)) 1 = 1)) → -2147483648 ≤ (((M2 24 1) * 6) + x1) ∧ (((M2 24 1) * 6) + x1) < 2147483648 := by intros; omega) (s4 : ∀ M1 : dsMem, R1 M1 → ∀ M2 : dsMem, R2 M1 M2 → ((dsAnd (dsShr (M2 69 (M2 24 1)) (M2 29 x1)) 1 = 1)) → 0 ≤ (((M2 24 1) * 6) + x1) ∧ (((M2 24 1) * 6) + x1) < 78 := by intros; omega) (s5 : ∀ M1 : dsMem, R1 M1 → ∀ M2 : dsMem, R2 M1 M2 → ((dsAnd (dsShr (M2 69 (M2 24 1)) (M2 29 x1)) 1 = 1)) → -2147483648 ≤ (((M2 67 (((M2 24 1) * 6) + x1)) + (x3 * 7)) - 0) ∧ (((M2 67 (((M2 24 1) * 6) + x1)) + (x3 * 7)) - 0) < 2147483648 := by intros; omega) (k1 : ∀ M1 : dsMem, R1 M1 → ∀ M2 : dsMem, R2 M1 M2 → ((dsAnd (dsShr (M2 69 (M2 24 1)) (M2 29 x1)) 1 = 1)) → Q [uI (((M2 67 (((M2 24 1) * 6) + x1)) + (x3 * 7)) - 0)] M2) (s6 : ∀ M1 : dsMem, R1 M1 → ∀ M2 : dsMem, R2 M1 M2 → (¬ (dsAnd (dsShr (M2 69 (M2 24 1)) (M2 29 x1)) 1 = 1)) → -2147483648 ≤ (((M2 24 1) * 6) + x1) ∧ (((M2 24 1) * 6) + x1) < 2147483648 := by intros; omega) (s7 : ∀ M1 : dsMem, R1 M1 → ∀ M2 : dsMem, R2 M1 M2 → (¬ (dsAnd (dsShr (M2 69 (M2 24 1)) (M2 29 x1)) 1 = 1)) → 0 ≤ (((M2 24 1) * 6) + x1) ∧ (((M2 24 1) * 6) + x1) < 78 := by intros; omega) (s8 : ∀ M1 : dsMem, R1 M1 → ∀ M2 : dsMem, R2 M1 M2 → (¬ (dsAnd (dsShr (M2 69 (M2 24 1)) (M2 29 x1)) 1 = 1)) → -2147483648 ≤ (((M2 67 (((M2 24 1) * 6) + x1)) + (x3 * 7)) - 10) ∧ (((M2 67 (((M2 24 1) * 6) + x1)) + (x3 * 7)) - 10) < 2147483648 := by intros; omega) (k2 : ∀ M1 : dsMem, R1 M1 → ∀ M2 : dsMem, R2 M1 M2 → (¬ (dsAnd (dsShr (M2 69 (M2 24 1)) (M2 29 x1)) 1 = 1)) → Q [uI (((M2 67 (((M2 24 1) * 6) + x1)) + (x3 * 7)) - 10)] M2) :
    bB 164 0 [uR 10 0, uI x1, uI x2, uI x3, uI x4, uX 0, uX 0] [] M Q := by
  refine b_aload_n (d164 (j := 0) rfl) rfl ?_
  refine b_callV (d164 (j := 1) rfl) rfl rfl (Or.inl rfl) rfl (bCk_mk (n := 0) (k := 1) (by decide +kernel) rfl rfl) ((hA1) _ (fun M1 hR1 => ?_))
  refine b_stk [uR 0 63] rfl ?_
  refine b_iload_n (d164 (j := 2) rfl) rfl ?_
  refine b_iload_n (d164 (j := 3) rfl) rfl ?_
  refine b_ishl (d164 (j := 4) rfl) ?_
  refine b_iload (d164 (j := 5) rfl) rfl ?_
  refine b_iload_n (d164 (j := 6) rfl) rfl ?_
  refine b_ishl (d164 (j := 7) rfl) ?_
  refine b_ior (d164 (j := 8) rfl) ?_
  refine b_putI (d164 (j := 9) rfl) rfl ⟨rfl, rfl⟩ rfl rfl ?_
  refine b_aload_n (d164 (j := 10) rfl) rfl ?_
  refine b_getR (d164 (j := 11) rfl) rfl rfl rfl rfl ?_
  refine b_stk [uR 5 62] rfl ?_
  refine b_iconst (d164 (j := 12) rfl) (by decide) ?_
  refine b_iconst (d164 (j := 13) rfl) (by decide) ?_
  refine b_callV (d164 (j := 14) rfl) rfl rfl (Or.inl rfl) rfl (bCk_mk (n := 0) (k := 3) (by decide +kernel) rfl rfl) ((hA2 M1 hR1) _ (fun M2 hR2 => ?_))
  refine b_stk [uI (g2 M1 M2)] rfl ?_
  refine b_pop (d164 (j := 15) rfl) rfl ?_
  refine b_aload_n (d164 (j := 16) rfl) rfl ?_
  refine b_getR (d164 (j := 17) rfl) rfl rfl rfl rfl ?_
  refine b_stk [uR 4 24] rfl ?_
  refine b_getI (d164 (j := 18) rfl) rfl rfl rfl rfl (Or.inl rfl) ?_
  refine b_stk [uI (M2 24 1)] rfl ?_
  refine b_istore [uR 10 0, uI x1, uI x2, uI x3, uI x4, uI (M2 24 1), uX 0] (d164 (j := 19) rfl) (by decide) rfl ?_
  refine b_aload_n (d164 (j := 20) rfl) rfl ?_
  refine b_getR (d164 (j := 21) rfl) rfl rfl rfl rfl ?_
  refine b_stk [uR 5 62] rfl ?_
  refine b_getR (d164 (j := 22) rfl) rfl rfl rfl rfl ?_
  refine b_stk [uR 27 69] rfl ?_
  refine b_iload (d164 (j := 23) rfl) rfl ?_
  refine b_iaload (d164 (j := 24) rfl) rfl (s1 M1 hR1 M2 hR2) ?_
  refine b_aload_n (d164 (j := 25) rfl) rfl ?_
  refine b_getR (d164 (j := 26) rfl) rfl rfl rfl rfl ?_
  refine b_stk [uR 4 24, uI (M2 69 (M2 24 1))] rfl ?_
  refine b_getR (d164 (j := 27) rfl) rfl rfl rfl rfl ?_
  refine b_stk [uR 21 29, uI (M2 69 (M2 24 1))] rfl ?_
  refine b_iload_n (d164 (j := 28) rfl) rfl ?_
  refine b_iaload (d164 (j := 29) rfl) rfl (s2 M1 hR1 M2 hR2) ?_
  refine b_callS (d164 (j := 30) rfl) (Or.inl rfl) rfl (bCk_mk (n := 0) (k := 2) (by decide +kernel) rfl rfl) (pu145 ?_)
  refine b_stk [uI (if (dsAnd (dsShr (M2 69 (M2 24 1)) (M2 29 x1)) 1 = 1) then 1 else 0)] rfl ?_
  refine b_ifneP (d164 (j := 31) rfl) (fun c1 => ?_) (fun c1 => ?_)
  ·
    refine b_iconst (d164 (j := 34) rfl) (by decide) ?_
    refine b_istore [uR 10 0, uI x1, uI x2, uI x3, uI x4, uI (M2 24 1), uI 0] (d164 (j := 35) rfl) (by decide) rfl ?_
    refine b_aload_n (d164 (j := 36) rfl) rfl ?_
    refine b_getR (d164 (j := 37) rfl) rfl rfl rfl rfl ?_
    refine b_stk [uR 5 62] rfl ?_
    refine b_getR (d164 (j := 38) rfl) rfl rfl rfl rfl ?_
    refine b_stk [uR 25 67] rfl ?_
    refine b_iload_n (d164 (j := 39) rfl) rfl ?_
    refine b_iload (d164 (j := 40) rfl) rfl ?_
    refine b_callS (d164 (j := 41) rfl) (Or.inl rfl) rfl (bCk_mk (n := 1) (k := 2) (by decide +kernel) rfl rfl) (pu146 (s3 M1 hR1 M2 hR2 c1) ?_)
    refine b_stk [uI (((M2 24 1) * 6) + x1), uR 25 67] rfl ?_
    refine b_iaload (d164 (j := 42) rfl) rfl (s4 M1 hR1 M2 hR2 c1) ?_
    refine b_iload_n (d164 (j := 43) rfl) rfl ?_
    refine b_bipush (d164 (j := 44) rfl) (by decide) ?_
    refine b_imul (d164 (j := 45) rfl) rfl rfl ?_
    refine b_iadd (d164 (j := 46) rfl) rfl (dsw_dsw _) ?_
    refine b_iload (d164 (j := 47) rfl) rfl ?_
    refine b_if_eq (d164 (j := 48) rfl) (fun _ => ?_) (fun q => absurd q (by decide))
    refine b_iconst (d164 (j := 51) rfl) (by decide) ?_
    refine b_isub (d164 (j := 52) rfl) (dsw_dsw _) rfl ?_
    refine b_stk [uI (((M2 67 (((M2 24 1) * 6) + x1)) + (x3 * 7)) - 0)] (by rw [dsw_r (s5 M1 hR1 M2 hR2 c1)]) ?_
    exact b_iret (d164 (j := 53) rfl) rfl (k1 M1 hR1 M2 hR2 c1)
  ·
    refine b_iconst (d164 (j := 32) rfl) (by decide) ?_
    refine b_goto (d164 (j := 33) rfl) ?_
    refine b_istore [uR 10 0, uI x1, uI x2, uI x3, uI x4, uI (M2 24 1), uI 1] (d164 (j := 35) rfl) (by decide) rfl ?_
    refine b_aload_n (d164 (j := 36) rfl) rfl ?_
    refine b_getR (d164 (j := 37) rfl) rfl rfl rfl rfl ?_
    refine b_stk [uR 5 62] rfl ?_
    refine b_getR (d164 (j := 38) rfl) rfl rfl rfl rfl ?_
    refine b_stk [uR 25 67] rfl ?_
    refine b_iload_n (d164 (j := 39) rfl) rfl ?_
    refine b_iload (d164 (j := 40) rfl) rfl ?_
    refine b_callS (d164 (j := 41) rfl) (Or.inl rfl) rfl (bCk_mk (n := 1) (k := 2) (by decide +kernel) rfl rfl) (pu146 (s6 M1 hR1 M2 hR2 c1) ?_)
    refine b_stk [uI (((M2 24 1) * 6) + x1), uR 25 67] rfl ?_
    refine b_iaload (d164 (j := 42) rfl) rfl (s7 M1 hR1 M2 hR2 c1) ?_
    refine b_iload_n (d164 (j := 43) rfl) rfl ?_
    refine b_bipush (d164 (j := 44) rfl) (by decide) ?_
    refine b_imul (d164 (j := 45) rfl) rfl rfl ?_
    refine b_iadd (d164 (j := 46) rfl) rfl (dsw_dsw _) ?_
    refine b_iload (d164 (j := 47) rfl) rfl ?_
    refine b_if_eq (d164 (j := 48) rfl) (fun q => absurd q (by decide)) (fun _ => ?_)
    refine b_bipush (d164 (j := 49) rfl) (by decide) ?_
    refine b_goto (d164 (j := 50) rfl) ?_
    refine b_isub (d164 (j := 52) rfl) (dsw_dsw _) rfl ?_
    refine b_stk [uI (((M2 67 (((M2 24 1) * 6) + x1)) + (x3 * 7)) - 10)] (by rw [dsw_r (s8 M1 hR1 M2 hR2 c1)]) ?_
    exact b_iret (d164 (j := 53) rfl) rfl (k2 M1 hR1 M2 hR2 c1)
def L166 : List (Nat × Instr × Nat × Nat) := [(0, .lload_n 0, 1, 0), (1, .invokestatic 419, 4, 0), (4, .lstore 5, 6, 0), (6, .lload_n 2, 7, 0), (7, .lstore 7, 9, 0), (9, .iconst 0, 10, 0), (10, .istore 9, 12, 0), (12, .iload 9, 14, 0), (14, .bipush 100, 16, 0), (16, .if_icmp .ge 31, 19, 47), (19, .lload 7, 21, 0), (21, .lconst 0, 22, 0), (22, .lcmp, 23, 0), (23, .ifCond .eq 24, 26, 47), (26, .lload 5, 28, 0), (28, .lload 7, 30, 0), (30, .lrem, 31, 0), (31, .lstore 10, 33, 0), (33, .lload 7, 35, 0), (35, .lstore 5, 37, 0), (37, .lload 10, 39, 0), (39, .lstore 7, 41, 0), (41, .iinc 9 1, 44, 0), (44, .goto (-32), 47, 12), (47, .lload 5, 49, 0), (49, .lconst 0, 50, 0), (50, .lcmp, 51, 0), (51, .ifCond .ne 7, 54, 58), (54, .iload 4, 56, 0), (56, .i2l, 57, 0), (57, .lreturn, 58, 0), (58, .iload 4, 60, 0), (60, .ifCond .ne 7, 63, 67), (63, .lload_n 0, 64, 0), (64, .goto 4, 67, 68), (67, .lload_n 2, 68, 0), (68, .lload 5, 70, 0), (70, .ldiv, 71, 0), (71, .lreturn, 72, 0)]
set_option maxRecDepth 100000 in
theorem L166_ok : L166.all (dck 166) = true := by decide +kernel
theorem d166 {j pc nx tg : Nat} {ins : Instr} (hj : L166[j]? = some (pc, ins, nx, tg)) : dcd 166 pc ins nx tg := dcl_ok L166_ok hj
set_option maxRecDepth 100000 in
set_option maxHeartbeats 4000000 in
theorem r166_0 {x0 x2 x4 : Int}  {M : dsMem} {Q : bQT} (k1 : bB 166 12 [uJ x0, uX 0, uJ x2, uX 0, uI x4, uJ (if 0 < x0 then x0 else dsw64 (-x0)), uX 0, uJ x2, uX 0, uI 0, uX 0, uX 0] [] M Q) :
    bB 166 0 [uJ x0, uX 0, uJ x2, uX 0, uI x4, uX 0, uX 0, uX 0, uX 0, uX 0, uX 0, uX 0] [] M Q := by
  refine b_lload_n (d166 (j := 0) rfl) rfl ?_
  refine b_abs (d166 (j := 1) rfl) rfl ⟨by decide, Nat.le_of_ble_eq_true rfl⟩ ?_
  refine b_lstore [uJ x0, uX 0, uJ x2, uX 0, uI x4, uJ (if 0 < x0 then x0 else dsw64 (-x0)), uX 0, uX 0, uX 0, uX 0, uX 0, uX 0] (d166 (j := 2) rfl) (by decide) rfl ?_
  refine b_lload_n (d166 (j := 3) rfl) rfl ?_
  refine b_lstore [uJ x0, uX 0, uJ x2, uX 0, uI x4, uJ (if 0 < x0 then x0 else dsw64 (-x0)), uX 0, uJ x2, uX 0, uX 0, uX 0, uX 0] (d166 (j := 4) rfl) (by decide) rfl ?_
  refine b_iconst (d166 (j := 5) rfl) (by decide) ?_
  refine b_istore [uJ x0, uX 0, uJ x2, uX 0, uI x4, uJ (if 0 < x0 then x0 else dsw64 (-x0)), uX 0, uJ x2, uX 0, uI 0, uX 0, uX 0] (d166 (j := 6) rfl) (by decide) rfl ?_
  exact k1
set_option maxRecDepth 100000 in
set_option maxHeartbeats 4000000 in
theorem r166_12 {x0 x2 x4 x5 x7 x9 : Int}  {M : dsMem} {Q : bQT} (s1 : (100 ≤ x9) → (¬ x5 = 0) → (¬ x4 = 0) → (0 ≤ x2 ∧ x2 < 9223372036854775808) ∧ (0 : Int) < x5 := by intros; omega) (k1 : (100 ≤ x9) → (¬ x5 = 0) → (¬ x4 = 0) → Q [uJ (x2 / x5)] M) (s2 : (100 ≤ x9) → (¬ x5 = 0) → (x4 = 0) → (0 ≤ x0 ∧ x0 < 9223372036854775808) ∧ (0 : Int) < x5 := by intros; omega) (k2 : (100 ≤ x9) → (¬ x5 = 0) → (x4 = 0) → Q [uJ (x0 / x5)] M) (k3 : (100 ≤ x9) → (x5 = 0) → Q [uJ x4] M) (s3 : (¬ 100 ≤ x9) → (x7 = 0) → (¬ x5 = 0) → (¬ x4 = 0) → (0 ≤ x2 ∧ x2 < 9223372036854775808) ∧ (0 : Int) < x5 := by intros; omega) (k4 : (¬ 100 ≤ x9) → (x7 = 0) → (¬ x5 = 0) → (¬ x4 = 0) → Q [uJ (x2 / x5)] M) (s4 : (¬ 100 ≤ x9) → (x7 = 0) → (¬ x5 = 0) → (x4 = 0) → (0 ≤ x0 ∧ x0 < 9223372036854775808) ∧ (0 : Int) < x5 := by intros; omega) (k5 : (¬ 100 ≤ x9) → (x7 = 0) → (¬ x5 = 0) → (x4 = 0) → Q [uJ (x0 / x5)] M) (k6 : (¬ 100 ≤ x9) → (x7 = 0) → (x5 = 0) → Q [uJ x4] M) (s5 : (¬ 100 ≤ x9) → (¬ x7 = 0) → 0 ≤ x5 ∧ (0 : Int) < x7 := by intros; omega) (s6 : (¬ 100 ≤ x9) → (¬ x7 = 0) → -2147483648 ≤ x9 + 1 ∧ x9 + 1 < 2147483648 := by intros; omega) (k7 : (¬ 100 ≤ x9) → (¬ x7 = 0) → bB 166 12 [uJ x0, uX 0, uJ x2, uX 0, uI x4, uJ x7, uX 0, uJ (x5 % x7), uX 0, uI (x9 + 1), uX 0, uX 0] [] M Q) :
    bB 166 12 [uJ x0, uX 0, uJ x2, uX 0, uI x4, uJ x5, uX 0, uJ x7, uX 0, uI x9, uX 0, uX 0] [] M Q := by
  refine b_iload (d166 (j := 7) rfl) rfl ?_
  refine b_bipush (d166 (j := 8) rfl) (by decide) ?_
  refine b_icmp_ge (d166 (j := 9) rfl) (fun c1 => ?_) (fun c1 => ?_)
  ·
    refine b_lload (d166 (j := 24) rfl) rfl ?_
    refine b_lconst (d166 (j := 25) rfl) ?_
    refine b_stk [uJ 0, uJ x5] rfl ?_
    refine b_lcmp (d166 (j := 26) rfl) ?_
    refine b_lif_ne (d166 (j := 27) rfl) (fun c2 => ?_) (fun c2 => ?_)
    ·
      refine b_iload (d166 (j := 31) rfl) rfl ?_
      refine b_if_ne (d166 (j := 32) rfl) (fun c3 => ?_) (fun c3 => ?_)
      ·
        refine b_lload_n (d166 (j := 35) rfl) rfl ?_
        refine b_lload (d166 (j := 36) rfl) rfl ?_
        refine b_ldivP (d166 (j := 37) rfl) (s1 c1 c2 c3) ?_
        exact b_lret (d166 (j := 38) rfl) rfl (k1 c1 c2 c3)
      ·
        refine b_lload_n (d166 (j := 33) rfl) rfl ?_
        refine b_goto (d166 (j := 34) rfl) ?_
        refine b_lload (d166 (j := 36) rfl) rfl ?_
        refine b_ldivP (d166 (j := 37) rfl) (s2 c1 c2 c3) ?_
        exact b_lret (d166 (j := 38) rfl) rfl (k2 c1 c2 c3)
    ·
      refine b_iload (d166 (j := 28) rfl) rfl ?_
      refine b_i2l (d166 (j := 29) rfl) ?_
      exact b_lret (d166 (j := 30) rfl) rfl (k3 c1 c2)
  ·
    refine b_lload (d166 (j := 10) rfl) rfl ?_
    refine b_lconst (d166 (j := 11) rfl) ?_
    refine b_stk [uJ 0, uJ x7] rfl ?_
    refine b_lcmp (d166 (j := 12) rfl) ?_
    refine b_lif_eq (d166 (j := 13) rfl) (fun c4 => ?_) (fun c4 => ?_)
    ·
      refine b_lload (d166 (j := 24) rfl) rfl ?_
      refine b_lconst (d166 (j := 25) rfl) ?_
      refine b_stk [uJ 0, uJ x5] rfl ?_
      refine b_lcmp (d166 (j := 26) rfl) ?_
      refine b_lif_ne (d166 (j := 27) rfl) (fun c5 => ?_) (fun c5 => ?_)
      ·
        refine b_iload (d166 (j := 31) rfl) rfl ?_
        refine b_if_ne (d166 (j := 32) rfl) (fun c6 => ?_) (fun c6 => ?_)
        ·
          refine b_lload_n (d166 (j := 35) rfl) rfl ?_
          refine b_lload (d166 (j := 36) rfl) rfl ?_
          refine b_ldivP (d166 (j := 37) rfl) (s3 c1 c4 c5 c6) ?_
          exact b_lret (d166 (j := 38) rfl) rfl (k4 c1 c4 c5 c6)
        ·
          refine b_lload_n (d166 (j := 33) rfl) rfl ?_
          refine b_goto (d166 (j := 34) rfl) ?_
          refine b_lload (d166 (j := 36) rfl) rfl ?_
          refine b_ldivP (d166 (j := 37) rfl) (s4 c1 c4 c5 c6) ?_
          exact b_lret (d166 (j := 38) rfl) rfl (k5 c1 c4 c5 c6)
      ·
        refine b_iload (d166 (j := 28) rfl) rfl ?_
        refine b_i2l (d166 (j := 29) rfl) ?_
        exact b_lret (d166 (j := 30) rfl) rfl (k6 c1 c4 c5)
    ·
      refine b_lload (d166 (j := 14) rfl) rfl ?_
      refine b_lload (d166 (j := 15) rfl) rfl ?_
      refine b_lremP (d166 (j := 16) rfl) (s5 c1 c4) ?_
      refine b_lstore [uJ x0, uX 0, uJ x2, uX 0, uI x4, uJ x5, uX 0, uJ x7, uX 0, uI x9, uJ (x5 % x7), uX 0] (d166 (j := 17) rfl) (by decide) rfl ?_
      refine b_lload (d166 (j := 18) rfl) rfl ?_
      refine b_lstore [uJ x0, uX 0, uJ x2, uX 0, uI x4, uJ x7, uX 0, uJ x7, uX 0, uI x9, uJ (x5 % x7), uX 0] (d166 (j := 19) rfl) (by decide) rfl ?_
      refine b_lload (d166 (j := 20) rfl) rfl ?_
      refine b_lstore [uJ x0, uX 0, uJ x2, uX 0, uI x4, uJ x7, uX 0, uJ (x5 % x7), uX 0, uI x9, uJ (x5 % x7), uX 0] (d166 (j := 21) rfl) (by decide) rfl ?_
      refine b_iinc [uJ x0, uX 0, uJ x2, uX 0, uI x4, uJ x7, uX 0, uJ (x5 % x7), uX 0, uI (x9 + 1), uJ (x5 % x7), uX 0] (d166 (j := 22) rfl) rfl (by decide) (s6 c1 c4) rfl ?_
      refine b_goto (d166 (j := 23) rfl) ?_
      exact bB_le _ (bLe_s (bLe_s (bLe_s (bLe_s (bLe_s (bLe_s (bLe_s (bLe_s (bLe_s (bLe_s (bLe_x (bLe_s bLe_nil)))))))))))) (k7 c1 c4)
def L168 : List (Nat × Instr × Nat × Nat) := [(0, .iload_n 1, 1, 0), (1, .invokestatic 371, 4, 0), (4, .ifCond .eq 10, 7, 14), (7, .aload_n 0, 8, 0), (8, .invokevirtual 179, 11, 0), (11, .ifCond .ne 6, 14, 17), (14, .bipush (-2), 16, 0), (16, .ireturn, 17, 0), (17, .aload_n 0, 18, 0), (18, .getfield 32, 21, 0), (21, .iload_n 1, 22, 0), (22, .aaload, 23, 0), (23, .astore_n 2, 24, 0), (24, .aload_n 2, 25, 0), (25, .ifnonnull 6, 28, 31), (28, .bipush (-6), 30, 0), (30, .ireturn, 31, 0), (31, .aload_n 2, 32, 0), (32, .getfield 379, 35, 0), (35, .iconst 3, 36, 0), (36, .irem, 37, 0), (37, .ifCond .ne 7, 40, 44), (40, .iconst 1, 41, 0), (41, .goto 4, 44, 45), (44, .iconst 0, 45, 0), (45, .istore_n 3, 46, 0), (46, .iconst 0, 47, 0), (47, .istore 4, 49, 0), (49, .iload 4, 51, 0), (51, .iconst 2, 52, 0), (52, .iadd, 53, 0), (53, .aload_n 2, 54, 0), (54, .getfield 379, 57, 0), (57, .if_icmp .ge 51, 60, 108), (60, .iload_n 3, 61, 0), (61, .ifCond .eq 39, 64, 100), (64, .aload_n 0, 65, 0), (65, .aload_n 2, 66, 0), (66, .getfield 380, 69, 0), (69, .iload 4, 71, 0), (71, .laload, 72, 0), (72, .aload_n 2, 73, 0), (73, .getfield 380, 76, 0), (76, .iload 4, 78, 0), (78, .iconst 1, 79, 0), (79, .iadd, 80, 0), (80, .laload, 81, 0), (81, .aload_n 2, 82, 0), (82, .getfield 380, 85, 0), (85, .iload 4, 87, 0), (87, .iconst 2, 88, 0), (88, .iadd, 89, 0), (89, .laload, 90, 0), (90, .invokevirtual 422, 93, 0), (93, .ifCond .eq 7, 96, 100), (96, .iconst 1, 97, 0), (97, .goto 4, 100, 101), (100, .iconst 0, 101, 0), (101, .istore_n 3, 102, 0), (102, .iinc 4 3, 105, 0), (105, .goto (-56), 108, 49), (108, .iload_n 3, 109, 0), (109, .ifCond .eq 7, 112, 116), (112, .iconst 0, 113, 0), (113, .goto 5, 116, 118), (116, .bipush (-2), 118, 0), (118, .ireturn, 119, 0)]
set_option maxRecDepth 100000 in
theorem L168_ok : L168.all (dck 168) = true := by decide +kernel
theorem d168 {j pc nx tg : Nat} {ins : Instr} (hj : L168[j]? = some (pc, ins, nx, tg)) : dcd 168 pc ins nx tg := dcl_ok L168_ok hj
set_option maxRecDepth 100000 in
set_option maxHeartbeats 4000000 in
theorem r168_0 {x1 : Int}  {M : dsMem} {Q : bQT} (k1 : (¬ (0 ≤ x1 ∧ x1 ≤ 3)) → Q [uI (-2)] M) (s1 : ((0 ≤ x1 ∧ x1 ≤ 3)) → ((0 < (M 24 0))) → 0 ≤ x1 ∧ x1 < 4 := by intros; omega) (s2 : ((0 ≤ x1 ∧ x1 ≤ 3)) → ((0 < (M 24 0))) → (¬ (M 46 x1) < 0) → 0 ≤ (M 46 x1) := by intros; omega) (s3 : ((0 ≤ x1 ∧ x1 ≤ 3)) → ((0 < (M 24 0))) → (¬ (M 46 x1) < 0) → 0 ≤ (M (M 46 x1) 1) ∧ (0 : Int) < 3 := by intros; omega) (k2 : ((0 ≤ x1 ∧ x1 ≤ 3)) → ((0 < (M 24 0))) → (¬ (M 46 x1) < 0) → (¬ ((M (M 46 x1) 1) % 3) = 0) → bB 168 49 [uR 10 0, uX 0, uR 13 (M 46 x1), uI 0, uI 0] [] M Q) (k3 : ((0 ≤ x1 ∧ x1 ≤ 3)) → ((0 < (M 24 0))) → (¬ (M 46 x1) < 0) → (((M (M 46 x1) 1) % 3) = 0) → bB 168 49 [uR 10 0, uX 0, uR 13 (M 46 x1), uI 1, uI 0] [] M Q) (k4 : ((0 ≤ x1 ∧ x1 ≤ 3)) → ((0 < (M 24 0))) → ((M 46 x1) < 0) → Q [uI (-6)] M) (k5 : ((0 ≤ x1 ∧ x1 ≤ 3)) → (¬ (0 < (M 24 0))) → Q [uI (-2)] M) :
    bB 168 0 [uR 10 0, uI x1, uX 0, uX 0, uX 0] [] M Q := by
  refine b_iload_n (d168 (j := 0) rfl) rfl ?_
  refine b_callS (d168 (j := 1) rfl) (Or.inl rfl) rfl (bCk_mk (n := 0) (k := 1) (by decide +kernel) rfl rfl) (pu148  ?_)
  refine b_stk [uI (if (0 ≤ x1 ∧ x1 ≤ 3) then 1 else 0)] rfl ?_
  refine b_ifeqP (d168 (j := 2) rfl) (fun c1 => ?_) (fun c1 => ?_)
  ·
    refine b_bipush (d168 (j := 6) rfl) (by decide) ?_
    exact b_iret (d168 (j := 7) rfl) rfl (k1 c1)
  ·
    refine b_aload_n (d168 (j := 3) rfl) rfl ?_
    refine b_callV (d168 (j := 4) rfl) rfl rfl (Or.inl rfl) rfl (bCk_mk (n := 0) (k := 1) (by decide +kernel) rfl rfl) (pu149  ?_)
    refine b_stk [uI (if (0 < (M 24 0)) then 1 else 0)] rfl ?_
    refine b_ifneP (d168 (j := 5) rfl) (fun c2 => ?_) (fun c2 => ?_)
    ·
      refine b_aload_n (d168 (j := 8) rfl) rfl ?_
      refine b_getR (d168 (j := 9) rfl) rfl rfl rfl rfl ?_
      refine b_stk [uR 36 46] rfl ?_
      refine b_iload_n (d168 (j := 10) rfl) rfl ?_
      refine b_aaloadR (d168 (j := 11) rfl) rfl (s1 c1 c2) ?_
      refine b_astore_n [uR 10 0, uI x1, uR 13 (M 46 x1), uX 0, uX 0] (d168 (j := 12) rfl) (by decide) rfl ?_
      refine b_aload_n (d168 (j := 13) rfl) rfl ?_
      refine b_ifnonnull (d168 (j := 14) rfl) (fun c3 => ?_) (fun c3 => ?_)
      ·
        refine b_aload_n (d168 (j := 17) rfl) rfl ?_
        refine b_getIN (d168 (j := 18) rfl) rfl rfl (s2 c1 c2 c3) rfl (Or.inl rfl) ?_
        refine b_stk [uI (M (M 46 x1) 1)] rfl ?_
        refine b_iconst (d168 (j := 19) rfl) (by decide) ?_
        refine b_iremP (d168 (j := 20) rfl) (s3 c1 c2 c3) ?_
        refine b_if_ne (d168 (j := 21) rfl) (fun c4 => ?_) (fun c4 => ?_)
        ·
          refine b_iconst (d168 (j := 24) rfl) (by decide) ?_
          refine b_istore_n [uR 10 0, uI x1, uR 13 (M 46 x1), uI 0, uX 0] (d168 (j := 25) rfl) (by decide) rfl ?_
          refine b_iconst (d168 (j := 26) rfl) (by decide) ?_
          refine b_istore [uR 10 0, uI x1, uR 13 (M 46 x1), uI 0, uI 0] (d168 (j := 27) rfl) (by decide) rfl ?_
          exact bB_le _ (bLe_s (bLe_x (bLe_s (bLe_s (bLe_s bLe_nil))))) (k2 c1 c2 c3 c4)
        ·
          refine b_iconst (d168 (j := 22) rfl) (by decide) ?_
          refine b_goto (d168 (j := 23) rfl) ?_
          refine b_istore_n [uR 10 0, uI x1, uR 13 (M 46 x1), uI 1, uX 0] (d168 (j := 25) rfl) (by decide) rfl ?_
          refine b_iconst (d168 (j := 26) rfl) (by decide) ?_
          refine b_istore [uR 10 0, uI x1, uR 13 (M 46 x1), uI 1, uI 0] (d168 (j := 27) rfl) (by decide) rfl ?_
          exact bB_le _ (bLe_s (bLe_x (bLe_s (bLe_s (bLe_s bLe_nil))))) (k3 c1 c2 c3 c4)
      ·
        refine b_bipush (d168 (j := 15) rfl) (by decide) ?_
        exact b_iret (d168 (j := 16) rfl) rfl (k4 c1 c2 c3)
    ·
      refine b_bipush (d168 (j := 6) rfl) (by decide) ?_
      exact b_iret (d168 (j := 7) rfl) rfl (k5 c1 c2)
set_option maxRecDepth 100000 in
set_option maxHeartbeats 4000000 in
theorem r168_49 {x2 x3 x4 : Int}  {M : dsMem} {Q : bQT} (s1 : 0 ≤ x2 := by intros; omega) (s2 : -2147483648 ≤ (x4 + 2) ∧ (x4 + 2) < 2147483648 := by intros; omega) (k1 : ((M x2 1) ≤ (x4 + 2)) → (x3 = 0) → Q [uI (-2)] M) (k2 : ((M x2 1) ≤ (x4 + 2)) → (¬ x3 = 0) → Q [uI 0] M) (s3 : (¬ (M x2 1) ≤ (x4 + 2)) → (x3 = 0) → -2147483648 ≤ x4 + 3 ∧ x4 + 3 < 2147483648 := by intros; omega) (k3 : (¬ (M x2 1) ≤ (x4 + 2)) → (x3 = 0) → bB 168 49 [uR 10 0, uX 0, uR 13 x2, uI 0, uI (x4 + 3)] [] M Q) (s4 : (¬ (M x2 1) ≤ (x4 + 2)) → (¬ x3 = 0) → 0 ≤ x4 ∧ x4 < 60 := by intros; omega) (s5 : (¬ (M x2 1) ≤ (x4 + 2)) → (¬ x3 = 0) → 0 ≤ (x4 + 1) ∧ (x4 + 1) < 60 := by intros; omega) (s6 : (¬ (M x2 1) ≤ (x4 + 2)) → (¬ x3 = 0) → 0 ≤ (x4 + 2) ∧ (x4 + 2) < 60 := by intros; omega) (s7 : (¬ (M x2 1) ≤ (x4 + 2)) → (¬ x3 = 0) → (¬ ((¬ ((M (x2 + 1) x4) < 0)) ∧ ((¬ ((M 24 5) ≤ (M (x2 + 1) x4))) ∧ ((¬ ((M (x2 + 1) (x4 + 1)) < 0)) ∧ ((¬ ((M 24 1) < (M (x2 + 1) (x4 + 1)))) ∧ ((¬ ((M (x2 + 1) (x4 + 2)) < 0)) ∧ (¬ (60 < (M (x2 + 1) (x4 + 2)))))))))) → -2147483648 ≤ x4 + 3 ∧ x4 + 3 < 2147483648 := by intros; omega) (k4 : (¬ (M x2 1) ≤ (x4 + 2)) → (¬ x3 = 0) → (¬ ((¬ ((M (x2 + 1) x4) < 0)) ∧ ((¬ ((M 24 5) ≤ (M (x2 + 1) x4))) ∧ ((¬ ((M (x2 + 1) (x4 + 1)) < 0)) ∧ ((¬ ((M 24 1) < (M (x2 + 1) (x4 + 1)))) ∧ ((¬ ((M (x2 + 1) (x4 + 2)) < 0)) ∧ (¬ (60 < (M (x2 + 1) (x4 + 2)))))))))) → bB 168 49 [uR 10 0, uX 0, uR 13 x2, uI 0, uI (x4 + 3)] [] M Q) (s8 : (¬ (M x2 1) ≤ (x4 + 2)) → (¬ x3 = 0) → (((¬ ((M (x2 + 1) x4) < 0)) ∧ ((¬ ((M 24 5) ≤ (M (x2 + 1) x4))) ∧ ((¬ ((M (x2 + 1) (x4 + 1)) < 0)) ∧ ((¬ ((M 24 1) < (M (x2 + 1) (x4 + 1)))) ∧ ((¬ ((M (x2 + 1) (x4 + 2)) < 0)) ∧ (¬ (60 < (M (x2 + 1) (x4 + 2)))))))))) → -2147483648 ≤ x4 + 3 ∧ x4 + 3 < 2147483648 := by intros; omega) (k5 : (¬ (M x2 1) ≤ (x4 + 2)) → (¬ x3 = 0) → (((¬ ((M (x2 + 1) x4) < 0)) ∧ ((¬ ((M 24 5) ≤ (M (x2 + 1) x4))) ∧ ((¬ ((M (x2 + 1) (x4 + 1)) < 0)) ∧ ((¬ ((M 24 1) < (M (x2 + 1) (x4 + 1)))) ∧ ((¬ ((M (x2 + 1) (x4 + 2)) < 0)) ∧ (¬ (60 < (M (x2 + 1) (x4 + 2)))))))))) → bB 168 49 [uR 10 0, uX 0, uR 13 x2, uI 1, uI (x4 + 3)] [] M Q) :
    bB 168 49 [uR 10 0, uX 0, uR 13 x2, uI x3, uI x4] [] M Q := by
  refine b_iload (d168 (j := 28) rfl) rfl ?_
  refine b_iconst (d168 (j := 29) rfl) (by decide) ?_
  refine b_iadd (d168 (j := 30) rfl) rfl rfl ?_
  refine b_aload_n (d168 (j := 31) rfl) rfl ?_
  refine b_getIN (d168 (j := 32) rfl) rfl rfl s1 rfl (Or.inl rfl) ?_
  refine b_stk [uI (M x2 1), uI (dsw ((x4 + 2)))] rfl ?_
  refine b_stk [uI (M x2 1), uI (x4 + 2)] (by rw [dsw_r s2]) ?_
  refine b_icmp_ge (d168 (j := 33) rfl) (fun c1 => ?_) (fun c1 => ?_)
  ·
    refine b_iload_n (d168 (j := 61) rfl) rfl ?_
    refine b_if_eq (d168 (j := 62) rfl) (fun c2 => ?_) (fun c2 => ?_)
    ·
      refine b_bipush (d168 (j := 65) rfl) (by decide) ?_
      exact b_iret (d168 (j := 66) rfl) rfl (k1 c1 c2)
    ·
      refine b_iconst (d168 (j := 63) rfl) (by decide) ?_
      refine b_goto (d168 (j := 64) rfl) ?_
      exact b_iret (d168 (j := 66) rfl) rfl (k2 c1 c2)
  ·
    refine b_iload_n (d168 (j := 34) rfl) rfl ?_
    refine b_if_eq (d168 (j := 35) rfl) (fun c3 => ?_) (fun c3 => ?_)
    ·
      refine b_iconst (d168 (j := 57) rfl) (by decide) ?_
      refine b_istore_n [uR 10 0, uX 0, uR 13 x2, uI 0, uI x4] (d168 (j := 58) rfl) (by decide) rfl ?_
      refine b_iinc [uR 10 0, uX 0, uR 13 x2, uI 0, uI (x4 + 3)] (d168 (j := 59) rfl) rfl (by decide) (s3 c1 c3) rfl ?_
      refine b_goto (d168 (j := 60) rfl) ?_
      exact (k3 c1 c3)
    ·
      refine b_aload_n (d168 (j := 36) rfl) rfl ?_
      refine b_aload_n (d168 (j := 37) rfl) rfl ?_
      refine b_getRN (d168 (j := 38) rfl) rfl rfl s1 rfl ?_
      refine b_iload (d168 (j := 39) rfl) rfl ?_
      refine b_laload (d168 (j := 40) rfl) rfl (s4 c1 c3) ?_
      refine b_aload_n (d168 (j := 41) rfl) rfl ?_
      refine b_getRN (d168 (j := 42) rfl) rfl rfl s1 rfl ?_
      refine b_iload (d168 (j := 43) rfl) rfl ?_
      refine b_iconst (d168 (j := 44) rfl) (by decide) ?_
      refine b_iadd (d168 (j := 45) rfl) rfl rfl ?_
      refine b_stk [uI (x4 + 1), uR 34 (x2 + 1), uJ (M (x2 + 1) x4), uR 10 0] (by rw [dsw_b (s5 c1 c3) (by decide)]) ?_
      refine b_laload (d168 (j := 46) rfl) rfl (s5 c1 c3) ?_
      refine b_aload_n (d168 (j := 47) rfl) rfl ?_
      refine b_getRN (d168 (j := 48) rfl) rfl rfl s1 rfl ?_
      refine b_iload (d168 (j := 49) rfl) rfl ?_
      refine b_iconst (d168 (j := 50) rfl) (by decide) ?_
      refine b_iadd (d168 (j := 51) rfl) rfl rfl ?_
      refine b_stk [uI (x4 + 2), uR 34 (x2 + 1), uJ (M (x2 + 1) (x4 + 1)), uJ (M (x2 + 1) x4), uR 10 0] (by rw [dsw_b (s6 c1 c3) (by decide)]) ?_
      refine b_laload (d168 (j := 52) rfl) rfl (s6 c1 c3) ?_
      refine b_callV (d168 (j := 53) rfl) rfl rfl (Or.inl rfl) rfl (bCk_mk (n := 0) (k := 7) (by decide +kernel) rfl rfl) (fx169  ?_)
      refine b_stk [uI (if ((¬ ((M (x2 + 1) x4) < 0)) ∧ ((¬ ((M 24 5) ≤ (M (x2 + 1) x4))) ∧ ((¬ ((M (x2 + 1) (x4 + 1)) < 0)) ∧ ((¬ ((M 24 1) < (M (x2 + 1) (x4 + 1)))) ∧ ((¬ ((M (x2 + 1) (x4 + 2)) < 0)) ∧ (¬ (60 < (M (x2 + 1) (x4 + 2))))))))) then 1 else 0)] rfl ?_
      refine b_ifeqP (d168 (j := 54) rfl) (fun c4 => ?_) (fun c4 => ?_)
      ·
        refine b_iconst (d168 (j := 57) rfl) (by decide) ?_
        refine b_istore_n [uR 10 0, uX 0, uR 13 x2, uI 0, uI x4] (d168 (j := 58) rfl) (by decide) rfl ?_
        refine b_iinc [uR 10 0, uX 0, uR 13 x2, uI 0, uI (x4 + 3)] (d168 (j := 59) rfl) rfl (by decide) (s7 c1 c3 c4) rfl ?_
        refine b_goto (d168 (j := 60) rfl) ?_
        exact (k4 c1 c3 c4)
      ·
        refine b_iconst (d168 (j := 55) rfl) (by decide) ?_
        refine b_goto (d168 (j := 56) rfl) ?_
        refine b_istore_n [uR 10 0, uX 0, uR 13 x2, uI 1, uI x4] (d168 (j := 58) rfl) (by decide) rfl ?_
        refine b_iinc [uR 10 0, uX 0, uR 13 x2, uI 1, uI (x4 + 3)] (d168 (j := 59) rfl) rfl (by decide) (s8 c1 c3 c4) rfl ?_
        refine b_goto (d168 (j := 60) rfl) ?_
        exact (k5 c1 c3 c4)
def L170 : List (Nat × Instr × Nat × Nat) := [(0, .aload_n 0, 1, 0), (1, .getfield 32, 4, 0), (4, .iload_n 1, 5, 0), (5, .aaload, 6, 0), (6, .astore_n 2, 7, 0), (7, .aload_n 2, 8, 0), (8, .ifnonnull 5, 11, 13), (11, .iconst 0, 12, 0), (12, .ireturn, 13, 0), (13, .iconst 0, 14, 0), (14, .istore_n 3, 15, 0), (15, .iload_n 3, 16, 0), (16, .iconst 2, 17, 0), (17, .iadd, 18, 0), (18, .aload_n 2, 19, 0), (19, .getfield 379, 22, 0), (22, .if_icmp .ge 55, 25, 77), (25, .aload_n 2, 26, 0), (26, .getfield 380, 29, 0), (29, .iload_n 3, 30, 0), (30, .laload, 31, 0), (31, .l2i, 32, 0), (32, .aload_n 2, 33, 0), (33, .getfield 380, 36, 0), (36, .iload_n 3, 37, 0), (37, .iconst 1, 38, 0), (38, .iadd, 39, 0), (39, .laload, 40, 0), (40, .l2i, 41, 0), (41, .invokestatic 156, 44, 0), (44, .istore 4, 46, 0), (46, .aload_n 0, 47, 0), (47, .getfield 45, 50, 0), (50, .getfield 153, 53, 0), (53, .iload 4, 55, 0), (55, .iaload, 56, 0), (56, .i2l, 57, 0), (57, .aload_n 2, 58, 0), (58, .getfield 380, 61, 0), (61, .iload_n 3, 62, 0), (62, .iconst 2, 63, 0), (63, .iadd, 64, 0), (64, .laload, 65, 0), (65, .lcmp, 66, 0), (66, .ifCond .eq 5, 69, 71), (69, .iconst 0, 70, 0), (70, .ireturn, 71, 0), (71, .iinc 3 3, 74, 0), (74, .goto (-59), 77, 15), (77, .iconst 1, 78, 0), (78, .ireturn, 79, 0)]
set_option maxRecDepth 100000 in
theorem L170_ok : L170.all (dck 170) = true := by decide +kernel
theorem d170 {j pc nx tg : Nat} {ins : Instr} (hj : L170[j]? = some (pc, ins, nx, tg)) : dcd 170 pc ins nx tg := dcl_ok L170_ok hj
set_option maxRecDepth 100000 in
set_option maxHeartbeats 4000000 in
theorem r170_0 {x1 : Int}  {M : dsMem} {Q : bQT} (s1 : 0 ≤ x1 ∧ x1 < 4 := by intros; omega) (k1 : (¬ (M 46 x1) < 0) → bB 170 15 [uR 10 0, uX 0, uR 13 (M 46 x1), uI 0, uX 0] [] M Q) (k2 : ((M 46 x1) < 0) → Q [uI 0] M) :
    bB 170 0 [uR 10 0, uI x1, uX 0, uX 0, uX 0] [] M Q := by
  refine b_aload_n (d170 (j := 0) rfl) rfl ?_
  refine b_getR (d170 (j := 1) rfl) rfl rfl rfl rfl ?_
  refine b_stk [uR 36 46] rfl ?_
  refine b_iload_n (d170 (j := 2) rfl) rfl ?_
  refine b_aaloadR (d170 (j := 3) rfl) rfl s1 ?_
  refine b_astore_n [uR 10 0, uI x1, uR 13 (M 46 x1), uX 0, uX 0] (d170 (j := 4) rfl) (by decide) rfl ?_
  refine b_aload_n (d170 (j := 5) rfl) rfl ?_
  refine b_ifnonnull (d170 (j := 6) rfl) (fun c1 => ?_) (fun c1 => ?_)
  ·
    refine b_iconst (d170 (j := 9) rfl) (by decide) ?_
    refine b_istore_n [uR 10 0, uI x1, uR 13 (M 46 x1), uI 0, uX 0] (d170 (j := 10) rfl) (by decide) rfl ?_
    exact bB_le _ (bLe_s (bLe_x (bLe_s (bLe_s (bLe_s bLe_nil))))) (k1 c1)
  ·
    refine b_iconst (d170 (j := 7) rfl) (by decide) ?_
    exact b_zret (d170 (j := 8) rfl) rfl (by decide) (k2 c1)
set_option maxRecDepth 100000 in
set_option maxHeartbeats 4000000 in
theorem r170_15 {x2 x3 : Int}  {M : dsMem} {Q : bQT} (s1 : 0 ≤ x2 := by intros; omega) (s2 : -2147483648 ≤ (x3 + 2) ∧ (x3 + 2) < 2147483648 := by intros; omega) (k1 : ((M x2 1) ≤ (x3 + 2)) → Q [uI 1] M) (s3 : (¬ (M x2 1) ≤ (x3 + 2)) → 0 ≤ x3 ∧ x3 < 60 := by intros; omega) (s4 : (¬ (M x2 1) ≤ (x3 + 2)) → 0 ≤ (x3 + 1) ∧ (x3 + 1) < 60 := by intros; omega) (s5 : (¬ (M x2 1) ≤ (x3 + 2)) → -2147483648 ≤ (M (x2 + 1) (x3 + 1)) ∧ (M (x2 + 1) (x3 + 1)) < 2147483648 := by intros; omega) (s6 : (¬ (M x2 1) ≤ (x3 + 2)) → -2147483648 ≤ (M (x2 + 1) x3) ∧ (M (x2 + 1) x3) < 2147483648 := by intros; omega) (s7 : (¬ (M x2 1) ≤ (x3 + 2)) → -2147483648 ≤ (((M (x2 + 1) (x3 + 1)) * 6) + (M (x2 + 1) x3)) ∧ (((M (x2 + 1) (x3 + 1)) * 6) + (M (x2 + 1) x3)) < 2147483648 := by intros; omega) (s8 : (¬ (M x2 1) ≤ (x3 + 2)) → 0 ≤ (((M (x2 + 1) (x3 + 1)) * 6) + (M (x2 + 1) x3)) ∧ (((M (x2 + 1) (x3 + 1)) * 6) + (M (x2 + 1) x3)) < 78 := by intros; omega) (s9 : (¬ (M x2 1) ≤ (x3 + 2)) → 0 ≤ (x3 + 2) ∧ (x3 + 2) < 60 := by intros; omega) (s10 : (¬ (M x2 1) ≤ (x3 + 2)) → ((M 67 (((M (x2 + 1) (x3 + 1)) * 6) + (M (x2 + 1) x3))) = (M (x2 + 1) (x3 + 2))) → -2147483648 ≤ x3 + 3 ∧ x3 + 3 < 2147483648 := by intros; omega) (k2 : (¬ (M x2 1) ≤ (x3 + 2)) → ((M 67 (((M (x2 + 1) (x3 + 1)) * 6) + (M (x2 + 1) x3))) = (M (x2 + 1) (x3 + 2))) → bB 170 15 [uR 10 0, uX 0, uR 13 x2, uI (x3 + 3), uX 0] [] M Q) (k3 : (¬ (M x2 1) ≤ (x3 + 2)) → (¬ (M 67 (((M (x2 + 1) (x3 + 1)) * 6) + (M (x2 + 1) x3))) = (M (x2 + 1) (x3 + 2))) → Q [uI 0] M) :
    bB 170 15 [uR 10 0, uX 0, uR 13 x2, uI x3, uX 0] [] M Q := by
  refine b_iload_n (d170 (j := 11) rfl) rfl ?_
  refine b_iconst (d170 (j := 12) rfl) (by decide) ?_
  refine b_iadd (d170 (j := 13) rfl) rfl rfl ?_
  refine b_aload_n (d170 (j := 14) rfl) rfl ?_
  refine b_getIN (d170 (j := 15) rfl) rfl rfl s1 rfl (Or.inl rfl) ?_
  refine b_stk [uI (M x2 1), uI (dsw ((x3 + 2)))] rfl ?_
  refine b_stk [uI (M x2 1), uI (x3 + 2)] (by rw [dsw_r s2]) ?_
  refine b_icmp_ge (d170 (j := 16) rfl) (fun c1 => ?_) (fun c1 => ?_)
  ·
    refine b_iconst (d170 (j := 49) rfl) (by decide) ?_
    exact b_zret (d170 (j := 50) rfl) rfl (by decide) (k1 c1)
  ·
    refine b_aload_n (d170 (j := 17) rfl) rfl ?_
    refine b_getRN (d170 (j := 18) rfl) rfl rfl s1 rfl ?_
    refine b_iload_n (d170 (j := 19) rfl) rfl ?_
    refine b_laload (d170 (j := 20) rfl) rfl (s3 c1) ?_
    refine b_l2i (d170 (j := 21) rfl) rfl ?_
    refine b_aload_n (d170 (j := 22) rfl) rfl ?_
    refine b_getRN (d170 (j := 23) rfl) rfl rfl s1 rfl ?_
    refine b_iload_n (d170 (j := 24) rfl) rfl ?_
    refine b_iconst (d170 (j := 25) rfl) (by decide) ?_
    refine b_iadd (d170 (j := 26) rfl) rfl rfl ?_
    refine b_stk [uI (x3 + 1), uR 34 (x2 + 1), uI (dsw ((M (x2 + 1) x3)))] (by rw [dsw_b (s4 c1) (by decide)]) ?_
    refine b_laload (d170 (j := 27) rfl) rfl (s4 c1) ?_
    refine b_l2i (d170 (j := 28) rfl) rfl ?_
    refine b_stk [uI (M (x2 + 1) (x3 + 1)), uI (dsw ((M (x2 + 1) x3)))] (by rw [dsw_r (s5 c1)]) ?_
    refine b_stk [uI (M (x2 + 1) (x3 + 1)), uI (M (x2 + 1) x3)] (by rw [dsw_r (s6 c1)]) ?_
    refine b_callS (d170 (j := 29) rfl) (Or.inl rfl) rfl (bCk_mk (n := 0) (k := 2) (by decide +kernel) rfl rfl) (pu146 (s7 c1) ?_)
    refine b_stk [uI (((M (x2 + 1) (x3 + 1)) * 6) + (M (x2 + 1) x3))] rfl ?_
    refine b_istore [uR 10 0, uX 0, uR 13 x2, uI x3, uI (((M (x2 + 1) (x3 + 1)) * 6) + (M (x2 + 1) x3))] (d170 (j := 30) rfl) (by decide) rfl ?_
    refine b_aload_n (d170 (j := 31) rfl) rfl ?_
    refine b_getR (d170 (j := 32) rfl) rfl rfl rfl rfl ?_
    refine b_stk [uR 5 62] rfl ?_
    refine b_getR (d170 (j := 33) rfl) rfl rfl rfl rfl ?_
    refine b_stk [uR 25 67] rfl ?_
    refine b_iload (d170 (j := 34) rfl) rfl ?_
    refine b_iaload (d170 (j := 35) rfl) rfl (s8 c1) ?_
    refine b_i2l (d170 (j := 36) rfl) ?_
    refine b_aload_n (d170 (j := 37) rfl) rfl ?_
    refine b_getRN (d170 (j := 38) rfl) rfl rfl s1 rfl ?_
    refine b_iload_n (d170 (j := 39) rfl) rfl ?_
    refine b_iconst (d170 (j := 40) rfl) (by decide) ?_
    refine b_iadd (d170 (j := 41) rfl) rfl rfl ?_
    refine b_stk [uI (x3 + 2), uR 34 (x2 + 1), uJ (M 67 (((M (x2 + 1) (x3 + 1)) * 6) + (M (x2 + 1) x3)))] (by rw [dsw_b (s9 c1) (by decide)]) ?_
    refine b_laload (d170 (j := 42) rfl) rfl (s9 c1) ?_
    refine b_lcmp (d170 (j := 43) rfl) ?_
    refine b_lif_eq (d170 (j := 44) rfl) (fun c2 => ?_) (fun c2 => ?_)
    ·
      refine b_iinc [uR 10 0, uX 0, uR 13 x2, uI (x3 + 3), uI (((M (x2 + 1) (x3 + 1)) * 6) + (M (x2 + 1) x3))] (d170 (j := 47) rfl) rfl (by decide) (s10 c1 c2) rfl ?_
      refine b_goto (d170 (j := 48) rfl) ?_
      exact bB_le _ (bLe_s (bLe_s (bLe_s (bLe_s (bLe_x bLe_nil))))) (k2 c1 c2)
    ·
      refine b_iconst (d170 (j := 45) rfl) (by decide) ?_
      exact b_zret (d170 (j := 46) rfl) rfl (by decide) (k3 c1 c2)
def L171 : List (Nat × Instr × Nat × Nat) := [(0, .aload_n 0, 1, 0), (1, .iload_n 2, 2, 0), (2, .invokevirtual 114, 5, 0), (5, .ifCond .eq 11, 8, 16), (8, .aload_n 0, 9, 0), (9, .iload_n 1, 10, 0), (10, .invokevirtual 298, 13, 0), (13, .goto 5, 16, 18), (16, .bipush (-2), 18, 0), (18, .istore_n 3, 19, 0), (19, .iload_n 3, 20, 0), (20, .ifCond .ge 5, 23, 25), (23, .iload_n 3, 24, 0), (24, .ireturn, 25, 0), (25, .aload_n 0, 26, 0), (26, .getfield 51, 29, 0), (29, .invokevirtual 428, 32, 0), (32, .iconst 1, 33, 0), (33, .istore 4, 35, 0), (35, .iload 4, 37, 0), (37, .bipush 60, 39, 0), (39, .if_icmp .gt 60, 42, 99), (42, .aload_n 0, 43, 0), (43, .invokevirtual 252, 46, 0), (46, .astore 5, 48, 0), (48, .aload 5, 50, 0), (50, .iload_n 2, 51, 0), (51, .putfield 429, 54, 0), (54, .aload 5, 56, 0), (56, .iload 4, 58, 0), (58, .putfield 432, 61, 0), (61, .aload_n 0, 62, 0), (62, .getfield 45, 65, 0), (65, .iconst 0, 66, 0), (66, .iconst 0, 67, 0), (67, .invokevirtual 279, 70, 0), (70, .pop, 71, 0), (71, .aload_n 0, 72, 0), (72, .iload_n 1, 73, 0), (73, .invokevirtual 304, 76, 0), (76, .ifCond .eq 17, 79, 93), (79, .aload_n 0, 80, 0), (80, .getfield 51, 83, 0), (83, .iload 4, 85, 0), (85, .iload_n 2, 86, 0), (86, .aload_n 0, 87, 0), (87, .getfield 45, 90, 0), (90, .invokevirtual 435, 93, 0), (93, .iinc 4 1, 96, 0), (96, .goto (-61), 99, 35), (99, .aload_n 0, 100, 0), (100, .getfield 51, 103, 0), (103, .getfield 439, 106, 0), (106, .ireturn, 107, 0)]
set_option maxRecDepth 100000 in
theorem L171_ok : L171.all (dck 171) = true := by decide +kernel
theorem d171 {j pc nx tg : Nat} {ins : Instr} (hj : L171[j]? = some (pc, ins, nx, tg)) : dcd 171 pc ins nx tg := dcl_ok L171_ok hj
set_option maxRecDepth 100000 in
set_option maxHeartbeats 4000000 in
theorem r171_0 {x1 x2 : Int} {R1 : dsMem → Prop} {g1 : dsMem → Int} {R2 : dsMem → dsMem → Prop} {M : dsMem} {Q : bQT} (s1 : -2147483648 ≤ ((M 24 5) - 1) ∧ ((M 24 5) - 1) < 2147483648 := by intros; omega) (k1 : (¬ (0 ≤ x2 ∧ x2 ≤ (M 24 5) - 1)) → Q [uI (-2)] M) (hA1 : ((0 ≤ x2 ∧ x2 ≤ (M 24 5) - 1)) → bCt 168 [uR 10 0, uI x1, uX 0, uX 0, uX 0] M (fun M1 => [uI (g1 M1)]) R1) (hA2 : ((0 ≤ x2 ∧ x2 ≤ (M 24 5) - 1)) → ∀ M1 : dsMem, R1 M1 → (0 ≤ (g1 M1)) → bCt 30 [uR 7 77] M1 (fun _ => []) (R2 M1)) (k2 : ((0 ≤ x2 ∧ x2 ≤ (M 24 5) - 1)) → ∀ M1 : dsMem, R1 M1 → (0 ≤ (g1 M1)) → ∀ M2 : dsMem, R2 M1 M2 → bB 171 35 [uR 10 0, uI x1, uI x2, uX 0, uI 1, uX 0] [] M2 Q) (k3 : ((0 ≤ x2 ∧ x2 ≤ (M 24 5) - 1)) → ∀ M1 : dsMem, R1 M1 → (¬ 0 ≤ (g1 M1)) → Q [uI (g1 M1)] M1) :
    bB 171 0 [uR 10 0, uI x1, uI x2, uX 0, uX 0, uX 0] [] M Q := by
  refine b_aload_n (d171 (j := 0) rfl) rfl ?_
  refine b_iload_n (d171 (j := 1) rfl) rfl ?_
  refine b_callV (d171 (j := 2) rfl) rfl rfl (Or.inl rfl) rfl (bCk_mk (n := 0) (k := 2) (by decide +kernel) rfl rfl) (pu151 s1 ?_)
  refine b_stk [uI (if (0 ≤ x2 ∧ x2 ≤ (M 24 5) - 1) then 1 else 0)] rfl ?_
  refine b_ifeqP (d171 (j := 3) rfl) (fun c1 => ?_) (fun c1 => ?_)
  ·
    refine b_bipush (d171 (j := 8) rfl) (by decide) ?_
    refine b_istore_n [uR 10 0, uI x1, uI x2, uI (-2), uX 0, uX 0] (d171 (j := 9) rfl) (by decide) rfl ?_
    refine b_iload_n (d171 (j := 10) rfl) rfl ?_
    refine b_if_ge (d171 (j := 11) rfl) (fun q => absurd q (by decide)) (fun _ => ?_)
    refine b_iload_n (d171 (j := 12) rfl) rfl ?_
    exact b_iret (d171 (j := 13) rfl) rfl (k1 c1)
  ·
    refine b_aload_n (d171 (j := 4) rfl) rfl ?_
    refine b_iload_n (d171 (j := 5) rfl) rfl ?_
    refine b_callV (d171 (j := 6) rfl) rfl rfl (Or.inl rfl) rfl (bCk_mk (n := 0) (k := 2) (by decide +kernel) rfl rfl) ((hA1 c1) _ (fun M1 hR1 => ?_))
    refine b_stk [uI (g1 M1)] rfl ?_
    refine b_goto (d171 (j := 7) rfl) ?_
    refine b_istore_n [uR 10 0, uI x1, uI x2, uI (g1 M1), uX 0, uX 0] (d171 (j := 9) rfl) (by decide) rfl ?_
    refine b_iload_n (d171 (j := 10) rfl) rfl ?_
    refine b_if_ge (d171 (j := 11) rfl) (fun c3 => ?_) (fun c3 => ?_)
    ·
      refine b_aload_n (d171 (j := 14) rfl) rfl ?_
      refine b_getR (d171 (j := 15) rfl) rfl rfl rfl rfl ?_
      refine b_stk [uR 7 77] rfl ?_
      refine b_callV (d171 (j := 16) rfl) rfl rfl (Or.inl rfl) rfl (bCk_mk (n := 0) (k := 1) (by decide +kernel) rfl rfl) ((hA2 c1 M1 hR1 c3) _ (fun M2 hR2 => ?_))
      refine b_stk [] rfl ?_
      refine b_iconst (d171 (j := 17) rfl) (by decide) ?_
      refine b_istore [uR 10 0, uI x1, uI x2, uI (g1 M1), uI 1, uX 0] (d171 (j := 18) rfl) (by decide) rfl ?_
      exact bB_le _ (bLe_s (bLe_s (bLe_s (bLe_x (bLe_s (bLe_s bLe_nil)))))) (k2 c1 M1 hR1 c3 M2 hR2)
    ·
      refine b_iload_n (d171 (j := 12) rfl) rfl ?_
      exact b_iret (d171 (j := 13) rfl) rfl (k3 c1 M1 hR1 c3)
set_option maxRecDepth 100000 in
set_option maxHeartbeats 4000000 in
theorem r171_35 {x1 x2 x4 : Int} {R1 : dsMem → Prop} {R2 : dsMem → dsMem → Prop} {g2 : dsMem → dsMem → Int} {R3 : dsMem → dsMem → dsMem → Prop} {g3 : dsMem → dsMem → dsMem → Int} {R4 : dsMem → dsMem → dsMem → dsMem → Prop} {M : dsMem} {Q : bQT} (k1 : (60 < x4) → Q [uI (M 77 0)] M) (hA1 : (¬ 60 < x4) → bCt 158 [uR 10 0] M (fun _ => [uR 0 63]) R1) (hA2 : (¬ 60 < x4) → ∀ M1 : dsMem, R1 M1 → bCt 7 [uR 5 62, uI 0, uI 0, uX 0, uX 0] (dsSet (dsSet M1 63 5 x2) 63 6 x4) (fun M2 => [uI (g2 M1 M2)]) (R2 M1)) (hA3 : (¬ 60 < x4) → ∀ M1 : dsMem, R1 M1 → ∀ M2 : dsMem, R2 M1 M2 → bCt 170 [uR 10 0, uI x1, uX 0, uX 0, uX 0] M2 (fun M3 => [uI (g3 M1 M2 M3)]) (R3 M1 M2)) (s1 : (¬ 60 < x4) → ∀ M1 : dsMem, R1 M1 → ∀ M2 : dsMem, R2 M1 M2 → ∀ M3 : dsMem, R3 M1 M2 M3 → ((g3 M1 M2 M3) = 0) → -2147483648 ≤ x4 + 1 ∧ x4 + 1 < 2147483648 := by intros; omega) (k2 : (¬ 60 < x4) → ∀ M1 : dsMem, R1 M1 → ∀ M2 : dsMem, R2 M1 M2 → ∀ M3 : dsMem, R3 M1 M2 M3 → ((g3 M1 M2 M3) = 0) → bB 171 35 [uR 10 0, uI x1, uI x2, uX 0, uI (x4 + 1), uX 0] [] M3 Q) (hA4 : (¬ 60 < x4) → ∀ M1 : dsMem, R1 M1 → ∀ M2 : dsMem, R2 M1 M2 → ∀ M3 : dsMem, R3 M1 M2 M3 → (¬ (g3 M1 M2 M3) = 0) → bCt 31 [uR 7 77, uI x4, uI x2, uR 5 62, uX 0] M3 (fun _ => []) (R4 M1 M2 M3)) (s2 : (¬ 60 < x4) → ∀ M1 : dsMem, R1 M1 → ∀ M2 : dsMem, R2 M1 M2 → ∀ M3 : dsMem, R3 M1 M2 M3 → (¬ (g3 M1 M2 M3) = 0) → ∀ M4 : dsMem, R4 M1 M2 M3 M4 → -2147483648 ≤ x4 + 1 ∧ x4 + 1 < 2147483648 := by intros; omega) (k3 : (¬ 60 < x4) → ∀ M1 : dsMem, R1 M1 → ∀ M2 : dsMem, R2 M1 M2 → ∀ M3 : dsMem, R3 M1 M2 M3 → (¬ (g3 M1 M2 M3) = 0) → ∀ M4 : dsMem, R4 M1 M2 M3 M4 → bB 171 35 [uR 10 0, uI x1, uI x2, uX 0, uI (x4 + 1), uX 0] [] M4 Q) :
    bB 171 35 [uR 10 0, uI x1, uI x2, uX 0, uI x4, uX 0] [] M Q := by
  refine b_iload (d171 (j := 19) rfl) rfl ?_
  refine b_bipush (d171 (j := 20) rfl) (by decide) ?_
  refine b_icmp_gt (d171 (j := 21) rfl) (fun c1 => ?_) (fun c1 => ?_)
  ·
    refine b_aload_n (d171 (j := 50) rfl) rfl ?_
    refine b_getR (d171 (j := 51) rfl) rfl rfl rfl rfl ?_
    refine b_stk [uR 7 77] rfl ?_
    refine b_getI (d171 (j := 52) rfl) rfl rfl rfl rfl (Or.inl rfl) ?_
    refine b_stk [uI (M 77 0)] rfl ?_
    exact b_iret (d171 (j := 53) rfl) rfl (k1 c1)
  ·
    refine b_aload_n (d171 (j := 22) rfl) rfl ?_
    refine b_callV (d171 (j := 23) rfl) rfl rfl (Or.inl rfl) rfl (bCk_mk (n := 0) (k := 1) (by decide +kernel) rfl rfl) ((hA1 c1) _ (fun M1 hR1 => ?_))
    refine b_stk [uR 0 63] rfl ?_
    refine b_astore [uR 10 0, uI x1, uI x2, uX 0, uI x4, uR 0 63] (d171 (j := 24) rfl) (by decide) rfl ?_
    refine b_aload (d171 (j := 25) rfl) rfl ?_
    refine b_iload_n (d171 (j := 26) rfl) rfl ?_
    refine b_putI (d171 (j := 27) rfl) rfl ⟨rfl, rfl⟩ rfl rfl ?_
    refine b_aload (d171 (j := 28) rfl) rfl ?_
    refine b_iload (d171 (j := 29) rfl) rfl ?_
    refine b_putI (d171 (j := 30) rfl) rfl ⟨rfl, rfl⟩ rfl rfl ?_
    refine b_aload_n (d171 (j := 31) rfl) rfl ?_
    refine b_getR (d171 (j := 32) rfl) rfl rfl rfl rfl ?_
    refine b_stk [uR 5 62] rfl ?_
    refine b_iconst (d171 (j := 33) rfl) (by decide) ?_
    refine b_iconst (d171 (j := 34) rfl) (by decide) ?_
    refine b_callV (d171 (j := 35) rfl) rfl rfl (Or.inl rfl) rfl (bCk_mk (n := 0) (k := 3) (by decide +kernel) rfl rfl) ((hA2 c1 M1 hR1) _ (fun M2 hR2 => ?_))
    refine b_stk [uI (g2 M1 M2)] rfl ?_
    refine b_pop (d171 (j := 36) rfl) rfl ?_
    refine b_aload_n (d171 (j := 37) rfl) rfl ?_
    refine b_iload_n (d171 (j := 38) rfl) rfl ?_
    refine b_callV (d171 (j := 39) rfl) rfl rfl (Or.inl rfl) rfl (bCk_mk (n := 0) (k := 2) (by decide +kernel) rfl rfl) ((hA3 c1 M1 hR1 M2 hR2) _ (fun M3 hR3 => ?_))
    refine b_stk [uI (g3 M1 M2 M3)] rfl ?_
    refine b_if_eq (d171 (j := 40) rfl) (fun c2 => ?_) (fun c2 => ?_)
    ·
      refine b_iinc [uR 10 0, uI x1, uI x2, uX 0, uI (x4 + 1), uR 0 63] (d171 (j := 48) rfl) rfl (by decide) (s1 c1 M1 hR1 M2 hR2 M3 hR3 c2) rfl ?_
      refine b_goto (d171 (j := 49) rfl) ?_
      exact bB_le _ (bLe_s (bLe_s (bLe_s (bLe_s (bLe_s (bLe_x bLe_nil)))))) (k2 c1 M1 hR1 M2 hR2 M3 hR3 c2)
    ·
      refine b_aload_n (d171 (j := 41) rfl) rfl ?_
      refine b_getR (d171 (j := 42) rfl) rfl rfl rfl rfl ?_
      refine b_stk [uR 7 77] rfl ?_
      refine b_iload (d171 (j := 43) rfl) rfl ?_
      refine b_iload_n (d171 (j := 44) rfl) rfl ?_
      refine b_aload_n (d171 (j := 45) rfl) rfl ?_
      refine b_getR (d171 (j := 46) rfl) rfl rfl rfl rfl ?_
      refine b_stk [uR 5 62, uI x2, uI x4, uR 7 77] rfl ?_
      refine b_callV (d171 (j := 47) rfl) rfl rfl (Or.inl rfl) rfl (bCk_mk (n := 0) (k := 4) (by decide +kernel) rfl rfl) ((hA4 c1 M1 hR1 M2 hR2 M3 hR3 c2) _ (fun M4 hR4 => ?_))
      refine b_stk [] rfl ?_
      refine b_iinc [uR 10 0, uI x1, uI x2, uX 0, uI (x4 + 1), uR 0 63] (d171 (j := 48) rfl) rfl (by decide) (s2 c1 M1 hR1 M2 hR2 M3 hR3 c2 M4 hR4) rfl ?_
      refine b_goto (d171 (j := 49) rfl) ?_
      exact bB_le _ (bLe_s (bLe_s (bLe_s (bLe_s (bLe_s (bLe_x bLe_nil)))))) (k3 c1 M1 hR1 M2 hR2 M3 hR3 c2 M4 hR4)
def L172 : List (Nat × Instr × Nat × Nat) := [(0, .aload_n 0, 1, 0), (1, .getfield 58, 4, 0), (4, .getfield 399, 7, 0), (7, .ifCond .eq 4, 10, 11), (10, .return_, 11, 0), (11, .aload_n 0, 12, 0), (12, .getfield 58, 15, 0), (15, .invokevirtual 440, 18, 0), (18, .aload_n 0, 19, 0), (19, .getfield 23, 22, 0), (22, .invokevirtual 442, 25, 0), (25, .istore_n 1, 26, 0), (26, .iconst 0, 27, 0), (27, .istore_n 2, 28, 0), (28, .iload_n 2, 29, 0), (29, .iload_n 1, 30, 0), (30, .invokestatic 247, 33, 0), (33, .if_icmp .ge 24, 36, 57), (36, .aload_n 0, 37, 0), (37, .getfield 58, 40, 0), (40, .dup, 41, 0), (41, .getfield 338, 44, 0), (44, .ldc2_w 445, 47, 0), (47, .lmul, 48, 0), (48, .putfield 338, 51, 0), (51, .iinc 2 1, 54, 0), (54, .goto (-26), 57, 28), (57, .iconst 0, 58, 0), (58, .istore_n 2, 59, 0), (59, .iload_n 2, 60, 0), (60, .iconst 1, 61, 0), (61, .aload_n 0, 62, 0), (62, .getfield 23, 65, 0), (65, .getfield 126, 68, 0), (68, .getfield 130, 71, 0), (71, .ishl, 72, 0), (72, .if_icmp .ge 89, 75, 161), (75, .iload_n 2, 76, 0), (76, .iload_n 1, 77, 0), (77, .iconst (-1), 78, 0), (78, .ixor, 79, 0), (79, .iand, 80, 0), (80, .ifCond .ne 12, 83, 92), (83, .aload_n 0, 84, 0), (84, .iload_n 2, 85, 0), (85, .iload_n 1, 86, 0), (86, .invokevirtual 447, 89, 0), (89, .goto 4, 92, 93), (92, .lconst 0, 93, 0), (93, .lstore_n 3, 94, 0), (94, .lload_n 3, 95, 0), (95, .lconst 0, 96, 0), (96, .lcmp, 97, 0), (97, .ifCond .le 58, 100, 155), (100, .aload_n 0, 101, 0), (101, .invokevirtual 252, 104, 0), (104, .iload_n 2, 105, 0), (105, .putfield 256, 108, 0), (108, .aload_n 0, 109, 0), (109, .getfield 45, 112, 0), (112, .iconst 0, 113, 0), (113, .iconst 0, 114, 0), (114, .invokevirtual 279, 117, 0), (117, .pop, 118, 0), (118, .aload_n 0, 119, 0), (119, .getfield 58, 122, 0), (122, .lload_n 3, 123, 0), (123, .aload_n 0, 124, 0), (124, .getfield 45, 127, 0), (127, .getfield 189, 130, 0), (130, .aload_n 0, 131, 0), (131, .getfield 23, 134, 0), (134, .getfield 186, 137, 0), (137, .iaload, 138, 0), (138, .aload_n 0, 139, 0), (139, .getfield 45, 142, 0), (142, .aload_n 0, 143, 0), (143, .getfield 23, 146, 0), (146, .getfield 186, 149, 0), (149, .invokevirtual 183, 152, 0), (152, .invokevirtual 451, 155, 0), (155, .iinc 2 1, 158, 0), (158, .goto (-99), 161, 59), (161, .aload_n 0, 162, 0), (162, .getfield 58, 165, 0), (165, .iconst 1, 166, 0), (166, .putfield 399, 169, 0), (169, .return_, 170, 0)]
set_option maxRecDepth 100000 in
theorem L172_ok : L172.all (dck 172) = true := by decide +kernel
theorem d172 {j pc nx tg : Nat} {ins : Instr} (hj : L172[j]? = some (pc, ins, nx, tg)) : dcd 172 pc ins nx tg := dcl_ok L172_ok hj
set_option maxRecDepth 100000 in
set_option maxHeartbeats 4000000 in
theorem r172_0  {R1 : dsMem → Prop} {M : dsMem} {Q : bQT} (hA1 : ((M 81 0) = 0) → bCt 37 [uR 8 81, uX 0] M (fun _ => []) R1) (s1 : ((M 81 0) = 0) → ∀ M1 : dsMem, R1 M1 → ∀ i65_1 : Int, ∀ a65_1 : Int, 0 ≤ i65_1 → i65_1 < (M1 30 0) → 0 ≤ i65_1 ∧ i65_1 < 8 := by intros; omega) (s2 : ((M 81 0) = 0) → ∀ M1 : dsMem, R1 M1 → ∀ i65_1 : Int, ∀ a65_1 : Int, 0 ≤ i65_1 → i65_1 < (M1 30 0) → -2147483648 ≤ i65_1 + 1 ∧ i65_1 + 1 < 2147483648 := by intros; omega) (k1 : ((M 81 0) = 0) → ∀ M1 : dsMem, R1 M1 → bB 172 28 [uR 10 0, uI (v65 M1 24), uI 0, uX 0, uX 0] [] M1 Q) (k2 : (¬ (M 81 0) = 0) → Q [] M) :
    bB 172 0 [uR 10 0, uX 0, uX 0, uX 0, uX 0] [] M Q := by
  refine b_aload_n (d172 (j := 0) rfl) rfl ?_
  refine b_getR (d172 (j := 1) rfl) rfl rfl rfl rfl ?_
  refine b_stk [uR 8 81] rfl ?_
  refine b_getI (d172 (j := 2) rfl) rfl rfl rfl rfl (Or.inr rfl) ?_
  refine b_stk [uI (M 81 0)] rfl ?_
  refine b_if_eq (d172 (j := 3) rfl) (fun c1 => ?_) (fun c1 => ?_)
  ·
    refine b_aload_n (d172 (j := 5) rfl) rfl ?_
    refine b_getR (d172 (j := 6) rfl) rfl rfl rfl rfl ?_
    refine b_stk [uR 8 81] rfl ?_
    refine b_callV (d172 (j := 7) rfl) rfl rfl (Or.inl rfl) rfl (bCk_mk (n := 0) (k := 1) (by decide +kernel) rfl rfl) ((hA1 c1) _ (fun M1 hR1 => ?_))
    refine b_stk [] rfl ?_
    refine b_aload_n (d172 (j := 8) rfl) rfl ?_
    refine b_getR (d172 (j := 9) rfl) rfl rfl rfl rfl ?_
    refine b_stk [uR 4 24] rfl ?_
    refine b_callV (d172 (j := 10) rfl) rfl rfl (Or.inl rfl) rfl (bCk_mk (n := 0) (k := 1) (by decide +kernel) rfl rfl) (fx65 (s1 c1 M1 hR1) (s2 c1 M1 hR1) ?_)
    refine b_stk [uI (v65 M1 24)] rfl ?_
    refine b_istore_n [uR 10 0, uI (v65 M1 24), uX 0, uX 0, uX 0] (d172 (j := 11) rfl) (by decide) rfl ?_
    refine b_iconst (d172 (j := 12) rfl) (by decide) ?_
    refine b_istore_n [uR 10 0, uI (v65 M1 24), uI 0, uX 0, uX 0] (d172 (j := 13) rfl) (by decide) rfl ?_
    exact (k1 c1 M1 hR1)
  ·
    exact b_vret (d172 (j := 4) rfl) rfl (k2 c1)
set_option maxRecDepth 100000 in
set_option maxHeartbeats 4000000 in
theorem r172_28 {x1 x2 : Int}  {M : dsMem} {Q : bQT} (s1 : -2147483648 ≤ (x1 - (dsAnd (dsUsh x1 1) 1431655765)) ∧ (x1 - (dsAnd (dsUsh x1 1) 1431655765)) < 2147483648 := by intros; omega) (s2 : -2147483648 ≤ ((dsAnd (x1 - (dsAnd (dsUsh x1 1) 1431655765)) 858993459) + (dsAnd (dsUsh (x1 - (dsAnd (dsUsh x1 1) 1431655765)) 2) 858993459)) ∧ ((dsAnd (x1 - (dsAnd (dsUsh x1 1) 1431655765)) 858993459) + (dsAnd (dsUsh (x1 - (dsAnd (dsUsh x1 1) 1431655765)) 2) 858993459)) < 2147483648 := by intros; omega) (s3 : -2147483648 ≤ (((dsAnd (x1 - (dsAnd (dsUsh x1 1) 1431655765)) 858993459) + (dsAnd (dsUsh (x1 - (dsAnd (dsUsh x1 1) 1431655765)) 2) 858993459)) + (dsUsh ((dsAnd (x1 - (dsAnd (dsUsh x1 1) 1431655765)) 858993459) + (dsAnd (dsUsh (x1 - (dsAnd (dsUsh x1 1) 1431655765)) 2) 858993459)) 4)) ∧ (((dsAnd (x1 - (dsAnd (dsUsh x1 1) 1431655765)) 858993459) + (dsAnd (dsUsh (x1 - (dsAnd (dsUsh x1 1) 1431655765)) 2) 858993459)) + (dsUsh ((dsAnd (x1 - (dsAnd (dsUsh x1 1) 1431655765)) 858993459) + (dsAnd (dsUsh (x1 - (dsAnd (dsUsh x1 1) 1431655765)) 2) 858993459)) 4)) < 2147483648 := by intros; omega) (s4 : -2147483648 ≤ ((dsAnd (((dsAnd (x1 - (dsAnd (dsUsh x1 1) 1431655765)) 858993459) + (dsAnd (dsUsh (x1 - (dsAnd (dsUsh x1 1) 1431655765)) 2) 858993459)) + (dsUsh ((dsAnd (x1 - (dsAnd (dsUsh x1 1) 1431655765)) 858993459) + (dsAnd (dsUsh (x1 - (dsAnd (dsUsh x1 1) 1431655765)) 2) 858993459)) 4)) 252645135) + (dsUsh (dsAnd (((dsAnd (x1 - (dsAnd (dsUsh x1 1) 1431655765)) 858993459) + (dsAnd (dsUsh (x1 - (dsAnd (dsUsh x1 1) 1431655765)) 2) 858993459)) + (dsUsh ((dsAnd (x1 - (dsAnd (dsUsh x1 1) 1431655765)) 858993459) + (dsAnd (dsUsh (x1 - (dsAnd (dsUsh x1 1) 1431655765)) 2) 858993459)) 4)) 252645135) 8)) ∧ ((dsAnd (((dsAnd (x1 - (dsAnd (dsUsh x1 1) 1431655765)) 858993459) + (dsAnd (dsUsh (x1 - (dsAnd (dsUsh x1 1) 1431655765)) 2) 858993459)) + (dsUsh ((dsAnd (x1 - (dsAnd (dsUsh x1 1) 1431655765)) 858993459) + (dsAnd (dsUsh (x1 - (dsAnd (dsUsh x1 1) 1431655765)) 2) 858993459)) 4)) 252645135) + (dsUsh (dsAnd (((dsAnd (x1 - (dsAnd (dsUsh x1 1) 1431655765)) 858993459) + (dsAnd (dsUsh (x1 - (dsAnd (dsUsh x1 1) 1431655765)) 2) 858993459)) + (dsUsh ((dsAnd (x1 - (dsAnd (dsUsh x1 1) 1431655765)) 858993459) + (dsAnd (dsUsh (x1 - (dsAnd (dsUsh x1 1) 1431655765)) 2) 858993459)) 4)) 252645135) 8)) < 2147483648 := by intros; omega) (s5 : -2147483648 ≤ (((dsAnd (((dsAnd (x1 - (dsAnd (dsUsh x1 1) 1431655765)) 858993459) + (dsAnd (dsUsh (x1 - (dsAnd (dsUsh x1 1) 1431655765)) 2) 858993459)) + (dsUsh ((dsAnd (x1 - (dsAnd (dsUsh x1 1) 1431655765)) 858993459) + (dsAnd (dsUsh (x1 - (dsAnd (dsUsh x1 1) 1431655765)) 2) 858993459)) 4)) 252645135) + (dsUsh (dsAnd (((dsAnd (x1 - (dsAnd (dsUsh x1 1) 1431655765)) 858993459) + (dsAnd (dsUsh (x1 - (dsAnd (dsUsh x1 1) 1431655765)) 2) 858993459)) + (dsUsh ((dsAnd (x1 - (dsAnd (dsUsh x1 1) 1431655765)) 858993459) + (dsAnd (dsUsh (x1 - (dsAnd (dsUsh x1 1) 1431655765)) 2) 858993459)) 4)) 252645135) 8)) + (dsUsh ((dsAnd (((dsAnd (x1 - (dsAnd (dsUsh x1 1) 1431655765)) 858993459) + (dsAnd (dsUsh (x1 - (dsAnd (dsUsh x1 1) 1431655765)) 2) 858993459)) + (dsUsh ((dsAnd (x1 - (dsAnd (dsUsh x1 1) 1431655765)) 858993459) + (dsAnd (dsUsh (x1 - (dsAnd (dsUsh x1 1) 1431655765)) 2) 858993459)) 4)) 252645135) + (dsUsh (dsAnd (((dsAnd (x1 - (dsAnd (dsUsh x1 1) 1431655765)) 858993459) + (dsAnd (dsUsh (x1 - (dsAnd (dsUsh x1 1) 1431655765)) 2) 858993459)) + (dsUsh ((dsAnd (x1 - (dsAnd (dsUsh x1 1) 1431655765)) 858993459) + (dsAnd (dsUsh (x1 - (dsAnd (dsUsh x1 1) 1431655765)) 2) 858993459)) 4)) 252645135) 8)) 16)) ∧ (((dsAnd (((dsAnd (x1 - (dsAnd (dsUsh x1 1) 1431655765)) 858993459) + (dsAnd (dsUsh (x1 - (dsAnd (dsUsh x1 1) 1431655765)) 2) 858993459)) + (dsUsh ((dsAnd (x1 - (dsAnd (dsUsh x1 1) 1431655765)) 858993459) + (dsAnd (dsUsh (x1 - (dsAnd (dsUsh x1 1) 1431655765)) 2) 858993459)) 4)) 252645135) + (dsUsh (dsAnd (((dsAnd (x1 - (dsAnd (dsUsh x1 1) 1431655765)) 858993459) + (dsAnd (dsUsh (x1 - (dsAnd (dsUsh x1 1) 1431655765)) 2) 858993459)) + (dsUsh ((dsAnd (x1 - (dsAnd (dsUsh x1 1) 1431655765)) 858993459) + (dsAnd (dsUsh (x1 - (dsAnd (dsUsh x1 1) 1431655765)) 2) 858993459)) 4)) 252645135) 8)) + (dsUsh ((dsAnd (((dsAnd (x1 - (dsAnd (dsUsh x1 1) 1431655765)) 858993459) + (dsAnd (dsUsh (x1 - (dsAnd (dsUsh x1 1) 1431655765)) 2) 858993459)) + (dsUsh ((dsAnd (x1 - (dsAnd (dsUsh x1 1) 1431655765)) 858993459) + (dsAnd (dsUsh (x1 - (dsAnd (dsUsh x1 1) 1431655765)) 2) 858993459)) 4)) 252645135) + (dsUsh (dsAnd (((dsAnd (x1 - (dsAnd (dsUsh x1 1) 1431655765)) 858993459) + (dsAnd (dsUsh (x1 - (dsAnd (dsUsh x1 1) 1431655765)) 2) 858993459)) + (dsUsh ((dsAnd (x1 - (dsAnd (dsUsh x1 1) 1431655765)) 858993459) + (dsAnd (dsUsh (x1 - (dsAnd (dsUsh x1 1) 1431655765)) 2) 858993459)) 4)) 252645135) 8)) 16)) < 2147483648 := by intros; omega) (k1 : ((v333 M x1) ≤ x2) → bB 172 59 [uR 10 0, uI x1, uI 0, uX 0, uX 0] [] M Q) (s6 : (¬ (v333 M x1) ≤ x2) → -9223372036854775808 ≤ ((M 81 1) * 10) ∧ ((M 81 1) * 10) < 9223372036854775808 := by intros; omega) (s7 : (¬ (v333 M x1) ≤ x2) → -2147483648 ≤ x2 + 1 ∧ x2 + 1 < 2147483648 := by intros; omega) (k2 : (¬ (v333 M x1) ≤ x2) → bB 172 28 [uR 10 0, uI x1, uI (x2 + 1), uX 0, uX 0] [] (dsSet M 81 1 ((M 81 1) * 10)) Q) :
    bB 172 28 [uR 10 0, uI x1, uI x2, uX 0, uX 0] [] M Q := by
  refine b_iload_n (d172 (j := 14) rfl) rfl ?_
  refine b_iload_n (d172 (j := 15) rfl) rfl ?_
  refine b_callS (d172 (j := 16) rfl) (Or.inl rfl) rfl (bCk_mk (n := 1) (k := 1) (by decide +kernel) rfl rfl) (fx333 s1 s2 s3 s4 s5 ?_)
  refine b_stk [uI (v333 M x1), uI x2] rfl ?_
  refine b_icmp_ge (d172 (j := 17) rfl) (fun c1 => ?_) (fun c1 => ?_)
  ·
    refine b_iconst (d172 (j := 27) rfl) (by decide) ?_
    refine b_istore_n [uR 10 0, uI x1, uI 0, uX 0, uX 0] (d172 (j := 28) rfl) (by decide) rfl ?_
    exact (k1 c1)
  ·
    refine b_aload_n (d172 (j := 18) rfl) rfl ?_
    refine b_getR (d172 (j := 19) rfl) rfl rfl rfl rfl ?_
    refine b_stk [uR 8 81] rfl ?_
    refine b_dup (d172 (j := 20) rfl) rfl ?_
    refine b_getJ (d172 (j := 21) rfl) rfl rfl rfl rfl rfl ?_
    refine b_stk [uJ (M 81 1), uR 8 81] rfl ?_
    refine b_ldc2 (d172 (j := 22) rfl) rfl ?_
    refine b_lmul (d172 (j := 23) rfl) rfl rfl ?_
    refine b_stk [uJ ((M 81 1) * 10), uR 8 81] (by rw [dsw64_r (s6 c1)]) ?_
    refine b_putJ (d172 (j := 24) rfl) rfl ⟨rfl, rfl⟩ rfl rfl ?_
    refine b_iinc [uR 10 0, uI x1, uI (x2 + 1), uX 0, uX 0] (d172 (j := 25) rfl) rfl (by decide) (s7 c1) rfl ?_
    refine b_goto (d172 (j := 26) rfl) ?_
    exact (k2 c1)
set_option maxRecDepth 100000 in
set_option maxHeartbeats 4000000 in
theorem r172_59 {x1 x2 : Int} {R1 : dsMem → Prop} {R2 : dsMem → dsMem → Prop} {g2 : dsMem → dsMem → Int} {R3 : dsMem → dsMem → dsMem → Prop} {M : dsMem} {Q : bQT} (k1 : ((dsShl 1 (M 30 0)) ≤ x2) → Q [] (dsSet M 81 0 1)) (s1 : (¬ (dsShl 1 (M 30 0)) ≤ x2) → (¬ (dsAnd x2 (dsXor x1 (-1))) = 0) → -2147483648 ≤ x2 + 1 ∧ x2 + 1 < 2147483648 := by intros; omega) (k2 : (¬ (dsShl 1 (M 30 0)) ≤ x2) → (¬ (dsAnd x2 (dsXor x1 (-1))) = 0) → bB 172 59 [uR 10 0, uI x1, uI (x2 + 1), uX 0, uX 0] [] M Q) (s2 : (¬ (dsShl 1 (M 30 0)) ≤ x2) → ((dsAnd x2 (dsXor x1 (-1))) = 0) → ∀ i173_1 : Int, ∀ a173_1 : Int, 0 ≤ i173_1 → i173_1 < 8 → -2147483648 ≤ i173_1 + 1 ∧ i173_1 + 1 < 2147483648 := by intros; omega) (s3 : (¬ (dsShl 1 (M 30 0)) ≤ x2) → ((dsAnd x2 (dsXor x1 (-1))) = 0) → ∀ i173_1 : Int, ∀ a173_1 : Int, 0 ≤ i173_1 → i173_1 < 8 → ((dsAnd (dsShr x1 i173_1) 1 = 1)) → (¬ (dsAnd (dsShr x2 i173_1) 1 = 1)) → -2147483648 ≤ (10 - (M 24 3)) ∧ (10 - (M 24 3)) < 2147483648 := by intros; omega) (s4 : (¬ (dsShl 1 (M 30 0)) ≤ x2) → ((dsAnd x2 (dsXor x1 (-1))) = 0) → ((v173 M x2 x1) ≤ 0) → -2147483648 ≤ x2 + 1 ∧ x2 + 1 < 2147483648 := by intros; omega) (k3 : (¬ (dsShl 1 (M 30 0)) ≤ x2) → ((dsAnd x2 (dsXor x1 (-1))) = 0) → ((v173 M x2 x1) ≤ 0) → bB 172 59 [uR 10 0, uI x1, uI (x2 + 1), uX 0, uX 0] [] M Q) (hA1 : (¬ (dsShl 1 (M 30 0)) ≤ x2) → ((dsAnd x2 (dsXor x1 (-1))) = 0) → (¬ (v173 M x2 x1) ≤ 0) → bCt 158 [uR 10 0] M (fun _ => [uR 0 63]) R1) (hA2 : (¬ (dsShl 1 (M 30 0)) ≤ x2) → ((dsAnd x2 (dsXor x1 (-1))) = 0) → (¬ (v173 M x2 x1) ≤ 0) → ∀ M1 : dsMem, R1 M1 → bCt 7 [uR 5 62, uI 0, uI 0, uX 0, uX 0] (dsSet M1 63 1 x2) (fun M2 => [uI (g2 M1 M2)]) (R2 M1)) (s5 : (¬ (dsShl 1 (M 30 0)) ≤ x2) → ((dsAnd x2 (dsXor x1 (-1))) = 0) → (¬ (v173 M x2 x1) ≤ 0) → ∀ M1 : dsMem, R1 M1 → ∀ M2 : dsMem, R2 M1 M2 → 0 ≤ (M2 24 1) ∧ (M2 24 1) < 13 := by intros; omega) (s6 : (¬ (dsShl 1 (M 30 0)) ≤ x2) → ((dsAnd x2 (dsXor x1 (-1))) = 0) → (¬ (v173 M x2 x1) ≤ 0) → ∀ M1 : dsMem, R1 M1 → ∀ M2 : dsMem, R2 M1 M2 → ∀ i24_1 : Int, ∀ a24_1 : Int, 0 ≤ i24_1 → i24_1 < (M2 24 5) → -2147483648 ≤ (((M2 24 1) * 6) + i24_1) ∧ (((M2 24 1) * 6) + i24_1) < 2147483648 := by intros; omega) (s7 : (¬ (dsShl 1 (M 30 0)) ≤ x2) → ((dsAnd x2 (dsXor x1 (-1))) = 0) → (¬ (v173 M x2 x1) ≤ 0) → ∀ M1 : dsMem, R1 M1 → ∀ M2 : dsMem, R2 M1 M2 → ∀ i24_1 : Int, ∀ a24_1 : Int, 0 ≤ i24_1 → i24_1 < (M2 24 5) → 0 ≤ (((M2 24 1) * 6) + i24_1) ∧ (((M2 24 1) * 6) + i24_1) < 78 := by intros; omega) (s8 : (¬ (dsShl 1 (M 30 0)) ≤ x2) → ((dsAnd x2 (dsXor x1 (-1))) = 0) → (¬ (v173 M x2 x1) ≤ 0) → ∀ M1 : dsMem, R1 M1 → ∀ M2 : dsMem, R2 M1 M2 → ∀ i24_1 : Int, ∀ a24_1 : Int, 0 ≤ i24_1 → i24_1 < (M2 24 5) → -2147483648 ≤ i24_1 + 1 ∧ i24_1 + 1 < 2147483648 := by intros; omega) (hA3 : (¬ (dsShl 1 (M 30 0)) ≤ x2) → ((dsAnd x2 (dsXor x1 (-1))) = 0) → (¬ (v173 M x2 x1) ≤ 0) → ∀ M1 : dsMem, R1 M1 → ∀ M2 : dsMem, R2 M1 M2 → bCt 38 [uR 8 81, uJ (v173 M x2 x1), uX 0, uI (M2 69 (M2 24 1)), uI (v24 M2 62 (M2 24 1)), uX 0] M2 (fun _ => []) (R3 M1 M2)) (s9 : (¬ (dsShl 1 (M 30 0)) ≤ x2) → ((dsAnd x2 (dsXor x1 (-1))) = 0) → (¬ (v173 M x2 x1) ≤ 0) → ∀ M1 : dsMem, R1 M1 → ∀ M2 : dsMem, R2 M1 M2 → ∀ M3 : dsMem, R3 M1 M2 M3 → -2147483648 ≤ x2 + 1 ∧ x2 + 1 < 2147483648 := by intros; omega) (k4 : (¬ (dsShl 1 (M 30 0)) ≤ x2) → ((dsAnd x2 (dsXor x1 (-1))) = 0) → (¬ (v173 M x2 x1) ≤ 0) → ∀ M1 : dsMem, R1 M1 → ∀ M2 : dsMem, R2 M1 M2 → ∀ M3 : dsMem, R3 M1 M2 M3 → bB 172 59 [uR 10 0, uI x1, uI (x2 + 1), uX 0, uX 0] [] M3 Q) :
    bB 172 59 [uR 10 0, uI x1, uI x2, uX 0, uX 0] [] M Q := by
  refine b_iload_n (d172 (j := 29) rfl) rfl ?_
  refine b_iconst (d172 (j := 30) rfl) (by decide) ?_
  refine b_aload_n (d172 (j := 31) rfl) rfl ?_
  refine b_getR (d172 (j := 32) rfl) rfl rfl rfl rfl ?_
  refine b_stk [uR 4 24, uI 1, uI x2] rfl ?_
  refine b_getR (d172 (j := 33) rfl) rfl rfl rfl rfl ?_
  refine b_stk [uR 1 30, uI 1, uI x2] rfl ?_
  refine b_getI (d172 (j := 34) rfl) rfl rfl rfl rfl (Or.inl rfl) ?_
  refine b_stk [uI (M 30 0), uI 1, uI x2] rfl ?_
  refine b_ishl (d172 (j := 35) rfl) ?_
  refine b_icmp_ge (d172 (j := 36) rfl) (fun c1 => ?_) (fun c1 => ?_)
  ·
    refine b_aload_n (d172 (j := 83) rfl) rfl ?_
    refine b_getR (d172 (j := 84) rfl) rfl rfl rfl rfl ?_
    refine b_stk [uR 8 81] rfl ?_
    refine b_iconst (d172 (j := 85) rfl) (by decide) ?_
    refine b_putZ (d172 (j := 86) rfl) rfl ⟨rfl, rfl⟩ rfl rfl (by decide) ?_
    exact b_vret (d172 (j := 87) rfl) rfl (k1 c1)
  ·
    refine b_iload_n (d172 (j := 37) rfl) rfl ?_
    refine b_iload_n (d172 (j := 38) rfl) rfl ?_
    refine b_iconst (d172 (j := 39) rfl) (by decide) ?_
    refine b_ixor (d172 (j := 40) rfl) ?_
    refine b_iand (d172 (j := 41) rfl) ?_
    refine b_if_ne (d172 (j := 42) rfl) (fun c2 => ?_) (fun c2 => ?_)
    ·
      refine b_lconst (d172 (j := 48) rfl) ?_
      refine b_stk [uJ 0] rfl ?_
      refine b_lstore_n [uR 10 0, uI x1, uI x2, uJ 0, uX 0] (d172 (j := 49) rfl) (by decide) rfl ?_
      refine b_lload_n (d172 (j := 50) rfl) rfl ?_
      refine b_lconst (d172 (j := 51) rfl) ?_
      refine b_stk [uJ 0, uJ 0] rfl ?_
      refine b_lcmp (d172 (j := 52) rfl) ?_
      refine b_lif_le (d172 (j := 53) rfl) (fun _ => ?_) (fun q => absurd q (by decide))
      refine b_iinc [uR 10 0, uI x1, uI (x2 + 1), uJ 0, uX 0] (d172 (j := 81) rfl) rfl (by decide) (s1 c1 c2) rfl ?_
      refine b_goto (d172 (j := 82) rfl) ?_
      exact bB_le _ (bLe_s (bLe_s (bLe_s (bLe_x (bLe_s bLe_nil))))) (k2 c1 c2)
    ·
      refine b_aload_n (d172 (j := 43) rfl) rfl ?_
      refine b_iload_n (d172 (j := 44) rfl) rfl ?_
      refine b_iload_n (d172 (j := 45) rfl) rfl ?_
      refine b_callV (d172 (j := 46) rfl) rfl rfl (Or.inl rfl) rfl (bCk_mk (n := 0) (k := 3) (by decide +kernel) rfl rfl) (fx173 (s2 c1 c2) (s3 c1 c2) ?_)
      refine b_stk [uJ (v173 M x2 x1)] rfl ?_
      refine b_goto (d172 (j := 47) rfl) ?_
      refine b_lstore_n [uR 10 0, uI x1, uI x2, uJ (v173 M x2 x1), uX 0] (d172 (j := 49) rfl) (by decide) rfl ?_
      refine b_lload_n (d172 (j := 50) rfl) rfl ?_
      refine b_lconst (d172 (j := 51) rfl) ?_
      refine b_stk [uJ 0, uJ (v173 M x2 x1)] rfl ?_
      refine b_lcmp (d172 (j := 52) rfl) ?_
      refine b_lif_le (d172 (j := 53) rfl) (fun c4 => ?_) (fun c4 => ?_)
      ·
        refine b_iinc [uR 10 0, uI x1, uI (x2 + 1), uJ (v173 M x2 x1), uX 0] (d172 (j := 81) rfl) rfl (by decide) (s4 c1 c2 c4) rfl ?_
        refine b_goto (d172 (j := 82) rfl) ?_
        exact bB_le _ (bLe_s (bLe_s (bLe_s (bLe_x (bLe_s bLe_nil))))) (k3 c1 c2 c4)
      ·
        refine b_aload_n (d172 (j := 54) rfl) rfl ?_
        refine b_callV (d172 (j := 55) rfl) rfl rfl (Or.inl rfl) rfl (bCk_mk (n := 0) (k := 1) (by decide +kernel) rfl rfl) ((hA1 c1 c2 c4) _ (fun M1 hR1 => ?_))
        refine b_stk [uR 0 63] rfl ?_
        refine b_iload_n (d172 (j := 56) rfl) rfl ?_
        refine b_putI (d172 (j := 57) rfl) rfl ⟨rfl, rfl⟩ rfl rfl ?_
        refine b_aload_n (d172 (j := 58) rfl) rfl ?_
        refine b_getR (d172 (j := 59) rfl) rfl rfl rfl rfl ?_
        refine b_stk [uR 5 62] rfl ?_
        refine b_iconst (d172 (j := 60) rfl) (by decide) ?_
        refine b_iconst (d172 (j := 61) rfl) (by decide) ?_
        refine b_callV (d172 (j := 62) rfl) rfl rfl (Or.inl rfl) rfl (bCk_mk (n := 0) (k := 3) (by decide +kernel) rfl rfl) ((hA2 c1 c2 c4 M1 hR1) _ (fun M2 hR2 => ?_))
        refine b_stk [uI (g2 M1 M2)] rfl ?_
        refine b_pop (d172 (j := 63) rfl) rfl ?_
        refine b_aload_n (d172 (j := 64) rfl) rfl ?_
        refine b_getR (d172 (j := 65) rfl) rfl rfl rfl rfl ?_
        refine b_stk [uR 8 81] rfl ?_
        refine b_lload_n (d172 (j := 66) rfl) rfl ?_
        refine b_aload_n (d172 (j := 67) rfl) rfl ?_
        refine b_getR (d172 (j := 68) rfl) rfl rfl rfl rfl ?_
        refine b_stk [uR 5 62, uJ (v173 M x2 x1), uR 8 81] rfl ?_
        refine b_getR (d172 (j := 69) rfl) rfl rfl rfl rfl ?_
        refine b_stk [uR 27 69, uJ (v173 M x2 x1), uR 8 81] rfl ?_
        refine b_aload_n (d172 (j := 70) rfl) rfl ?_
        refine b_getR (d172 (j := 71) rfl) rfl rfl rfl rfl ?_
        refine b_stk [uR 4 24, uR 27 69, uJ (v173 M x2 x1), uR 8 81] rfl ?_
        refine b_getI (d172 (j := 72) rfl) rfl rfl rfl rfl (Or.inl rfl) ?_
        refine b_stk [uI (M2 24 1), uR 27 69, uJ (v173 M x2 x1), uR 8 81] rfl ?_
        refine b_iaload (d172 (j := 73) rfl) rfl (s5 c1 c2 c4 M1 hR1 M2 hR2) ?_
        refine b_aload_n (d172 (j := 74) rfl) rfl ?_
        refine b_getR (d172 (j := 75) rfl) rfl rfl rfl rfl ?_
        refine b_stk [uR 5 62, uI (M2 69 (M2 24 1)), uJ (v173 M x2 x1), uR 8 81] rfl ?_
        refine b_aload_n (d172 (j := 76) rfl) rfl ?_
        refine b_getR (d172 (j := 77) rfl) rfl rfl rfl rfl ?_
        refine b_stk [uR 4 24, uR 5 62, uI (M2 69 (M2 24 1)), uJ (v173 M x2 x1), uR 8 81] rfl ?_
        refine b_getI (d172 (j := 78) rfl) rfl rfl rfl rfl (Or.inl rfl) ?_
        refine b_stk [uI (M2 24 1), uR 5 62, uI (M2 69 (M2 24 1)), uJ (v173 M x2 x1), uR 8 81] rfl ?_
        refine b_callV (d172 (j := 79) rfl) rfl rfl (Or.inl rfl) rfl (bCk_mk (n := 4) (k := 2) (by decide +kernel) rfl rfl) (fx24 (s6 c1 c2 c4 M1 hR1 M2 hR2) (s7 c1 c2 c4 M1 hR1 M2 hR2) (s8 c1 c2 c4 M1 hR1 M2 hR2) ?_)
        refine b_stk [uI (v24 M2 62 (M2 24 1)), uI (M2 69 (M2 24 1)), uJ (v173 M x2 x1), uR 8 81] rfl ?_
        refine b_callV (d172 (j := 80) rfl) rfl rfl (Or.inl rfl) rfl (bCk_mk (n := 0) (k := 5) (by decide +kernel) rfl rfl) ((hA3 c1 c2 c4 M1 hR1 M2 hR2) _ (fun M3 hR3 => ?_))
        refine b_stk [] rfl ?_
        refine b_iinc [uR 10 0, uI x1, uI (x2 + 1), uJ (v173 M x2 x1), uX 0] (d172 (j := 81) rfl) rfl (by decide) (s9 c1 c2 c4 M1 hR1 M2 hR2 M3 hR3) rfl ?_
        refine b_goto (d172 (j := 82) rfl) ?_
        exact bB_le _ (bLe_s (bLe_s (bLe_s (bLe_x (bLe_s bLe_nil))))) (k4 c1 c2 c4 M1 hR1 M2 hR2 M3 hR3)
def L175 : List (Nat × Instr × Nat × Nat) := [(0, .aload_n 0, 1, 0), (1, .invokevirtual 252, 4, 0), (4, .aload_n 0, 5, 0), (5, .iload_n 1, 6, 0), (6, .invokevirtual 356, 9, 0), (9, .putfield 256, 12, 0), (12, .aload_n 0, 13, 0), (13, .invokevirtual 261, 16, 0), (16, .ireturn, 17, 0)]
set_option maxRecDepth 100000 in
theorem L175_ok : L175.all (dck 175) = true := by decide +kernel
theorem d175 {j pc nx tg : Nat} {ins : Instr} (hj : L175[j]? = some (pc, ins, nx, tg)) : dcd 175 pc ins nx tg := dcl_ok L175_ok hj
set_option maxRecDepth 100000 in
set_option maxHeartbeats 4000000 in
theorem r175_0 {x1 : Int} {R1 : dsMem → Prop} {R2 : dsMem → dsMem → Prop} {g2 : dsMem → dsMem → Int} {M : dsMem} {Q : bQT} (hA1 : bCt 158 [uR 10 0] M (fun _ => [uR 0 63]) R1) (s1 : ∀ M1 : dsMem, R1 M1 → ∀ i174_1 : Int, ∀ a174_1 : Int × Int, 0 ≤ i174_1 → i174_1 < (M1 30 0) → 0 ≤ (dsw64 (((1103515245 * (a174_1.1)) + 12345))) ∧ (0 : Int) < 2147483648 := by intros; omega) (s2 : ∀ M1 : dsMem, R1 M1 → ∀ i174_1 : Int, ∀ a174_1 : Int × Int, 0 ≤ i174_1 → i174_1 < (M1 30 0) → (0 ≤ ((dsw64 (((1103515245 * (a174_1.1)) + 12345))) % 2147483648) ∧ ((dsw64 (((1103515245 * (a174_1.1)) + 12345))) % 2147483648) < 9223372036854775808) ∧ (0 : Int) < 65536 := by intros; omega) (s3 : ∀ M1 : dsMem, R1 M1 → ∀ i174_1 : Int, ∀ a174_1 : Int × Int, 0 ≤ i174_1 → i174_1 < (M1 30 0) → 0 ≤ (((dsw64 (((1103515245 * (a174_1.1)) + 12345))) % 2147483648) / 65536) ∧ (0 : Int) < 10 := by intros; omega) (s4 : ∀ M1 : dsMem, R1 M1 → ∀ i174_1 : Int, ∀ a174_1 : Int × Int, 0 ≤ i174_1 → i174_1 < (M1 30 0) → -2147483648 ≤ i174_1 + 1 ∧ i174_1 + 1 < 2147483648 := by intros; omega) (hA2 : ∀ M1 : dsMem, R1 M1 → bCt 159 [uR 10 0] (dsSet M1 63 1 (v174 M1 x1)) (fun M2 => [uI (g2 M1 M2)]) (R2 M1)) (k1 : ∀ M1 : dsMem, R1 M1 → ∀ M2 : dsMem, R2 M1 M2 → Q [uI (g2 M1 M2)] M2) :
    bB 175 0 [uR 10 0, uI x1] [] M Q := by
  refine b_aload_n (d175 (j := 0) rfl) rfl ?_
  refine b_callV (d175 (j := 1) rfl) rfl rfl (Or.inl rfl) rfl (bCk_mk (n := 0) (k := 1) (by decide +kernel) rfl rfl) ((hA1) _ (fun M1 hR1 => ?_))
  refine b_stk [uR 0 63] rfl ?_
  refine b_aload_n (d175 (j := 2) rfl) rfl ?_
  refine b_iload_n (d175 (j := 3) rfl) rfl ?_
  refine b_callV (d175 (j := 4) rfl) rfl rfl (Or.inl rfl) rfl (bCk_mk (n := 1) (k := 2) (by decide +kernel) rfl rfl) (fx174 (s1 M1 hR1) (s2 M1 hR1) (s3 M1 hR1) (s4 M1 hR1) ?_)
  refine b_stk [uI (v174 M1 x1), uR 0 63] rfl ?_
  refine b_putI (d175 (j := 5) rfl) rfl ⟨rfl, rfl⟩ rfl rfl ?_
  refine b_aload_n (d175 (j := 6) rfl) rfl ?_
  refine b_callV (d175 (j := 7) rfl) rfl rfl (Or.inl rfl) rfl (bCk_mk (n := 0) (k := 1) (by decide +kernel) rfl rfl) ((hA2 M1 hR1) _ (fun M2 hR2 => ?_))
  refine b_stk [uI (g2 M1 M2)] rfl ?_
  exact b_iret (d175 (j := 8) rfl) rfl (k1 M1 hR1 M2 hR2)
