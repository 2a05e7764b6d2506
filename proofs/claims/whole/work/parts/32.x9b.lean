def L249 : List (Nat × Instr × Nat × Nat) := [(0, .aload_n 0, 1, 0), (1, .iload_n 2, 2, 0), (2, .invokevirtual 382, 5, 0), (5, .ifCond .eq 29, 8, 34), (8, .aload_n 0, 9, 0), (9, .iload_n 1, 10, 0), (10, .i2l, 11, 0), (11, .invokevirtual 268, 14, 0), (14, .ifCond .eq 20, 17, 34), (17, .iload_n 3, 18, 0), (18, .invokestatic 385, 21, 0), (21, .ifCond .eq 13, 24, 34), (24, .aload_n 0, 25, 0), (25, .iload_n 1, 26, 0), (26, .iload_n 2, 27, 0), (27, .iload_n 3, 28, 0), (28, .invokevirtual 388, 31, 0), (31, .goto 5, 34, 36), (34, .bipush (-2), 36, 0), (36, .ireturn, 37, 0)]
set_option maxRecDepth 100000 in
theorem L249_ok : L249.all (dck 249) = true := by decide +kernel
theorem d249 {j pc nx tg : Nat} {ins : Instr} (hj : L249[j]? = some (pc, ins, nx, tg)) : dcd 249 pc ins nx tg := dcl_ok L249_ok hj
set_option maxRecDepth 100000 in
set_option maxHeartbeats 4000000 in
theorem r249_0 {x1 x2 x3 : Int} {R1 : dsMem → Prop} {g1 : dsMem → Int} {M : dsMem} {Q : bQT} (hA1 : bCt 236 [uR 11 84, uI x2] M (fun M1 => [uI (g1 M1)]) R1) (k1 : ∀ M1 : dsMem, R1 M1 → ((g1 M1) = 0) → Q [uI (-2)] M1) (s1 : ∀ M1 : dsMem, R1 M1 → (¬ (g1 M1) = 0) → -2147483648 ≤ ((M1 85 4) - 1) ∧ ((M1 85 4) - 1) < 2147483648 := by intros; omega) (k2 : ∀ M1 : dsMem, R1 M1 → (¬ (g1 M1) = 0) → (¬ (0 ≤ x1 ∧ x1 ≤ (M1 85 4) - 1)) → Q [uI (-2)] M1) (k3 : ∀ M1 : dsMem, R1 M1 → (¬ (g1 M1) = 0) → ((0 ≤ x1 ∧ x1 ≤ (M1 85 4) - 1)) → (¬ (1 ≤ x3 ∧ x3 ≤ 5)) → Q [uI (-2)] M1) (s2 : ∀ M1 : dsMem, R1 M1 → (¬ (g1 M1) = 0) → ((0 ≤ x1 ∧ x1 ≤ (M1 85 4) - 1)) → ((1 ≤ x3 ∧ x3 ≤ 5)) → -2147483648 ≤ ((6 * x2) + x1) ∧ ((6 * x2) + x1) < 2147483648 := by intros; omega) (s3 : ∀ M1 : dsMem, R1 M1 → (¬ (g1 M1) = 0) → ((0 ≤ x1 ∧ x1 ≤ (M1 85 4) - 1)) → ((1 ≤ x3 ∧ x3 ≤ 5)) → ∀ i248_1 : Int, ∀ a248_1 : Int, 0 ≤ i248_1 → i248_1 < (M1 103 ((6 * x2) + x1)) → 0 ≤ ((6 * x2) + x1) ∧ ((6 * x2) + x1) < 78 := by intros; omega) (s4 : ∀ M1 : dsMem, R1 M1 → (¬ (g1 M1) = 0) → ((0 ≤ x1 ∧ x1 ≤ (M1 85 4) - 1)) → ((1 ≤ x3 ∧ x3 ≤ 5)) → ∀ i248_1 : Int, ∀ a248_1 : Int, 0 ≤ i248_1 → i248_1 < (M1 103 ((6 * x2) + x1)) → 0 ≤ ((60 * ((6 * x2) + x1)) + i248_1) ∧ ((60 * ((6 * x2) + x1)) + i248_1) < 4680 := by intros; omega) (s5 : ∀ M1 : dsMem, R1 M1 → (¬ (g1 M1) = 0) → ((0 ≤ x1 ∧ x1 ≤ (M1 85 4) - 1)) → ((1 ≤ x3 ∧ x3 ≤ 5)) → ∀ i248_1 : Int, ∀ a248_1 : Int, 0 ≤ i248_1 → i248_1 < (M1 103 ((6 * x2) + x1)) → -2147483648 ≤ i248_1 + 1 ∧ i248_1 + 1 < 2147483648 := by intros; omega) (s6 : ∀ M1 : dsMem, R1 M1 → (¬ (g1 M1) = 0) → ((0 ≤ x1 ∧ x1 ≤ (M1 85 4) - 1)) → ((1 ≤ x3 ∧ x3 ≤ 5)) → 0 ≤ ((6 * x2) + x1) ∧ ((6 * x2) + x1) < 78 := by intros; omega) (k4 : ∀ M1 : dsMem, R1 M1 → (¬ (g1 M1) = 0) → ((0 ≤ x1 ∧ x1 ≤ (M1 85 4) - 1)) → ((1 ≤ x3 ∧ x3 ≤ 5)) → Q [uI (v248 M1 x1 x2 x3)] M1) :
    bB 249 0 [uR 11 84, uI x1, uI x2, uI x3] [] M Q := by
  refine b_aload_n (d249 (j := 0) rfl) rfl ?_
  refine b_iload_n (d249 (j := 1) rfl) rfl ?_
  refine b_callV (d249 (j := 2) rfl) rfl rfl (Or.inl rfl) rfl (bCk_mk (n := 0) (k := 2) (by decide +kernel) rfl rfl) ((hA1) _ (fun M1 hR1 => ?_))
  refine b_stk [uI (g1 M1)] rfl ?_
  refine b_if_eq (d249 (j := 3) rfl) (fun c1 => ?_) (fun c1 => ?_)
  ·
    refine b_bipush (d249 (j := 18) rfl) (by decide) ?_
    exact b_iret (d249 (j := 19) rfl) rfl (k1 M1 hR1 c1)
  ·
    refine b_aload_n (d249 (j := 4) rfl) rfl ?_
    refine b_iload_n (d249 (j := 5) rfl) rfl ?_
    refine b_i2l (d249 (j := 6) rfl) ?_
    refine b_callV (d249 (j := 7) rfl) rfl rfl (Or.inl rfl) rfl (bCk_mk (n := 0) (k := 3) (by decide +kernel) rfl rfl) (pu190 (s1 M1 hR1 c1) ?_)
    refine b_stk [uI (if (0 ≤ x1 ∧ x1 ≤ (M1 85 4) - 1) then 1 else 0)] rfl ?_
    refine b_ifeqP (d249 (j := 8) rfl) (fun c2 => ?_) (fun c2 => ?_)
    ·
      refine b_bipush (d249 (j := 18) rfl) (by decide) ?_
      exact b_iret (d249 (j := 19) rfl) rfl (k2 M1 hR1 c1 c2)
    ·
      refine b_iload_n (d249 (j := 9) rfl) rfl ?_
      refine b_callS (d249 (j := 10) rfl) (Or.inl rfl) rfl (bCk_mk (n := 0) (k := 1) (by decide +kernel) rfl rfl) (pu191  ?_)
      refine b_stk [uI (if (1 ≤ x3 ∧ x3 ≤ 5) then 1 else 0)] rfl ?_
      refine b_ifeqP (d249 (j := 11) rfl) (fun c3 => ?_) (fun c3 => ?_)
      ·
        refine b_bipush (d249 (j := 18) rfl) (by decide) ?_
        exact b_iret (d249 (j := 19) rfl) rfl (k3 M1 hR1 c1 c2 c3)
      ·
        refine b_aload_n (d249 (j := 12) rfl) rfl ?_
        refine b_iload_n (d249 (j := 13) rfl) rfl ?_
        refine b_iload_n (d249 (j := 14) rfl) rfl ?_
        refine b_iload_n (d249 (j := 15) rfl) rfl ?_
        refine b_callV (d249 (j := 16) rfl) rfl rfl (Or.inl rfl) rfl (bCk_mk (n := 0) (k := 4) (by decide +kernel) rfl rfl) (fx248 (s2 M1 hR1 c1 c2 c3) (s3 M1 hR1 c1 c2 c3) (s4 M1 hR1 c1 c2 c3) (s5 M1 hR1 c1 c2 c3) (s6 M1 hR1 c1 c2 c3) ?_)
        refine b_stk [uI (v248 M1 x1 x2 x3)] rfl ?_
        refine b_goto (d249 (j := 17) rfl) ?_
        exact b_iret (d249 (j := 19) rfl) rfl (k4 M1 hR1 c1 c2 c3)
def L250 : List (Nat × Instr × Nat × Nat) := [(0, .aload_n 0, 1, 0), (1, .iload_n 2, 2, 0), (2, .invokevirtual 382, 5, 0), (5, .ifCond .eq 12, 8, 17), (8, .aload_n 0, 9, 0), (9, .iload_n 1, 10, 0), (10, .i2l, 11, 0), (11, .invokevirtual 268, 14, 0), (14, .ifCond .ne 6, 17, 20), (17, .bipush (-2), 19, 0), (19, .ireturn, 20, 0), (20, .bipush 6, 22, 0), (22, .iload_n 2, 23, 0), (23, .imul, 24, 0), (24, .iload_n 1, 25, 0), (25, .iadd, 26, 0), (26, .istore_n 3, 27, 0), (27, .aload_n 0, 28, 0), (28, .getfield 70, 31, 0), (31, .iload_n 3, 32, 0), (32, .iaload, 33, 0), (33, .ifCond .ne 7, 36, 40), (36, .iconst 0, 37, 0), (37, .goto 21, 40, 58), (40, .aload_n 0, 41, 0), (41, .getfield 73, 44, 0), (44, .bipush 60, 46, 0), (46, .iload_n 3, 47, 0), (47, .imul, 48, 0), (48, .aload_n 0, 49, 0), (49, .getfield 70, 52, 0), (52, .iload_n 3, 53, 0), (53, .iaload, 54, 0), (54, .iadd, 55, 0), (55, .iconst 1, 56, 0), (56, .isub, 57, 0), (57, .iaload, 58, 0), (58, .ireturn, 59, 0)]
set_option maxRecDepth 100000 in
theorem L250_ok : L250.all (dck 250) = true := by decide +kernel
theorem d250 {j pc nx tg : Nat} {ins : Instr} (hj : L250[j]? = some (pc, ins, nx, tg)) : dcd 250 pc ins nx tg := dcl_ok L250_ok hj
set_option maxRecDepth 100000 in
set_option maxHeartbeats 4000000 in
theorem r250_0 {x1 x2 : Int} {R1 : dsMem → Prop} {g1 : dsMem → Int} {M : dsMem} {Q : bQT} (hA1 : bCt 236 [uR 11 84, uI x2] M (fun M1 => [uI (g1 M1)]) R1) (k1 : ∀ M1 : dsMem, R1 M1 → ((g1 M1) = 0) → Q [uI (-2)] M1) (s1 : ∀ M1 : dsMem, R1 M1 → (¬ (g1 M1) = 0) → -2147483648 ≤ ((M1 85 4) - 1) ∧ ((M1 85 4) - 1) < 2147483648 := by intros; omega) (s2 : ∀ M1 : dsMem, R1 M1 → (¬ (g1 M1) = 0) → ((0 ≤ x1 ∧ x1 ≤ (M1 85 4) - 1)) → -2147483648 ≤ ((6 * x2) + x1) ∧ ((6 * x2) + x1) < 2147483648 := by intros; omega) (s3 : ∀ M1 : dsMem, R1 M1 → (¬ (g1 M1) = 0) → ((0 ≤ x1 ∧ x1 ≤ (M1 85 4) - 1)) → 0 ≤ ((6 * x2) + x1) ∧ ((6 * x2) + x1) < 78 := by intros; omega) (s4 : ∀ M1 : dsMem, R1 M1 → (¬ (g1 M1) = 0) → ((0 ≤ x1 ∧ x1 ≤ (M1 85 4) - 1)) → (¬ (M1 103 ((6 * x2) + x1)) = 0) → 0 ≤ (((60 * ((6 * x2) + x1)) + (M1 103 ((6 * x2) + x1))) - 1) ∧ (((60 * ((6 * x2) + x1)) + (M1 103 ((6 * x2) + x1))) - 1) < 4680 := by intros; omega) (k2 : ∀ M1 : dsMem, R1 M1 → (¬ (g1 M1) = 0) → ((0 ≤ x1 ∧ x1 ≤ (M1 85 4) - 1)) → (¬ (M1 103 ((6 * x2) + x1)) = 0) → Q [uI (M1 104 (((60 * ((6 * x2) + x1)) + (M1 103 ((6 * x2) + x1))) - 1))] M1) (k3 : ∀ M1 : dsMem, R1 M1 → (¬ (g1 M1) = 0) → ((0 ≤ x1 ∧ x1 ≤ (M1 85 4) - 1)) → ((M1 103 ((6 * x2) + x1)) = 0) → Q [uI 0] M1) (k4 : ∀ M1 : dsMem, R1 M1 → (¬ (g1 M1) = 0) → (¬ (0 ≤ x1 ∧ x1 ≤ (M1 85 4) - 1)) → Q [uI (-2)] M1) :
    bB 250 0 [uR 11 84, uI x1, uI x2, uX 0] [] M Q := by
  refine b_aload_n (d250 (j := 0) rfl) rfl ?_
  refine b_iload_n (d250 (j := 1) rfl) rfl ?_
  refine b_callV (d250 (j := 2) rfl) rfl rfl (Or.inl rfl) rfl (bCk_mk (n := 0) (k := 2) (by decide +kernel) rfl rfl) ((hA1) _ (fun M1 hR1 => ?_))
  refine b_stk [uI (g1 M1)] rfl ?_
  refine b_if_eq (d250 (j := 3) rfl) (fun c1 => ?_) (fun c1 => ?_)
  ·
    refine b_bipush (d250 (j := 9) rfl) (by decide) ?_
    exact b_iret (d250 (j := 10) rfl) rfl (k1 M1 hR1 c1)
  ·
    refine b_aload_n (d250 (j := 4) rfl) rfl ?_
    refine b_iload_n (d250 (j := 5) rfl) rfl ?_
    refine b_i2l (d250 (j := 6) rfl) ?_
    refine b_callV (d250 (j := 7) rfl) rfl rfl (Or.inl rfl) rfl (bCk_mk (n := 0) (k := 3) (by decide +kernel) rfl rfl) (pu190 (s1 M1 hR1 c1) ?_)
    refine b_stk [uI (if (0 ≤ x1 ∧ x1 ≤ (M1 85 4) - 1) then 1 else 0)] rfl ?_
    refine b_ifneP (d250 (j := 8) rfl) (fun c2 => ?_) (fun c2 => ?_)
    ·
      refine b_bipush (d250 (j := 11) rfl) (by decide) ?_
      refine b_iload_n (d250 (j := 12) rfl) rfl ?_
      refine b_imul (d250 (j := 13) rfl) rfl rfl ?_
      refine b_iload_n (d250 (j := 14) rfl) rfl ?_
      refine b_iadd (d250 (j := 15) rfl) (dsw_dsw _) rfl ?_
      refine b_stk [uI ((6 * x2) + x1)] (by rw [dsw_r (s2 M1 hR1 c1 c2)]) ?_
      refine b_istore_n [uR 11 84, uI x1, uI x2, uI ((6 * x2) + x1)] (d250 (j := 16) rfl) (by decide) rfl ?_
      refine b_aload_n (d250 (j := 17) rfl) rfl ?_
      refine b_getR (d250 (j := 18) rfl) rfl rfl rfl rfl ?_
      refine b_stk [uR 25 103] rfl ?_
      refine b_iload_n (d250 (j := 19) rfl) rfl ?_
      refine b_iaload (d250 (j := 20) rfl) rfl (s3 M1 hR1 c1 c2) ?_
      refine b_if_ne (d250 (j := 21) rfl) (fun c3 => ?_) (fun c3 => ?_)
      ·
        refine b_aload_n (d250 (j := 24) rfl) rfl ?_
        refine b_getR (d250 (j := 25) rfl) rfl rfl rfl rfl ?_
        refine b_stk [uR 24 104] rfl ?_
        refine b_bipush (d250 (j := 26) rfl) (by decide) ?_
        refine b_iload_n (d250 (j := 27) rfl) rfl ?_
        refine b_imul (d250 (j := 28) rfl) rfl rfl ?_
        refine b_aload_n (d250 (j := 29) rfl) rfl ?_
        refine b_getR (d250 (j := 30) rfl) rfl rfl rfl rfl ?_
        refine b_stk [uR 25 103, uI (dsw ((60 * ((6 * x2) + x1)))), uR 24 104] rfl ?_
        refine b_iload_n (d250 (j := 31) rfl) rfl ?_
        refine b_iaload (d250 (j := 32) rfl) rfl (s3 M1 hR1 c1 c2) ?_
        refine b_iadd (d250 (j := 33) rfl) (dsw_dsw _) rfl ?_
        refine b_iconst (d250 (j := 34) rfl) (by decide) ?_
        refine b_isub (d250 (j := 35) rfl) (dsw_dsw _) rfl ?_
        refine b_stk [uI (((60 * ((6 * x2) + x1)) + (M1 103 ((6 * x2) + x1))) - 1), uR 24 104] (by rw [dsw_b (s4 M1 hR1 c1 c2 c3) (by decide)]) ?_
        refine b_iaload (d250 (j := 36) rfl) rfl (s4 M1 hR1 c1 c2 c3) ?_
        exact b_iret (d250 (j := 37) rfl) rfl (k2 M1 hR1 c1 c2 c3)
      ·
        refine b_iconst (d250 (j := 22) rfl) (by decide) ?_
        refine b_goto (d250 (j := 23) rfl) ?_
        exact b_iret (d250 (j := 37) rfl) rfl (k3 M1 hR1 c1 c2 c3)
    ·
      refine b_bipush (d250 (j := 9) rfl) (by decide) ?_
      exact b_iret (d250 (j := 10) rfl) rfl (k4 M1 hR1 c1 c2)
def L251 : List (Nat × Instr × Nat × Nat) := [(0, .aload_n 0, 1, 0), (1, .iload_n 2, 2, 0), (2, .invokevirtual 382, 5, 0), (5, .ifCond .eq 12, 8, 17), (8, .aload_n 0, 9, 0), (9, .iload_n 1, 10, 0), (10, .i2l, 11, 0), (11, .invokevirtual 268, 14, 0), (14, .ifCond .ne 6, 17, 20), (17, .bipush (-2), 19, 0), (19, .ireturn, 20, 0), (20, .bipush 6, 22, 0), (22, .iload_n 2, 23, 0), (23, .imul, 24, 0), (24, .iload_n 1, 25, 0), (25, .iadd, 26, 0), (26, .istore_n 3, 27, 0), (27, .aload_n 0, 28, 0), (28, .getfield 70, 31, 0), (31, .iload_n 3, 32, 0), (32, .iaload, 33, 0), (33, .ifCond .ne 7, 36, 40), (36, .iconst 0, 37, 0), (37, .goto 12, 40, 49), (40, .aload_n 0, 41, 0), (41, .getfield 73, 44, 0), (44, .bipush 60, 46, 0), (46, .iload_n 3, 47, 0), (47, .imul, 48, 0), (48, .iaload, 49, 0), (49, .ireturn, 50, 0)]
set_option maxRecDepth 100000 in
theorem L251_ok : L251.all (dck 251) = true := by decide +kernel
theorem d251 {j pc nx tg : Nat} {ins : Instr} (hj : L251[j]? = some (pc, ins, nx, tg)) : dcd 251 pc ins nx tg := dcl_ok L251_ok hj
set_option maxRecDepth 100000 in
set_option maxHeartbeats 4000000 in
theorem r251_0 {x1 x2 : Int} {R1 : dsMem → Prop} {g1 : dsMem → Int} {M : dsMem} {Q : bQT} (hA1 : bCt 236 [uR 11 84, uI x2] M (fun M1 => [uI (g1 M1)]) R1) (k1 : ∀ M1 : dsMem, R1 M1 → ((g1 M1) = 0) → Q [uI (-2)] M1) (s1 : ∀ M1 : dsMem, R1 M1 → (¬ (g1 M1) = 0) → -2147483648 ≤ ((M1 85 4) - 1) ∧ ((M1 85 4) - 1) < 2147483648 := by intros; omega) (s2 : ∀ M1 : dsMem, R1 M1 → (¬ (g1 M1) = 0) → ((0 ≤ x1 ∧ x1 ≤ (M1 85 4) - 1)) → -2147483648 ≤ ((6 * x2) + x1) ∧ ((6 * x2) + x1) < 2147483648 := by intros; omega) (s3 : ∀ M1 : dsMem, R1 M1 → (¬ (g1 M1) = 0) → ((0 ≤ x1 ∧ x1 ≤ (M1 85 4) - 1)) → 0 ≤ ((6 * x2) + x1) ∧ ((6 * x2) + x1) < 78 := by intros; omega) (s4 : ∀ M1 : dsMem, R1 M1 → (¬ (g1 M1) = 0) → ((0 ≤ x1 ∧ x1 ≤ (M1 85 4) - 1)) → (¬ (M1 103 ((6 * x2) + x1)) = 0) → 0 ≤ (60 * ((6 * x2) + x1)) ∧ (60 * ((6 * x2) + x1)) < 4680 := by intros; omega) (k2 : ∀ M1 : dsMem, R1 M1 → (¬ (g1 M1) = 0) → ((0 ≤ x1 ∧ x1 ≤ (M1 85 4) - 1)) → (¬ (M1 103 ((6 * x2) + x1)) = 0) → Q [uI (M1 104 (60 * ((6 * x2) + x1)))] M1) (k3 : ∀ M1 : dsMem, R1 M1 → (¬ (g1 M1) = 0) → ((0 ≤ x1 ∧ x1 ≤ (M1 85 4) - 1)) → ((M1 103 ((6 * x2) + x1)) = 0) → Q [uI 0] M1) (k4 : ∀ M1 : dsMem, R1 M1 → (¬ (g1 M1) = 0) → (¬ (0 ≤ x1 ∧ x1 ≤ (M1 85 4) - 1)) → Q [uI (-2)] M1) :
    bB 251 0 [uR 11 84, uI x1, uI x2, uX 0] [] M Q := by
  refine b_aload_n (d251 (j := 0) rfl) rfl ?_
  refine b_iload_n (d251 (j := 1) rfl) rfl ?_
  refine b_callV (d251 (j := 2) rfl) rfl rfl (Or.inl rfl) rfl (bCk_mk (n := 0) (k := 2) (by decide +kernel) rfl rfl) ((hA1) _ (fun M1 hR1 => ?_))
  refine b_stk [uI (g1 M1)] rfl ?_
  refine b_if_eq (d251 (j := 3) rfl) (fun c1 => ?_) (fun c1 => ?_)
  ·
    refine b_bipush (d251 (j := 9) rfl) (by decide) ?_
    exact b_iret (d251 (j := 10) rfl) rfl (k1 M1 hR1 c1)
  ·
    refine b_aload_n (d251 (j := 4) rfl) rfl ?_
    refine b_iload_n (d251 (j := 5) rfl) rfl ?_
    refine b_i2l (d251 (j := 6) rfl) ?_
    refine b_callV (d251 (j := 7) rfl) rfl rfl (Or.inl rfl) rfl (bCk_mk (n := 0) (k := 3) (by decide +kernel) rfl rfl) (pu190 (s1 M1 hR1 c1) ?_)
    refine b_stk [uI (if (0 ≤ x1 ∧ x1 ≤ (M1 85 4) - 1) then 1 else 0)] rfl ?_
    refine b_ifneP (d251 (j := 8) rfl) (fun c2 => ?_) (fun c2 => ?_)
    ·
      refine b_bipush (d251 (j := 11) rfl) (by decide) ?_
      refine b_iload_n (d251 (j := 12) rfl) rfl ?_
      refine b_imul (d251 (j := 13) rfl) rfl rfl ?_
      refine b_iload_n (d251 (j := 14) rfl) rfl ?_
      refine b_iadd (d251 (j := 15) rfl) (dsw_dsw _) rfl ?_
      refine b_stk [uI ((6 * x2) + x1)] (by rw [dsw_r (s2 M1 hR1 c1 c2)]) ?_
      refine b_istore_n [uR 11 84, uI x1, uI x2, uI ((6 * x2) + x1)] (d251 (j := 16) rfl) (by decide) rfl ?_
      refine b_aload_n (d251 (j := 17) rfl) rfl ?_
      refine b_getR (d251 (j := 18) rfl) rfl rfl rfl rfl ?_
      refine b_stk [uR 25 103] rfl ?_
      refine b_iload_n (d251 (j := 19) rfl) rfl ?_
      refine b_iaload (d251 (j := 20) rfl) rfl (s3 M1 hR1 c1 c2) ?_
      refine b_if_ne (d251 (j := 21) rfl) (fun c3 => ?_) (fun c3 => ?_)
      ·
        refine b_aload_n (d251 (j := 24) rfl) rfl ?_
        refine b_getR (d251 (j := 25) rfl) rfl rfl rfl rfl ?_
        refine b_stk [uR 24 104] rfl ?_
        refine b_bipush (d251 (j := 26) rfl) (by decide) ?_
        refine b_iload_n (d251 (j := 27) rfl) rfl ?_
        refine b_imul (d251 (j := 28) rfl) rfl rfl ?_
        refine b_stk [uI (60 * ((6 * x2) + x1)), uR 24 104] (by rw [dsw_b (s4 M1 hR1 c1 c2 c3) (by decide)]) ?_
        refine b_iaload (d251 (j := 29) rfl) rfl (s4 M1 hR1 c1 c2 c3) ?_
        exact b_iret (d251 (j := 30) rfl) rfl (k2 M1 hR1 c1 c2 c3)
      ·
        refine b_iconst (d251 (j := 22) rfl) (by decide) ?_
        refine b_goto (d251 (j := 23) rfl) ?_
        exact b_iret (d251 (j := 30) rfl) rfl (k3 M1 hR1 c1 c2 c3)
    ·
      refine b_bipush (d251 (j := 9) rfl) (by decide) ?_
      exact b_iret (d251 (j := 10) rfl) rfl (k4 M1 hR1 c1 c2)
def L252 : List (Nat × Instr × Nat × Nat) := [(0, .aload_n 0, 1, 0), (1, .iload_n 2, 2, 0), (2, .invokevirtual 382, 5, 0), (5, .ifCond .eq 28, 8, 33), (8, .aload_n 0, 9, 0), (9, .iload_n 1, 10, 0), (10, .i2l, 11, 0), (11, .invokevirtual 268, 14, 0), (14, .ifCond .eq 19, 17, 33), (17, .aload_n 0, 18, 0), (18, .iload_n 1, 19, 0), (19, .iconst 0, 20, 0), (20, .invokevirtual 132, 23, 0), (23, .aload_n 0, 24, 0), (24, .iload_n 1, 25, 0), (25, .iload_n 2, 26, 0), (26, .invokevirtual 373, 29, 0), (29, .isub, 30, 0), (30, .goto 5, 33, 35), (33, .bipush (-2), 35, 0), (35, .ireturn, 36, 0)]
set_option maxRecDepth 100000 in
theorem L252_ok : L252.all (dck 252) = true := by decide +kernel
theorem d252 {j pc nx tg : Nat} {ins : Instr} (hj : L252[j]? = some (pc, ins, nx, tg)) : dcd 252 pc ins nx tg := dcl_ok L252_ok hj
set_option maxRecDepth 100000 in
set_option maxHeartbeats 4000000 in
theorem r252_0 {x1 x2 : Int} {R1 : dsMem → Prop} {g1 : dsMem → Int} {M : dsMem} {Q : bQT} (hA1 : bCt 236 [uR 11 84, uI x2] M (fun M1 => [uI (g1 M1)]) R1) (k1 : ∀ M1 : dsMem, R1 M1 → ((g1 M1) = 0) → Q [uI (-2)] M1) (s1 : ∀ M1 : dsMem, R1 M1 → (¬ (g1 M1) = 0) → -2147483648 ≤ ((M1 85 4) - 1) ∧ ((M1 85 4) - 1) < 2147483648 := by intros; omega) (k2 : ∀ M1 : dsMem, R1 M1 → (¬ (g1 M1) = 0) → (¬ (0 ≤ x1 ∧ x1 ≤ (M1 85 4) - 1)) → Q [uI (-2)] M1) (s2 : ∀ M1 : dsMem, R1 M1 → (¬ (g1 M1) = 0) → ((0 ≤ x1 ∧ x1 ≤ (M1 85 4) - 1)) → 0 ≤ ((15 + (3 * x1)) + 0) ∧ ((15 + (3 * x1)) + 0) < 105 := by intros; omega) (s3 : ∀ M1 : dsMem, R1 M1 → (¬ (g1 M1) = 0) → ((0 ≤ x1 ∧ x1 ≤ (M1 85 4) - 1)) → 0 ≤ ((6 * x2) + x1) ∧ ((6 * x2) + x1) < 78 := by intros; omega) (s4 : ∀ M1 : dsMem, R1 M1 → (¬ (g1 M1) = 0) → ((0 ≤ x1 ∧ x1 ≤ (M1 85 4) - 1)) → -2147483648 ≤ ((M1 85 ((15 + (3 * x1)) + 0)) - (M1 102 ((6 * x2) + x1))) ∧ ((M1 85 ((15 + (3 * x1)) + 0)) - (M1 102 ((6 * x2) + x1))) < 2147483648 := by intros; omega) (k3 : ∀ M1 : dsMem, R1 M1 → (¬ (g1 M1) = 0) → ((0 ≤ x1 ∧ x1 ≤ (M1 85 4) - 1)) → Q [uI ((M1 85 ((15 + (3 * x1)) + 0)) - (M1 102 ((6 * x2) + x1)))] M1) :
    bB 252 0 [uR 11 84, uI x1, uI x2] [] M Q := by
  refine b_aload_n (d252 (j := 0) rfl) rfl ?_
  refine b_iload_n (d252 (j := 1) rfl) rfl ?_
  refine b_callV (d252 (j := 2) rfl) rfl rfl (Or.inl rfl) rfl (bCk_mk (n := 0) (k := 2) (by decide +kernel) rfl rfl) ((hA1) _ (fun M1 hR1 => ?_))
  refine b_stk [uI (g1 M1)] rfl ?_
  refine b_if_eq (d252 (j := 3) rfl) (fun c1 => ?_) (fun c1 => ?_)
  ·
    refine b_bipush (d252 (j := 19) rfl) (by decide) ?_
    exact b_iret (d252 (j := 20) rfl) rfl (k1 M1 hR1 c1)
  ·
    refine b_aload_n (d252 (j := 4) rfl) rfl ?_
    refine b_iload_n (d252 (j := 5) rfl) rfl ?_
    refine b_i2l (d252 (j := 6) rfl) ?_
    refine b_callV (d252 (j := 7) rfl) rfl rfl (Or.inl rfl) rfl (bCk_mk (n := 0) (k := 3) (by decide +kernel) rfl rfl) (pu190 (s1 M1 hR1 c1) ?_)
    refine b_stk [uI (if (0 ≤ x1 ∧ x1 ≤ (M1 85 4) - 1) then 1 else 0)] rfl ?_
    refine b_ifeqP (d252 (j := 8) rfl) (fun c2 => ?_) (fun c2 => ?_)
    ·
      refine b_bipush (d252 (j := 19) rfl) (by decide) ?_
      exact b_iret (d252 (j := 20) rfl) rfl (k2 M1 hR1 c1 c2)
    ·
      refine b_aload_n (d252 (j := 9) rfl) rfl ?_
      refine b_iload_n (d252 (j := 10) rfl) rfl ?_
      refine b_iconst (d252 (j := 11) rfl) (by decide) ?_
      refine b_callV (d252 (j := 12) rfl) rfl rfl (Or.inl rfl) rfl (bCk_mk (n := 0) (k := 3) (by decide +kernel) rfl rfl) (pu192 (s2 M1 hR1 c1 c2) ?_)
      refine b_stk [uI (M1 85 ((15 + (3 * x1)) + 0))] rfl ?_
      refine b_aload_n (d252 (j := 13) rfl) rfl ?_
      refine b_iload_n (d252 (j := 14) rfl) rfl ?_
      refine b_iload_n (d252 (j := 15) rfl) rfl ?_
      refine b_callV (d252 (j := 16) rfl) rfl rfl (Or.inl rfl) rfl (bCk_mk (n := 1) (k := 3) (by decide +kernel) rfl rfl) (pu240 (s3 M1 hR1 c1 c2) ?_)
      refine b_stk [uI (M1 102 ((6 * x2) + x1)), uI (M1 85 ((15 + (3 * x1)) + 0))] rfl ?_
      refine b_isub (d252 (j := 17) rfl) rfl rfl ?_
      refine b_goto (d252 (j := 18) rfl) ?_
      refine b_stk [uI ((M1 85 ((15 + (3 * x1)) + 0)) - (M1 102 ((6 * x2) + x1)))] (by rw [dsw_r (s4 M1 hR1 c1 c2)]) ?_
      exact b_iret (d252 (j := 20) rfl) rfl (k3 M1 hR1 c1 c2)
def L253 : List (Nat × Instr × Nat × Nat) := [(0, .aload_n 0, 1, 0), (1, .iload_n 2, 2, 0), (2, .invokevirtual 382, 5, 0), (5, .ifCond .eq 12, 8, 17), (8, .aload_n 0, 9, 0), (9, .iload_n 1, 10, 0), (10, .i2l, 11, 0), (11, .invokevirtual 268, 14, 0), (14, .ifCond .ne 6, 17, 20), (17, .bipush (-2), 19, 0), (19, .ireturn, 20, 0), (20, .bipush 6, 22, 0), (22, .iload_n 2, 23, 0), (23, .imul, 24, 0), (24, .iload_n 1, 25, 0), (25, .iadd, 26, 0), (26, .istore_n 3, 27, 0), (27, .iconst 0, 28, 0), (28, .istore 4, 30, 0), (30, .iconst 0, 31, 0), (31, .istore 5, 33, 0), (33, .iload 5, 35, 0), (35, .aload_n 0, 36, 0), (36, .getfield 70, 39, 0), (39, .iload_n 3, 40, 0), (40, .iaload, 41, 0), (41, .if_icmp .ge 28, 44, 69), (44, .iload 4, 46, 0), (46, .aload_n 0, 47, 0), (47, .getfield 76, 50, 0), (50, .bipush 60, 52, 0), (52, .iload_n 3, 53, 0), (53, .imul, 54, 0), (54, .iload 5, 56, 0), (56, .iadd, 57, 0), (57, .iaload, 58, 0), (58, .invokestatic 313, 61, 0), (61, .istore 4, 63, 0), (63, .iinc 5 1, 66, 0), (66, .goto (-33), 69, 33), (69, .iload 4, 71, 0), (71, .ireturn, 72, 0)]
set_option maxRecDepth 100000 in
theorem L253_ok : L253.all (dck 253) = true := by decide +kernel
theorem d253 {j pc nx tg : Nat} {ins : Instr} (hj : L253[j]? = some (pc, ins, nx, tg)) : dcd 253 pc ins nx tg := dcl_ok L253_ok hj
set_option maxRecDepth 100000 in
set_option maxHeartbeats 4000000 in
theorem r253_0 {x1 x2 : Int} {R1 : dsMem → Prop} {g1 : dsMem → Int} {M : dsMem} {Q : bQT} (hA1 : bCt 236 [uR 11 84, uI x2] M (fun M1 => [uI (g1 M1)]) R1) (k1 : ∀ M1 : dsMem, R1 M1 → ((g1 M1) = 0) → Q [uI (-2)] M1) (s1 : ∀ M1 : dsMem, R1 M1 → (¬ (g1 M1) = 0) → -2147483648 ≤ ((M1 85 4) - 1) ∧ ((M1 85 4) - 1) < 2147483648 := by intros; omega) (s2 : ∀ M1 : dsMem, R1 M1 → (¬ (g1 M1) = 0) → ((0 ≤ x1 ∧ x1 ≤ (M1 85 4) - 1)) → -2147483648 ≤ ((6 * x2) + x1) ∧ ((6 * x2) + x1) < 2147483648 := by intros; omega) (s3 : ∀ M1 : dsMem, R1 M1 → (¬ (g1 M1) = 0) → ((0 ≤ x1 ∧ x1 ≤ (M1 85 4) - 1)) → ∀ i253_1 : Int, ∀ a253_1 : Int, 0 ≤ i253_1 → i253_1 < (M1 103 ((6 * x2) + x1)) → 0 ≤ ((6 * x2) + x1) ∧ ((6 * x2) + x1) < 78 := by intros; omega) (s4 : ∀ M1 : dsMem, R1 M1 → (¬ (g1 M1) = 0) → ((0 ≤ x1 ∧ x1 ≤ (M1 85 4) - 1)) → ∀ i253_1 : Int, ∀ a253_1 : Int, 0 ≤ i253_1 → i253_1 < (M1 103 ((6 * x2) + x1)) → 0 ≤ ((60 * ((6 * x2) + x1)) + i253_1) ∧ ((60 * ((6 * x2) + x1)) + i253_1) < 4680 := by intros; omega) (s5 : ∀ M1 : dsMem, R1 M1 → (¬ (g1 M1) = 0) → ((0 ≤ x1 ∧ x1 ≤ (M1 85 4) - 1)) → ∀ i253_1 : Int, ∀ a253_1 : Int, 0 ≤ i253_1 → i253_1 < (M1 103 ((6 * x2) + x1)) → -2147483648 ≤ i253_1 + 1 ∧ i253_1 + 1 < 2147483648 := by intros; omega) (s6 : ∀ M1 : dsMem, R1 M1 → (¬ (g1 M1) = 0) → ((0 ≤ x1 ∧ x1 ≤ (M1 85 4) - 1)) → 0 ≤ ((6 * x2) + x1) ∧ ((6 * x2) + x1) < 78 := by intros; omega) (k2 : ∀ M1 : dsMem, R1 M1 → (¬ (g1 M1) = 0) → ((0 ≤ x1 ∧ x1 ≤ (M1 85 4) - 1)) → Q [uI (dsIter (fun (i253_1 : Int) (a253_1 : Int) => (if a253_1 < (M1 105 ((60 * ((6 * x2) + x1)) + i253_1)) then (M1 105 ((60 * ((6 * x2) + x1)) + i253_1)) else a253_1)) 0 (M1 103 ((6 * x2) + x1)) 0)] M1) (k3 : ∀ M1 : dsMem, R1 M1 → (¬ (g1 M1) = 0) → (¬ (0 ≤ x1 ∧ x1 ≤ (M1 85 4) - 1)) → Q [uI (-2)] M1) :
    bB 253 0 [uR 11 84, uI x1, uI x2, uX 0, uX 0, uX 0] [] M Q := by
  refine b_aload_n (d253 (j := 0) rfl) rfl ?_
  refine b_iload_n (d253 (j := 1) rfl) rfl ?_
  refine b_callV (d253 (j := 2) rfl) rfl rfl (Or.inl rfl) rfl (bCk_mk (n := 0) (k := 2) (by decide +kernel) rfl rfl) ((hA1) _ (fun M1 hR1 => ?_))
  refine b_stk [uI (g1 M1)] rfl ?_
  refine b_if_eq (d253 (j := 3) rfl) (fun c1 => ?_) (fun c1 => ?_)
  ·
    refine b_bipush (d253 (j := 9) rfl) (by decide) ?_
    exact b_iret (d253 (j := 10) rfl) rfl (k1 M1 hR1 c1)
  ·
    refine b_aload_n (d253 (j := 4) rfl) rfl ?_
    refine b_iload_n (d253 (j := 5) rfl) rfl ?_
    refine b_i2l (d253 (j := 6) rfl) ?_
    refine b_callV (d253 (j := 7) rfl) rfl rfl (Or.inl rfl) rfl (bCk_mk (n := 0) (k := 3) (by decide +kernel) rfl rfl) (pu190 (s1 M1 hR1 c1) ?_)
    refine b_stk [uI (if (0 ≤ x1 ∧ x1 ≤ (M1 85 4) - 1) then 1 else 0)] rfl ?_
    refine b_ifneP (d253 (j := 8) rfl) (fun c2 => ?_) (fun c2 => ?_)
    ·
      refine b_bipush (d253 (j := 11) rfl) (by decide) ?_
      refine b_iload_n (d253 (j := 12) rfl) rfl ?_
      refine b_imul (d253 (j := 13) rfl) rfl rfl ?_
      refine b_iload_n (d253 (j := 14) rfl) rfl ?_
      refine b_iadd (d253 (j := 15) rfl) (dsw_dsw _) rfl ?_
      refine b_stk [uI ((6 * x2) + x1)] (by rw [dsw_r (s2 M1 hR1 c1 c2)]) ?_
      refine b_istore_n [uR 11 84, uI x1, uI x2, uI ((6 * x2) + x1), uX 0, uX 0] (d253 (j := 16) rfl) (by decide) rfl ?_
      refine b_iconst (d253 (j := 17) rfl) (by decide) ?_
      refine b_istore [uR 11 84, uI x1, uI x2, uI ((6 * x2) + x1), uI 0, uX 0] (d253 (j := 18) rfl) (by decide) rfl ?_
      refine b_iconst (d253 (j := 19) rfl) (by decide) ?_
      refine b_istore [uR 11 84, uI x1, uI x2, uI ((6 * x2) + x1), uI 0, uI 0] (d253 (j := 20) rfl) (by decide) rfl ?_
      refine bB_le _ (bLe_s (bLe_x (bLe_x (bLe_s (bLe_s (bLe_s bLe_nil)))))) ?_
      refine b_for (fun (i253_1 : Int) (a253_1 : Int) => [uR 11 84, uX 0, uX 0, uI ((6 * x2) + x1), uI a253_1, uI i253_1]) (fun (i253_1 : Int) (a253_1 : Int) => (if a253_1 < (M1 105 ((60 * ((6 * x2) + x1)) + i253_1)) then (M1 105 ((60 * ((6 * x2) + x1)) + i253_1)) else a253_1)) 0 (M1 103 ((6 * x2) + x1)) 0 (fun i253_1 a253_1 h253_1l h253_1r hk253_1 => ?_) (fun i253_1 h253_1l h253_1r => ?_)
      ·
        refine b_iload (d253 (j := 21) rfl) rfl ?_
        refine b_aload_n (d253 (j := 22) rfl) rfl ?_
        refine b_getR (d253 (j := 23) rfl) rfl rfl rfl rfl ?_
        refine b_stk [uR 25 103, uI i253_1] rfl ?_
        refine b_iload_n (d253 (j := 24) rfl) rfl ?_
        refine b_iaload (d253 (j := 25) rfl) rfl (s3 M1 hR1 c1 c2 i253_1 a253_1 h253_1l h253_1r) ?_
        refine b_icmp_ge (d253 (j := 26) rfl) (fun c3 => ?_) (fun c3 => ?_)
        · exfalso; omega
        ·
          refine b_iload (d253 (j := 27) rfl) rfl ?_
          refine b_aload_n (d253 (j := 28) rfl) rfl ?_
          refine b_getR (d253 (j := 29) rfl) rfl rfl rfl rfl ?_
          refine b_stk [uR 24 105, uI a253_1] rfl ?_
          refine b_bipush (d253 (j := 30) rfl) (by decide) ?_
          refine b_iload_n (d253 (j := 31) rfl) rfl ?_
          refine b_imul (d253 (j := 32) rfl) rfl rfl ?_
          refine b_iload (d253 (j := 33) rfl) rfl ?_
          refine b_iadd (d253 (j := 34) rfl) (dsw_dsw _) rfl ?_
          refine b_stk [uI ((60 * ((6 * x2) + x1)) + i253_1), uR 24 105, uI a253_1] (by rw [dsw_b (s4 M1 hR1 c1 c2 i253_1 a253_1 h253_1l h253_1r) (by decide)]) ?_
          refine b_iaload (d253 (j := 35) rfl) rfl (s4 M1 hR1 c1 c2 i253_1 a253_1 h253_1l h253_1r) ?_
          refine b_max (d253 (j := 36) rfl) rfl ⟨by decide, Nat.le_of_ble_eq_true rfl⟩ ?_
          refine b_istore [uR 11 84, uX 0, uX 0, uI ((6 * x2) + x1), uI (if a253_1 < (M1 105 ((60 * ((6 * x2) + x1)) + i253_1)) then (M1 105 ((60 * ((6 * x2) + x1)) + i253_1)) else a253_1), uI i253_1] (d253 (j := 37) rfl) (by decide) rfl ?_
          refine b_iinc [uR 11 84, uX 0, uX 0, uI ((6 * x2) + x1), uI (if a253_1 < (M1 105 ((60 * ((6 * x2) + x1)) + i253_1)) then (M1 105 ((60 * ((6 * x2) + x1)) + i253_1)) else a253_1), uI (i253_1 + 1)] (d253 (j := 38) rfl) rfl (by decide) (s5 M1 hR1 c1 c2 i253_1 a253_1 h253_1l h253_1r) rfl ?_
          refine b_goto (d253 (j := 39) rfl) ?_
          exact hk253_1
      ·
        refine b_iload (d253 (j := 21) rfl) rfl ?_
        refine b_aload_n (d253 (j := 22) rfl) rfl ?_
        refine b_getR (d253 (j := 23) rfl) rfl rfl rfl rfl ?_
        refine b_stk [uR 25 103, uI i253_1] rfl ?_
        refine b_iload_n (d253 (j := 24) rfl) rfl ?_
        refine b_iaload (d253 (j := 25) rfl) rfl (s6 M1 hR1 c1 c2) ?_
        refine b_icmp_ge (d253 (j := 26) rfl) (fun c4 => ?_) (fun c4 => ?_)
        rotate_left
        · exfalso; omega
        ·
          refine b_iload (d253 (j := 40) rfl) rfl ?_
          exact b_iret (d253 (j := 41) rfl) rfl (k2 M1 hR1 c1 c2)
    ·
      refine b_bipush (d253 (j := 9) rfl) (by decide) ?_
      exact b_iret (d253 (j := 10) rfl) rfl (k3 M1 hR1 c1 c2)
def L254 : List (Nat × Instr × Nat × Nat) := [(0, .aload_n 0, 1, 0), (1, .invokevirtual 364, 4, 0), (4, .ifCond .ne 6, 7, 10), (7, .bipush (-2), 9, 0), (9, .ireturn, 10, 0), (10, .iconst 0, 11, 0), (11, .istore_n 1, 12, 0), (12, .iconst 1, 13, 0), (13, .istore_n 2, 14, 0), (14, .iload_n 2, 15, 0), (15, .aload_n 0, 16, 0), (16, .invokevirtual 124, 19, 0), (19, .if_icmp .ge 44, 22, 63), (22, .aload_n 0, 23, 0), (23, .iload_n 2, 24, 0), (24, .iconst 1, 25, 0), (25, .iadd, 26, 0), (26, .invokevirtual 376, 29, 0), (29, .aload_n 0, 30, 0), (30, .iload_n 2, 31, 0), (31, .invokevirtual 376, 34, 0), (34, .isub, 35, 0), (35, .aload_n 0, 36, 0), (36, .iload_n 1, 37, 0), (37, .iconst 1, 38, 0), (38, .iadd, 39, 0), (39, .invokevirtual 376, 42, 0), (42, .aload_n 0, 43, 0), (43, .iload_n 1, 44, 0), (44, .invokevirtual 376, 47, 0), (47, .isub, 48, 0), (48, .if_icmp .le 7, 51, 55), (51, .iload_n 2, 52, 0), (52, .goto 4, 55, 56), (55, .iload_n 1, 56, 0), (56, .istore_n 1, 57, 0), (57, .iinc 2 1, 60, 0), (60, .goto (-46), 63, 14), (63, .iload_n 1, 64, 0), (64, .ireturn, 65, 0)]
set_option maxRecDepth 100000 in
theorem L254_ok : L254.all (dck 254) = true := by decide +kernel
theorem d254 {j pc nx tg : Nat} {ins : Instr} (hj : L254[j]? = some (pc, ins, nx, tg)) : dcd 254 pc ins nx tg := dcl_ok L254_ok hj
set_option maxRecDepth 100000 in
set_option maxHeartbeats 4000000 in
theorem r254_0  {R1 : dsMem → Prop} {g1 : dsMem → Int} {M : dsMem} {Q : bQT} (hA1 : bCt 235 [uR 11 84] M (fun M1 => [uI (g1 M1)]) R1) (s1 : ∀ M1 : dsMem, R1 M1 → (¬ (g1 M1) = 0) → ∀ i254_1 : Int, ∀ a254_1 : Int, 1 ≤ i254_1 → i254_1 < (M1 85 0) → -2147483648 ≤ (i254_1 + 1) ∧ (i254_1 + 1) < 2147483648 := by intros; omega) (s2 : ∀ M1 : dsMem, R1 M1 → (¬ (g1 M1) = 0) → ∀ i254_1 : Int, ∀ a254_1 : Int, 1 ≤ i254_1 → i254_1 < (M1 85 0) → ∀ i242_1 : Int, ∀ a242_1 : Int, 0 ≤ i242_1 → i242_1 < (M1 85 4) → 0 ≤ ((6 * (i254_1 + 1)) + i242_1) ∧ ((6 * (i254_1 + 1)) + i242_1) < 78 := by intros; omega) (s3 : ∀ M1 : dsMem, R1 M1 → (¬ (g1 M1) = 0) → ∀ i254_1 : Int, ∀ a254_1 : Int, 1 ≤ i254_1 → i254_1 < (M1 85 0) → ∀ i242_1 : Int, ∀ a242_1 : Int, 0 ≤ i242_1 → i242_1 < (M1 85 4) → -2147483648 ≤ i242_1 + 1 ∧ i242_1 + 1 < 2147483648 := by intros; omega) (s4 : ∀ M1 : dsMem, R1 M1 → (¬ (g1 M1) = 0) → ∀ i254_1 : Int, ∀ a254_1 : Int, 1 ≤ i254_1 → i254_1 < (M1 85 0) → ∀ i242_1 : Int, ∀ a242_1 : Int, 0 ≤ i242_1 → i242_1 < (M1 85 4) → 0 ≤ ((6 * i254_1) + i242_1) ∧ ((6 * i254_1) + i242_1) < 78 := by intros; omega) (s5 : ∀ M1 : dsMem, R1 M1 → (¬ (g1 M1) = 0) → ∀ i254_1 : Int, ∀ a254_1 : Int, 1 ≤ i254_1 → i254_1 < (M1 85 0) → ∀ i242_1 : Int, ∀ a242_1 : Int, 0 ≤ i242_1 → i242_1 < (M1 85 4) → 0 ≤ ((6 * (dsw ((a254_1 + 1)))) + i242_1) ∧ ((6 * (dsw ((a254_1 + 1)))) + i242_1) < 78 := by intros; omega) (s6 : ∀ M1 : dsMem, R1 M1 → (¬ (g1 M1) = 0) → ∀ i254_1 : Int, ∀ a254_1 : Int, 1 ≤ i254_1 → i254_1 < (M1 85 0) → ∀ i242_1 : Int, ∀ a242_1 : Int, 0 ≤ i242_1 → i242_1 < (M1 85 4) → 0 ≤ ((6 * a254_1) + i242_1) ∧ ((6 * a254_1) + i242_1) < 78 := by intros; omega) (s7 : ∀ M1 : dsMem, R1 M1 → (¬ (g1 M1) = 0) → ∀ i254_1 : Int, ∀ a254_1 : Int, 1 ≤ i254_1 → i254_1 < (M1 85 0) → -2147483648 ≤ i254_1 + 1 ∧ i254_1 + 1 < 2147483648 := by intros; omega) (k1 : ∀ M1 : dsMem, R1 M1 → (¬ (g1 M1) = 0) → Q [uI (dsIter (fun (i254_1 : Int) (a254_1 : Int) => (if (dsw (((v242 M1 (i254_1 + 1)) - (v242 M1 i254_1)))) ≤ (dsw (((v242 M1 (dsw ((a254_1 + 1)))) - (v242 M1 a254_1)))) then a254_1 else i254_1)) 1 (M1 85 0) 0)] M1) (k2 : ∀ M1 : dsMem, R1 M1 → ((g1 M1) = 0) → Q [uI (-2)] M1) :
    bB 254 0 [uR 11 84, uX 0, uX 0] [] M Q := by
  refine b_aload_n (d254 (j := 0) rfl) rfl ?_
  refine b_callV (d254 (j := 1) rfl) rfl rfl (Or.inl rfl) rfl (bCk_mk (n := 0) (k := 1) (by decide +kernel) rfl rfl) ((hA1) _ (fun M1 hR1 => ?_))
  refine b_stk [uI (g1 M1)] rfl ?_
  refine b_if_ne (d254 (j := 2) rfl) (fun c1 => ?_) (fun c1 => ?_)
  ·
    refine b_iconst (d254 (j := 5) rfl) (by decide) ?_
    refine b_istore_n [uR 11 84, uI 0, uX 0] (d254 (j := 6) rfl) (by decide) rfl ?_
    refine b_iconst (d254 (j := 7) rfl) (by decide) ?_
    refine b_istore_n [uR 11 84, uI 0, uI 1] (d254 (j := 8) rfl) (by decide) rfl ?_
    refine b_for (fun (i254_1 : Int) (a254_1 : Int) => [uR 11 84, uI a254_1, uI i254_1]) (fun (i254_1 : Int) (a254_1 : Int) => (if (dsw (((v242 M1 (i254_1 + 1)) - (v242 M1 i254_1)))) ≤ (dsw (((v242 M1 (dsw ((a254_1 + 1)))) - (v242 M1 a254_1)))) then a254_1 else i254_1)) 1 (M1 85 0) 0 (fun i254_1 a254_1 h254_1l h254_1r hk254_1 => ?_) (fun i254_1 h254_1l h254_1r => ?_)
    ·
      refine b_iload_n (d254 (j := 9) rfl) rfl ?_
      refine b_aload_n (d254 (j := 10) rfl) rfl ?_
      refine b_callV (d254 (j := 11) rfl) rfl rfl (Or.inl rfl) rfl (bCk_mk (n := 1) (k := 1) (by decide +kernel) rfl rfl) (pu183  ?_)
      refine b_stk [uI (M1 85 0), uI i254_1] rfl ?_
      refine b_icmp_ge (d254 (j := 12) rfl) (fun c2 => ?_) (fun c2 => ?_)
      · exfalso; omega
      ·
        refine b_aload_n (d254 (j := 13) rfl) rfl ?_
        refine b_iload_n (d254 (j := 14) rfl) rfl ?_
        refine b_iconst (d254 (j := 15) rfl) (by decide) ?_
        refine b_iadd (d254 (j := 16) rfl) rfl rfl ?_
        refine b_stk [uI (i254_1 + 1), uR 11 84] (by rw [dsw_r (s1 M1 hR1 c1 i254_1 a254_1 h254_1l h254_1r)]) ?_
        refine b_callV (d254 (j := 17) rfl) rfl rfl (Or.inl rfl) rfl (bCk_mk (n := 0) (k := 2) (by decide +kernel) rfl rfl) (fx242 (s2 M1 hR1 c1 i254_1 a254_1 h254_1l h254_1r) (s3 M1 hR1 c1 i254_1 a254_1 h254_1l h254_1r) ?_)
        refine b_stk [uI (v242 M1 (i254_1 + 1))] rfl ?_
        refine b_aload_n (d254 (j := 18) rfl) rfl ?_
        refine b_iload_n (d254 (j := 19) rfl) rfl ?_
        refine b_callV (d254 (j := 20) rfl) rfl rfl (Or.inl rfl) rfl (bCk_mk (n := 1) (k := 2) (by decide +kernel) rfl rfl) (fx242 (s4 M1 hR1 c1 i254_1 a254_1 h254_1l h254_1r) (s3 M1 hR1 c1 i254_1 a254_1 h254_1l h254_1r) ?_)
        refine b_stk [uI (v242 M1 i254_1), uI (v242 M1 (i254_1 + 1))] rfl ?_
        refine b_isub (d254 (j := 21) rfl) rfl rfl ?_
        refine b_aload_n (d254 (j := 22) rfl) rfl ?_
        refine b_iload_n (d254 (j := 23) rfl) rfl ?_
        refine b_iconst (d254 (j := 24) rfl) (by decide) ?_
        refine b_iadd (d254 (j := 25) rfl) rfl rfl ?_
        refine b_callV (d254 (j := 26) rfl) rfl rfl (Or.inl rfl) rfl (bCk_mk (n := 1) (k := 2) (by decide +kernel) rfl rfl) (fx242 (s5 M1 hR1 c1 i254_1 a254_1 h254_1l h254_1r) (s3 M1 hR1 c1 i254_1 a254_1 h254_1l h254_1r) ?_)
        refine b_stk [uI (v242 M1 (dsw ((a254_1 + 1)))), uI (dsw (((v242 M1 (i254_1 + 1)) - (v242 M1 i254_1))))] rfl ?_
        refine b_aload_n (d254 (j := 27) rfl) rfl ?_
        refine b_iload_n (d254 (j := 28) rfl) rfl ?_
        refine b_callV (d254 (j := 29) rfl) rfl rfl (Or.inl rfl) rfl (bCk_mk (n := 2) (k := 2) (by decide +kernel) rfl rfl) (fx242 (s6 M1 hR1 c1 i254_1 a254_1 h254_1l h254_1r) (s3 M1 hR1 c1 i254_1 a254_1 h254_1l h254_1r) ?_)
        refine b_stk [uI (v242 M1 a254_1), uI (v242 M1 (dsw ((a254_1 + 1)))), uI (dsw (((v242 M1 (i254_1 + 1)) - (v242 M1 i254_1))))] rfl ?_
        refine b_isub (d254 (j := 30) rfl) rfl rfl ?_
        refine b_icmp_le (d254 (j := 31) rfl) (fun c3 => ?_) (fun c3 => ?_)
        ·
          rw [if_pos c3] at hk254_1
          refine b_iload_n (d254 (j := 34) rfl) rfl ?_
          refine b_istore_n [uR 11 84, uI a254_1, uI i254_1] (d254 (j := 35) rfl) (by decide) rfl ?_
          refine b_iinc [uR 11 84, uI a254_1, uI (i254_1 + 1)] (d254 (j := 36) rfl) rfl (by decide) (s7 M1 hR1 c1 i254_1 a254_1 h254_1l h254_1r) rfl ?_
          refine b_goto (d254 (j := 37) rfl) ?_
          exact hk254_1
        ·
          rw [if_neg c3] at hk254_1
          refine b_iload_n (d254 (j := 32) rfl) rfl ?_
          refine b_goto (d254 (j := 33) rfl) ?_
          refine b_istore_n [uR 11 84, uI i254_1, uI i254_1] (d254 (j := 35) rfl) (by decide) rfl ?_
          refine b_iinc [uR 11 84, uI i254_1, uI (i254_1 + 1)] (d254 (j := 36) rfl) rfl (by decide) (s7 M1 hR1 c1 i254_1 a254_1 h254_1l h254_1r) rfl ?_
          refine b_goto (d254 (j := 37) rfl) ?_
          exact hk254_1
    ·
      refine b_iload_n (d254 (j := 9) rfl) rfl ?_
      refine b_aload_n (d254 (j := 10) rfl) rfl ?_
      refine b_callV (d254 (j := 11) rfl) rfl rfl (Or.inl rfl) rfl (bCk_mk (n := 1) (k := 1) (by decide +kernel) rfl rfl) (pu183  ?_)
      refine b_stk [uI (M1 85 0), uI i254_1] rfl ?_
      refine b_icmp_ge (d254 (j := 12) rfl) (fun c4 => ?_) (fun c4 => ?_)
      rotate_left
      · exfalso; omega
      ·
        refine b_iload_n (d254 (j := 38) rfl) rfl ?_
        exact b_iret (d254 (j := 39) rfl) rfl (k1 M1 hR1 c1)
  ·
    refine b_bipush (d254 (j := 3) rfl) (by decide) ?_
    exact b_iret (d254 (j := 4) rfl) rfl (k2 M1 hR1 c1)
def L255 : List (Nat × Instr × Nat × Nat) := [(0, .aload_n 0, 1, 0), (1, .invokevirtual 364, 4, 0), (4, .ifCond .ne 6, 7, 10), (7, .bipush (-2), 9, 0), (9, .ireturn, 10, 0), (10, .iconst 0, 11, 0), (11, .istore_n 1, 12, 0), (12, .iload_n 1, 13, 0), (13, .aload_n 0, 14, 0), (14, .invokevirtual 124, 17, 0), (17, .if_icmp .gt 27, 20, 44), (20, .aload_n 0, 21, 0), (21, .getfield 82, 24, 0), (24, .iload_n 1, 25, 0), (25, .iaload, 26, 0), (26, .invokestatic 379, 29, 0), (29, .aload_n 0, 30, 0), (30, .invokevirtual 127, 33, 0), (33, .if_icmp .ge 5, 36, 38), (36, .iload_n 1, 37, 0), (37, .ireturn, 38, 0), (38, .iinc 1 1, 41, 0), (41, .goto (-29), 44, 12), (44, .iconst (-1), 45, 0), (45, .ireturn, 46, 0)]
set_option maxRecDepth 100000 in
theorem L255_ok : L255.all (dck 255) = true := by decide +kernel
theorem d255 {j pc nx tg : Nat} {ins : Instr} (hj : L255[j]? = some (pc, ins, nx, tg)) : dcd 255 pc ins nx tg := dcl_ok L255_ok hj
set_option maxRecDepth 100000 in
set_option maxHeartbeats 4000000 in
theorem r255_0  {R1 : dsMem → Prop} {g1 : dsMem → Int} {M : dsMem} {Q : bQT} (hA1 : bCt 235 [uR 11 84] M (fun M1 => [uI (g1 M1)]) R1) (s1 : ∀ M1 : dsMem, R1 M1 → (¬ (g1 M1) = 0) → ∀ i255_1 : Int, 0 ≤ i255_1 → i255_1 < ((M1 85 0) + 1) → 0 ≤ i255_1 ∧ i255_1 < 13 := by intros; omega) (s2 : ∀ M1 : dsMem, R1 M1 → (¬ (g1 M1) = 0) → ∀ i255_1 : Int, 0 ≤ i255_1 → i255_1 < ((M1 85 0) + 1) → ∀ i178_1 : Int, ∀ a178_1 : Int, 0 ≤ i178_1 → i178_1 < 16 → -2147483648 ≤ i178_1 + 1 ∧ i178_1 + 1 < 2147483648 := by intros; omega) (s3 : ∀ M1 : dsMem, R1 M1 → (¬ (g1 M1) = 0) → ∀ i255_1 : Int, 0 ≤ i255_1 → i255_1 < ((M1 85 0) + 1) → -2147483648 ≤ i255_1 + 1 ∧ i255_1 + 1 < 2147483648 := by intros; omega) (k1 : ∀ M1 : dsMem, R1 M1 → (¬ (g1 M1) = 0) → ((dsFind (fun (i255_1 : Int) => ¬ ((M1 85 3) ≤ (v178 M1 (M1 107 i255_1)))) 0 ((M1 85 0) + 1)) < ((M1 85 0) + 1)) → Q [uI (dsFind (fun (i255_1 : Int) => ¬ ((M1 85 3) ≤ (v178 M1 (M1 107 i255_1)))) 0 ((M1 85 0) + 1))] M1) (k2 : ∀ M1 : dsMem, R1 M1 → (¬ (g1 M1) = 0) → (¬ (dsFind (fun (i255_1 : Int) => ¬ ((M1 85 3) ≤ (v178 M1 (M1 107 i255_1)))) 0 ((M1 85 0) + 1)) < ((M1 85 0) + 1)) → Q [uI (-1)] M1) (k3 : ∀ M1 : dsMem, R1 M1 → ((g1 M1) = 0) → Q [uI (-2)] M1) :
    bB 255 0 [uR 11 84, uX 0] [] M Q := by
  refine b_aload_n (d255 (j := 0) rfl) rfl ?_
  refine b_callV (d255 (j := 1) rfl) rfl rfl (Or.inl rfl) rfl (bCk_mk (n := 0) (k := 1) (by decide +kernel) rfl rfl) ((hA1) _ (fun M1 hR1 => ?_))
  refine b_stk [uI (g1 M1)] rfl ?_
  refine b_if_ne (d255 (j := 2) rfl) (fun c1 => ?_) (fun c1 => ?_)
  ·
    refine b_iconst (d255 (j := 5) rfl) (by decide) ?_
    refine b_istore_n [uR 11 84, uI 0] (d255 (j := 6) rfl) (by decide) rfl ?_
    refine b_find (fun (i255_1 : Int) => [uR 11 84, uI i255_1]) (fun (i255_1 : Int) => ¬ ((M1 85 3) ≤ (v178 M1 (M1 107 i255_1)))) 0 ((M1 85 0) + 1) (fun i255_1 h255_1l h255_1r hn hk255_1 => ?_) (fun i255_1 h255_1l h255_1r hp he => ?_) (fun i255_1 h255_1l h255_1r he => ?_)
    ·
      refine b_iload_n (d255 (j := 7) rfl) rfl ?_
      refine b_aload_n (d255 (j := 8) rfl) rfl ?_
      refine b_callV (d255 (j := 9) rfl) rfl rfl (Or.inl rfl) rfl (bCk_mk (n := 1) (k := 1) (by decide +kernel) rfl rfl) (pu183  ?_)
      refine b_stk [uI (M1 85 0), uI i255_1] rfl ?_
      refine b_icmp_gt (d255 (j := 10) rfl) (fun c2 => ?_) (fun c2 => ?_)
      · exfalso; omega
      ·
        refine b_aload_n (d255 (j := 11) rfl) rfl ?_
        refine b_getR (d255 (j := 12) rfl) rfl rfl rfl rfl ?_
        refine b_stk [uR 27 107] rfl ?_
        refine b_iload_n (d255 (j := 13) rfl) rfl ?_
        refine b_iaload (d255 (j := 14) rfl) rfl (s1 M1 hR1 c1 i255_1 h255_1l h255_1r) ?_
        refine b_callS (d255 (j := 15) rfl) (Or.inl rfl) rfl (bCk_mk (n := 0) (k := 1) (by decide +kernel) rfl rfl) (fx178 (s2 M1 hR1 c1 i255_1 h255_1l h255_1r) ?_)
        refine b_stk [uI (v178 M1 (M1 107 i255_1))] rfl ?_
        refine b_aload_n (d255 (j := 16) rfl) rfl ?_
        refine b_callV (d255 (j := 17) rfl) rfl rfl (Or.inl rfl) rfl (bCk_mk (n := 1) (k := 1) (by decide +kernel) rfl rfl) (pu184  ?_)
        refine b_stk [uI (M1 85 3), uI (v178 M1 (M1 107 i255_1))] rfl ?_
        refine b_icmp_ge (d255 (j := 18) rfl) (fun c3 => ?_) (fun c3 => ?_)
        ·
          refine b_iinc [uR 11 84, uI (i255_1 + 1)] (d255 (j := 21) rfl) rfl (by decide) (s3 M1 hR1 c1 i255_1 h255_1l h255_1r) rfl ?_
          refine b_goto (d255 (j := 22) rfl) ?_
          exact hk255_1
        ·
          refine b_iload_n (d255 (j := 19) rfl) rfl ?_
          exfalso; omega
    ·
      subst he
      refine b_iload_n (d255 (j := 7) rfl) rfl ?_
      refine b_aload_n (d255 (j := 8) rfl) rfl ?_
      refine b_callV (d255 (j := 9) rfl) rfl rfl (Or.inl rfl) rfl (bCk_mk (n := 1) (k := 1) (by decide +kernel) rfl rfl) (pu183  ?_)
      refine b_stk [uI (M1 85 0), uI (dsFind (fun (i255_1 : Int) => ¬ ((M1 85 3) ≤ (v178 M1 (M1 107 i255_1)))) 0 ((M1 85 0) + 1))] rfl ?_
      refine b_icmp_gt (d255 (j := 10) rfl) (fun c4 => ?_) (fun c4 => ?_)
      · exfalso; omega
      ·
        refine b_aload_n (d255 (j := 11) rfl) rfl ?_
        refine b_getR (d255 (j := 12) rfl) rfl rfl rfl rfl ?_
        refine b_stk [uR 27 107] rfl ?_
        refine b_iload_n (d255 (j := 13) rfl) rfl ?_
        refine b_iaload (d255 (j := 14) rfl) rfl (s1 M1 hR1 c1 (dsFind (fun (i255_1 : Int) => ¬ ((M1 85 3) ≤ (v178 M1 (M1 107 i255_1)))) 0 ((M1 85 0) + 1)) h255_1l h255_1r) ?_
        refine b_callS (d255 (j := 15) rfl) (Or.inl rfl) rfl (bCk_mk (n := 0) (k := 1) (by decide +kernel) rfl rfl) (fx178 (s2 M1 hR1 c1 (dsFind (fun (i255_1 : Int) => ¬ ((M1 85 3) ≤ (v178 M1 (M1 107 i255_1)))) 0 ((M1 85 0) + 1)) h255_1l h255_1r) ?_)
        refine b_stk [uI (v178 M1 (M1 107 (dsFind (fun (i255_1 : Int) => ¬ ((M1 85 3) ≤ (v178 M1 (M1 107 i255_1)))) 0 ((M1 85 0) + 1))))] rfl ?_
        refine b_aload_n (d255 (j := 16) rfl) rfl ?_
        refine b_callV (d255 (j := 17) rfl) rfl rfl (Or.inl rfl) rfl (bCk_mk (n := 1) (k := 1) (by decide +kernel) rfl rfl) (pu184  ?_)
        refine b_stk [uI (M1 85 3), uI (v178 M1 (M1 107 (dsFind (fun (i255_1 : Int) => ¬ ((M1 85 3) ≤ (v178 M1 (M1 107 i255_1)))) 0 ((M1 85 0) + 1))))] rfl ?_
        refine b_icmp_ge (d255 (j := 18) rfl) (fun c5 => ?_) (fun c5 => ?_)
        ·
          refine b_iinc [uR 11 84, uI ((dsFind (fun (i255_1 : Int) => ¬ ((M1 85 3) ≤ (v178 M1 (M1 107 i255_1)))) 0 ((M1 85 0) + 1)) + 1)] (d255 (j := 21) rfl) rfl (by decide) (s3 M1 hR1 c1 (dsFind (fun (i255_1 : Int) => ¬ ((M1 85 3) ≤ (v178 M1 (M1 107 i255_1)))) 0 ((M1 85 0) + 1)) h255_1l h255_1r) rfl ?_
          refine b_goto (d255 (j := 22) rfl) ?_
          exfalso; omega
        ·
          refine b_iload_n (d255 (j := 19) rfl) rfl ?_
          exact b_iret (d255 (j := 20) rfl) rfl (k1 M1 hR1 c1 h255_1r)
    ·
      refine b_iload_n (d255 (j := 7) rfl) rfl ?_
      refine b_aload_n (d255 (j := 8) rfl) rfl ?_
      refine b_callV (d255 (j := 9) rfl) rfl rfl (Or.inl rfl) rfl (bCk_mk (n := 1) (k := 1) (by decide +kernel) rfl rfl) (pu183  ?_)
      refine b_stk [uI (M1 85 0), uI i255_1] rfl ?_
      refine b_icmp_gt (d255 (j := 10) rfl) (fun c6 => ?_) (fun c6 => ?_)
      rotate_left
      · exfalso; omega
      ·
        refine b_iconst (d255 (j := 23) rfl) (by decide) ?_
        exact b_iret (d255 (j := 24) rfl) rfl (k2 M1 hR1 c1 he)
  ·
    refine b_bipush (d255 (j := 3) rfl) (by decide) ?_
    exact b_iret (d255 (j := 4) rfl) rfl (k3 M1 hR1 c1)
def L256 : List (Nat × Instr × Nat × Nat) := [(0, .aload_n 0, 1, 0), (1, .iload_n 1, 2, 0), (2, .invokevirtual 382, 5, 0), (5, .ifCond .ne 6, 8, 11), (8, .bipush (-2), 10, 0), (10, .ireturn, 11, 0), (11, .iconst 0, 12, 0), (12, .istore_n 2, 13, 0), (13, .iconst 0, 14, 0), (14, .istore_n 3, 15, 0), (15, .iload_n 3, 16, 0), (16, .aload_n 0, 17, 0), (17, .invokevirtual 116, 20, 0), (20, .if_icmp .ge 28, 23, 48), (23, .iload_n 2, 24, 0), (24, .aload_n 0, 25, 0), (25, .iload_n 3, 26, 0), (26, .iload_n 1, 27, 0), (27, .invokevirtual 373, 30, 0), (30, .ifCond .ne 9, 33, 39), (33, .iconst 1, 34, 0), (34, .iload_n 3, 35, 0), (35, .ishl, 36, 0), (36, .goto 4, 39, 40), (39, .iconst 0, 40, 0), (40, .ior, 41, 0), (41, .istore_n 2, 42, 0), (42, .iinc 3 1, 45, 0), (45, .goto (-30), 48, 15), (48, .iload_n 2, 49, 0), (49, .ireturn, 50, 0)]
set_option maxRecDepth 100000 in
theorem L256_ok : L256.all (dck 256) = true := by decide +kernel
theorem d256 {j pc nx tg : Nat} {ins : Instr} (hj : L256[j]? = some (pc, ins, nx, tg)) : dcd 256 pc ins nx tg := dcl_ok L256_ok hj
set_option maxRecDepth 100000 in
set_option maxHeartbeats 4000000 in
theorem r256_0 {x1 : Int} {R1 : dsMem → Prop} {g1 : dsMem → Int} {M : dsMem} {Q : bQT} (hA1 : bCt 236 [uR 11 84, uI x1] M (fun M1 => [uI (g1 M1)]) R1) (s1 : ∀ M1 : dsMem, R1 M1 → (¬ (g1 M1) = 0) → ∀ i256_1 : Int, ∀ a256_1 : Int, 0 ≤ i256_1 → i256_1 < (M1 85 4) → 0 ≤ ((6 * x1) + i256_1) ∧ ((6 * x1) + i256_1) < 78 := by intros; omega) (s2 : ∀ M1 : dsMem, R1 M1 → (¬ (g1 M1) = 0) → ∀ i256_1 : Int, ∀ a256_1 : Int, 0 ≤ i256_1 → i256_1 < (M1 85 4) → -2147483648 ≤ i256_1 + 1 ∧ i256_1 + 1 < 2147483648 := by intros; omega) (k1 : ∀ M1 : dsMem, R1 M1 → (¬ (g1 M1) = 0) → Q [uI (dsIter (fun (i256_1 : Int) (a256_1 : Int) => (if (M1 102 ((6 * x1) + i256_1)) = 0 then (dsOr a256_1 (dsShl 1 i256_1)) else (dsOr a256_1 0))) 0 (M1 85 4) 0)] M1) (k2 : ∀ M1 : dsMem, R1 M1 → ((g1 M1) = 0) → Q [uI (-2)] M1) :
    bB 256 0 [uR 11 84, uI x1, uX 0, uX 0] [] M Q := by
  refine b_aload_n (d256 (j := 0) rfl) rfl ?_
  refine b_iload_n (d256 (j := 1) rfl) rfl ?_
  refine b_callV (d256 (j := 2) rfl) rfl rfl (Or.inl rfl) rfl (bCk_mk (n := 0) (k := 2) (by decide +kernel) rfl rfl) ((hA1) _ (fun M1 hR1 => ?_))
  refine b_stk [uI (g1 M1)] rfl ?_
  refine b_if_ne (d256 (j := 3) rfl) (fun c1 => ?_) (fun c1 => ?_)
  ·
    refine b_iconst (d256 (j := 6) rfl) (by decide) ?_
    refine b_istore_n [uR 11 84, uI x1, uI 0, uX 0] (d256 (j := 7) rfl) (by decide) rfl ?_
    refine b_iconst (d256 (j := 8) rfl) (by decide) ?_
    refine b_istore_n [uR 11 84, uI x1, uI 0, uI 0] (d256 (j := 9) rfl) (by decide) rfl ?_
    refine b_for (fun (i256_1 : Int) (a256_1 : Int) => [uR 11 84, uI x1, uI a256_1, uI i256_1]) (fun (i256_1 : Int) (a256_1 : Int) => (if (M1 102 ((6 * x1) + i256_1)) = 0 then (dsOr a256_1 (dsShl 1 i256_1)) else (dsOr a256_1 0))) 0 (M1 85 4) 0 (fun i256_1 a256_1 h256_1l h256_1r hk256_1 => ?_) (fun i256_1 h256_1l h256_1r => ?_)
    ·
      refine b_iload_n (d256 (j := 10) rfl) rfl ?_
      refine b_aload_n (d256 (j := 11) rfl) rfl ?_
      refine b_callV (d256 (j := 12) rfl) rfl rfl (Or.inl rfl) rfl (bCk_mk (n := 1) (k := 1) (by decide +kernel) rfl rfl) (pu185  ?_)
      refine b_stk [uI (M1 85 4), uI i256_1] rfl ?_
      refine b_icmp_ge (d256 (j := 13) rfl) (fun c2 => ?_) (fun c2 => ?_)
      · exfalso; omega
      ·
        refine b_iload_n (d256 (j := 14) rfl) rfl ?_
        refine b_aload_n (d256 (j := 15) rfl) rfl ?_
        refine b_iload_n (d256 (j := 16) rfl) rfl ?_
        refine b_iload_n (d256 (j := 17) rfl) rfl ?_
        refine b_callV (d256 (j := 18) rfl) rfl rfl (Or.inl rfl) rfl (bCk_mk (n := 1) (k := 3) (by decide +kernel) rfl rfl) (pu240 (s1 M1 hR1 c1 i256_1 a256_1 h256_1l h256_1r) ?_)
        refine b_stk [uI (M1 102 ((6 * x1) + i256_1)), uI a256_1] rfl ?_
        refine b_if_ne (d256 (j := 19) rfl) (fun c3 => ?_) (fun c3 => ?_)
        ·
          rw [if_neg c3] at hk256_1
          refine b_iconst (d256 (j := 24) rfl) (by decide) ?_
          refine b_ior (d256 (j := 25) rfl) ?_
          refine b_istore_n [uR 11 84, uI x1, uI (dsOr a256_1 0), uI i256_1] (d256 (j := 26) rfl) (by decide) rfl ?_
          refine b_iinc [uR 11 84, uI x1, uI (dsOr a256_1 0), uI (i256_1 + 1)] (d256 (j := 27) rfl) rfl (by decide) (s2 M1 hR1 c1 i256_1 a256_1 h256_1l h256_1r) rfl ?_
          refine b_goto (d256 (j := 28) rfl) ?_
          exact hk256_1
        ·
          rw [if_pos c3] at hk256_1
          refine b_iconst (d256 (j := 20) rfl) (by decide) ?_
          refine b_iload_n (d256 (j := 21) rfl) rfl ?_
          refine b_ishl (d256 (j := 22) rfl) ?_
          refine b_goto (d256 (j := 23) rfl) ?_
          refine b_ior (d256 (j := 25) rfl) ?_
          refine b_istore_n [uR 11 84, uI x1, uI (dsOr a256_1 (dsShl 1 i256_1)), uI i256_1] (d256 (j := 26) rfl) (by decide) rfl ?_
          refine b_iinc [uR 11 84, uI x1, uI (dsOr a256_1 (dsShl 1 i256_1)), uI (i256_1 + 1)] (d256 (j := 27) rfl) rfl (by decide) (s2 M1 hR1 c1 i256_1 a256_1 h256_1l h256_1r) rfl ?_
          refine b_goto (d256 (j := 28) rfl) ?_
          exact hk256_1
    ·
      refine b_iload_n (d256 (j := 10) rfl) rfl ?_
      refine b_aload_n (d256 (j := 11) rfl) rfl ?_
      refine b_callV (d256 (j := 12) rfl) rfl rfl (Or.inl rfl) rfl (bCk_mk (n := 1) (k := 1) (by decide +kernel) rfl rfl) (pu185  ?_)
      refine b_stk [uI (M1 85 4), uI i256_1] rfl ?_
      refine b_icmp_ge (d256 (j := 13) rfl) (fun c4 => ?_) (fun c4 => ?_)
      rotate_left
      · exfalso; omega
      ·
        refine b_iload_n (d256 (j := 29) rfl) rfl ?_
        exact b_iret (d256 (j := 30) rfl) rfl (k1 M1 hR1 c1)
  ·
    refine b_bipush (d256 (j := 4) rfl) (by decide) ?_
    exact b_iret (d256 (j := 5) rfl) rfl (k2 M1 hR1 c1)
def L257 : List (Nat × Instr × Nat × Nat) := [(0, .aload_n 0, 1, 0), (1, .iload_n 2, 2, 0), (2, .invokevirtual 382, 5, 0), (5, .ifCond .eq 10, 8, 15), (8, .iload_n 1, 9, 0), (9, .invokestatic 385, 12, 0), (12, .ifCond .ne 6, 15, 18), (15, .bipush (-2), 17, 0), (17, .ireturn, 18, 0), (18, .iconst 0, 19, 0), (19, .istore_n 3, 20, 0), (20, .iconst 0, 21, 0), (21, .istore 4, 23, 0), (23, .iload 4, 25, 0), (25, .aload_n 0, 26, 0), (26, .invokevirtual 116, 29, 0), (29, .if_icmp .ge 20, 32, 49), (32, .iload_n 3, 33, 0), (33, .aload_n 0, 34, 0), (34, .iload 4, 36, 0), (36, .iload_n 2, 37, 0), (37, .iload_n 1, 38, 0), (38, .invokevirtual 388, 41, 0), (41, .iadd, 42, 0), (42, .istore_n 3, 43, 0), (43, .iinc 4 1, 46, 0), (46, .goto (-23), 49, 23), (49, .iload_n 3, 50, 0), (50, .ireturn, 51, 0)]
set_option maxRecDepth 100000 in
theorem L257_ok : L257.all (dck 257) = true := by decide +kernel
theorem d257 {j pc nx tg : Nat} {ins : Instr} (hj : L257[j]? = some (pc, ins, nx, tg)) : dcd 257 pc ins nx tg := dcl_ok L257_ok hj
set_option maxRecDepth 100000 in
set_option maxHeartbeats 4000000 in
theorem r257_0 {x1 x2 : Int} {R1 : dsMem → Prop} {g1 : dsMem → Int} {M : dsMem} {Q : bQT} (hA1 : bCt 236 [uR 11 84, uI x2] M (fun M1 => [uI (g1 M1)]) R1) (k1 : ∀ M1 : dsMem, R1 M1 → ((g1 M1) = 0) → Q [uI (-2)] M1) (s1 : ∀ M1 : dsMem, R1 M1 → (¬ (g1 M1) = 0) → ((1 ≤ x1 ∧ x1 ≤ 5)) → ∀ i257_1 : Int, ∀ a257_1 : Int, 0 ≤ i257_1 → i257_1 < (M1 85 4) → -2147483648 ≤ ((6 * x2) + i257_1) ∧ ((6 * x2) + i257_1) < 2147483648 := by intros; omega) (s2 : ∀ M1 : dsMem, R1 M1 → (¬ (g1 M1) = 0) → ((1 ≤ x1 ∧ x1 ≤ 5)) → ∀ i257_1 : Int, ∀ a257_1 : Int, 0 ≤ i257_1 → i257_1 < (M1 85 4) → ∀ i248_1 : Int, ∀ a248_1 : Int, 0 ≤ i248_1 → i248_1 < (M1 103 ((6 * x2) + i257_1)) → 0 ≤ ((6 * x2) + i257_1) ∧ ((6 * x2) + i257_1) < 78 := by intros; omega) (s3 : ∀ M1 : dsMem, R1 M1 → (¬ (g1 M1) = 0) → ((1 ≤ x1 ∧ x1 ≤ 5)) → ∀ i257_1 : Int, ∀ a257_1 : Int, 0 ≤ i257_1 → i257_1 < (M1 85 4) → ∀ i248_1 : Int, ∀ a248_1 : Int, 0 ≤ i248_1 → i248_1 < (M1 103 ((6 * x2) + i257_1)) → 0 ≤ ((60 * ((6 * x2) + i257_1)) + i248_1) ∧ ((60 * ((6 * x2) + i257_1)) + i248_1) < 4680 := by intros; omega) (s4 : ∀ M1 : dsMem, R1 M1 → (¬ (g1 M1) = 0) → ((1 ≤ x1 ∧ x1 ≤ 5)) → ∀ i257_1 : Int, ∀ a257_1 : Int, 0 ≤ i257_1 → i257_1 < (M1 85 4) → ∀ i248_1 : Int, ∀ a248_1 : Int, 0 ≤ i248_1 → i248_1 < (M1 103 ((6 * x2) + i257_1)) → -2147483648 ≤ i248_1 + 1 ∧ i248_1 + 1 < 2147483648 := by intros; omega) (s5 : ∀ M1 : dsMem, R1 M1 → (¬ (g1 M1) = 0) → ((1 ≤ x1 ∧ x1 ≤ 5)) → ∀ i257_1 : Int, ∀ a257_1 : Int, 0 ≤ i257_1 → i257_1 < (M1 85 4) → 0 ≤ ((6 * x2) + i257_1) ∧ ((6 * x2) + i257_1) < 78 := by intros; omega) (s6 : ∀ M1 : dsMem, R1 M1 → (¬ (g1 M1) = 0) → ((1 ≤ x1 ∧ x1 ≤ 5)) → ∀ i257_1 : Int, ∀ a257_1 : Int, 0 ≤ i257_1 → i257_1 < (M1 85 4) → -2147483648 ≤ i257_1 + 1 ∧ i257_1 + 1 < 2147483648 := by intros; omega) (k2 : ∀ M1 : dsMem, R1 M1 → (¬ (g1 M1) = 0) → ((1 ≤ x1 ∧ x1 ≤ 5)) → Q [uI (dsIter (fun (i257_1 : Int) (a257_1 : Int) => (dsw ((a257_1 + (v248 M1 i257_1 x2 x1))))) 0 (M1 85 4) 0)] M1) (k3 : ∀ M1 : dsMem, R1 M1 → (¬ (g1 M1) = 0) → (¬ (1 ≤ x1 ∧ x1 ≤ 5)) → Q [uI (-2)] M1) :
    bB 257 0 [uR 11 84, uI x1, uI x2, uX 0, uX 0] [] M Q := by
  refine b_aload_n (d257 (j := 0) rfl) rfl ?_
  refine b_iload_n (d257 (j := 1) rfl) rfl ?_
  refine b_callV (d257 (j := 2) rfl) rfl rfl (Or.inl rfl) rfl (bCk_mk (n := 0) (k := 2) (by decide +kernel) rfl rfl) ((hA1) _ (fun M1 hR1 => ?_))
  refine b_stk [uI (g1 M1)] rfl ?_
  refine b_if_eq (d257 (j := 3) rfl) (fun c1 => ?_) (fun c1 => ?_)
  ·
    refine b_bipush (d257 (j := 7) rfl) (by decide) ?_
    exact b_iret (d257 (j := 8) rfl) rfl (k1 M1 hR1 c1)
  ·
    refine b_iload_n (d257 (j := 4) rfl) rfl ?_
    refine b_callS (d257 (j := 5) rfl) (Or.inl rfl) rfl (bCk_mk (n := 0) (k := 1) (by decide +kernel) rfl rfl) (pu191  ?_)
    refine b_stk [uI (if (1 ≤ x1 ∧ x1 ≤ 5) then 1 else 0)] rfl ?_
    refine b_ifneP (d257 (j := 6) rfl) (fun c2 => ?_) (fun c2 => ?_)
    ·
      refine b_iconst (d257 (j := 9) rfl) (by decide) ?_
      refine b_istore_n [uR 11 84, uI x1, uI x2, uI 0, uX 0] (d257 (j := 10) rfl) (by decide) rfl ?_
      refine b_iconst (d257 (j := 11) rfl) (by decide) ?_
      refine b_istore [uR 11 84, uI x1, uI x2, uI 0, uI 0] (d257 (j := 12) rfl) (by decide) rfl ?_
      refine b_for (fun (i257_1 : Int) (a257_1 : Int) => [uR 11 84, uI x1, uI x2, uI a257_1, uI i257_1]) (fun (i257_1 : Int) (a257_1 : Int) => (dsw ((a257_1 + (v248 M1 i257_1 x2 x1))))) 0 (M1 85 4) 0 (fun i257_1 a257_1 h257_1l h257_1r hk257_1 => ?_) (fun i257_1 h257_1l h257_1r => ?_)
      ·
        refine b_iload (d257 (j := 13) rfl) rfl ?_
        refine b_aload_n (d257 (j := 14) rfl) rfl ?_
        refine b_callV (d257 (j := 15) rfl) rfl rfl (Or.inl rfl) rfl (bCk_mk (n := 1) (k := 1) (by decide +kernel) rfl rfl) (pu185  ?_)
        refine b_stk [uI (M1 85 4), uI i257_1] rfl ?_
        refine b_icmp_ge (d257 (j := 16) rfl) (fun c3 => ?_) (fun c3 => ?_)
        · exfalso; omega
        ·
          refine b_iload_n (d257 (j := 17) rfl) rfl ?_
          refine b_aload_n (d257 (j := 18) rfl) rfl ?_
          refine b_iload (d257 (j := 19) rfl) rfl ?_
          refine b_iload_n (d257 (j := 20) rfl) rfl ?_
          refine b_iload_n (d257 (j := 21) rfl) rfl ?_
          refine b_callV (d257 (j := 22) rfl) rfl rfl (Or.inl rfl) rfl (bCk_mk (n := 1) (k := 4) (by decide +kernel) rfl rfl) (fx248 (s1 M1 hR1 c1 c2 i257_1 a257_1 h257_1l h257_1r) (s2 M1 hR1 c1 c2 i257_1 a257_1 h257_1l h257_1r) (s3 M1 hR1 c1 c2 i257_1 a257_1 h257_1l h257_1r) (s4 M1 hR1 c1 c2 i257_1 a257_1 h257_1l h257_1r) (s5 M1 hR1 c1 c2 i257_1 a257_1 h257_1l h257_1r) ?_)
          refine b_stk [uI (v248 M1 i257_1 x2 x1), uI a257_1] rfl ?_
          refine b_iadd (d257 (j := 23) rfl) rfl rfl ?_
          refine b_istore_n [uR 11 84, uI x1, uI x2, uI (dsw ((a257_1 + (v248 M1 i257_1 x2 x1)))), uI i257_1] (d257 (j := 24) rfl) (by decide) rfl ?_
          refine b_iinc [uR 11 84, uI x1, uI x2, uI (dsw ((a257_1 + (v248 M1 i257_1 x2 x1)))), uI (i257_1 + 1)] (d257 (j := 25) rfl) rfl (by decide) (s6 M1 hR1 c1 c2 i257_1 a257_1 h257_1l h257_1r) rfl ?_
          refine b_goto (d257 (j := 26) rfl) ?_
          exact hk257_1
      ·
        refine b_iload (d257 (j := 13) rfl) rfl ?_
        refine b_aload_n (d257 (j := 14) rfl) rfl ?_
        refine b_callV (d257 (j := 15) rfl) rfl rfl (Or.inl rfl) rfl (bCk_mk (n := 1) (k := 1) (by decide +kernel) rfl rfl) (pu185  ?_)
        refine b_stk [uI (M1 85 4), uI i257_1] rfl ?_
        refine b_icmp_ge (d257 (j := 16) rfl) (fun c4 => ?_) (fun c4 => ?_)
        rotate_left
        · exfalso; omega
        ·
          refine b_iload_n (d257 (j := 27) rfl) rfl ?_
          exact b_iret (d257 (j := 28) rfl) rfl (k2 M1 hR1 c1 c2)
    ·
      refine b_bipush (d257 (j := 7) rfl) (by decide) ?_
      exact b_iret (d257 (j := 8) rfl) rfl (k3 M1 hR1 c1 c2)
def L258 : List (Nat × Instr × Nat × Nat) := [(0, .aload_n 0, 1, 0), (1, .invokevirtual 364, 4, 0), (4, .ifCond .ne 6, 7, 10), (7, .bipush (-2), 9, 0), (9, .ireturn, 10, 0), (10, .iconst 0, 11, 0), (11, .istore_n 1, 12, 0), (12, .iconst 0, 13, 0), (13, .istore_n 2, 14, 0), (14, .iload_n 2, 15, 0), (15, .aload_n 0, 16, 0), (16, .invokevirtual 124, 19, 0), (19, .if_icmp .ge 18, 22, 37), (22, .iload_n 1, 23, 0), (23, .aload_n 0, 24, 0), (24, .getfield 64, 27, 0), (27, .iload_n 2, 28, 0), (28, .iaload, 29, 0), (29, .iadd, 30, 0), (30, .istore_n 1, 31, 0), (31, .iinc 2 1, 34, 0), (34, .goto (-20), 37, 14), (37, .iload_n 1, 38, 0), (38, .ireturn, 39, 0)]
set_option maxRecDepth 100000 in
theorem L258_ok : L258.all (dck 258) = true := by decide +kernel
theorem d258 {j pc nx tg : Nat} {ins : Instr} (hj : L258[j]? = some (pc, ins, nx, tg)) : dcd 258 pc ins nx tg := dcl_ok L258_ok hj
set_option maxRecDepth 100000 in
set_option maxHeartbeats 4000000 in
theorem r258_0  {R1 : dsMem → Prop} {g1 : dsMem → Int} {M : dsMem} {Q : bQT} (hA1 : bCt 235 [uR 11 84] M (fun M1 => [uI (g1 M1)]) R1) (s1 : ∀ M1 : dsMem, R1 M1 → (¬ (g1 M1) = 0) → ∀ i258_1 : Int, ∀ a258_1 : Int, 0 ≤ i258_1 → i258_1 < (M1 85 0) → 0 ≤ i258_1 ∧ i258_1 < 12 := by intros; omega) (s2 : ∀ M1 : dsMem, R1 M1 → (¬ (g1 M1) = 0) → ∀ i258_1 : Int, ∀ a258_1 : Int, 0 ≤ i258_1 → i258_1 < (M1 85 0) → -2147483648 ≤ i258_1 + 1 ∧ i258_1 + 1 < 2147483648 := by intros; omega) (k1 : ∀ M1 : dsMem, R1 M1 → (¬ (g1 M1) = 0) → Q [uI (dsIter (fun (i258_1 : Int) (a258_1 : Int) => (dsw ((a258_1 + (M1 101 i258_1))))) 0 (M1 85 0) 0)] M1) (k2 : ∀ M1 : dsMem, R1 M1 → ((g1 M1) = 0) → Q [uI (-2)] M1) :
    bB 258 0 [uR 11 84, uX 0, uX 0] [] M Q := by
  refine b_aload_n (d258 (j := 0) rfl) rfl ?_
  refine b_callV (d258 (j := 1) rfl) rfl rfl (Or.inl rfl) rfl (bCk_mk (n := 0) (k := 1) (by decide +kernel) rfl rfl) ((hA1) _ (fun M1 hR1 => ?_))
  refine b_stk [uI (g1 M1)] rfl ?_
  refine b_if_ne (d258 (j := 2) rfl) (fun c1 => ?_) (fun c1 => ?_)
  ·
    refine b_iconst (d258 (j := 5) rfl) (by decide) ?_
    refine b_istore_n [uR 11 84, uI 0, uX 0] (d258 (j := 6) rfl) (by decide) rfl ?_
    refine b_iconst (d258 (j := 7) rfl) (by decide) ?_
    refine b_istore_n [uR 11 84, uI 0, uI 0] (d258 (j := 8) rfl) (by decide) rfl ?_
    refine b_for (fun (i258_1 : Int) (a258_1 : Int) => [uR 11 84, uI a258_1, uI i258_1]) (fun (i258_1 : Int) (a258_1 : Int) => (dsw ((a258_1 + (M1 101 i258_1))))) 0 (M1 85 0) 0 (fun i258_1 a258_1 h258_1l h258_1r hk258_1 => ?_) (fun i258_1 h258_1l h258_1r => ?_)
    ·
      refine b_iload_n (d258 (j := 9) rfl) rfl ?_
      refine b_aload_n (d258 (j := 10) rfl) rfl ?_
      refine b_callV (d258 (j := 11) rfl) rfl rfl (Or.inl rfl) rfl (bCk_mk (n := 1) (k := 1) (by decide +kernel) rfl rfl) (pu183  ?_)
      refine b_stk [uI (M1 85 0), uI i258_1] rfl ?_
      refine b_icmp_ge (d258 (j := 12) rfl) (fun c2 => ?_) (fun c2 => ?_)
      · exfalso; omega
      ·
        refine b_iload_n (d258 (j := 13) rfl) rfl ?_
        refine b_aload_n (d258 (j := 14) rfl) rfl ?_
        refine b_getR (d258 (j := 15) rfl) rfl rfl rfl rfl ?_
        refine b_stk [uR 28 101, uI a258_1] rfl ?_
        refine b_iload_n (d258 (j := 16) rfl) rfl ?_
        refine b_iaload (d258 (j := 17) rfl) rfl (s1 M1 hR1 c1 i258_1 a258_1 h258_1l h258_1r) ?_
        refine b_iadd (d258 (j := 18) rfl) rfl rfl ?_
        refine b_istore_n [uR 11 84, uI (dsw ((a258_1 + (M1 101 i258_1)))), uI i258_1] (d258 (j := 19) rfl) (by decide) rfl ?_
        refine b_iinc [uR 11 84, uI (dsw ((a258_1 + (M1 101 i258_1)))), uI (i258_1 + 1)] (d258 (j := 20) rfl) rfl (by decide) (s2 M1 hR1 c1 i258_1 a258_1 h258_1l h258_1r) rfl ?_
        refine b_goto (d258 (j := 21) rfl) ?_
        exact hk258_1
    ·
      refine b_iload_n (d258 (j := 9) rfl) rfl ?_
      refine b_aload_n (d258 (j := 10) rfl) rfl ?_
      refine b_callV (d258 (j := 11) rfl) rfl rfl (Or.inl rfl) rfl (bCk_mk (n := 1) (k := 1) (by decide +kernel) rfl rfl) (pu183  ?_)
      refine b_stk [uI (M1 85 0), uI i258_1] rfl ?_
      refine b_icmp_ge (d258 (j := 12) rfl) (fun c3 => ?_) (fun c3 => ?_)
      rotate_left
      · exfalso; omega
      ·
        refine b_iload_n (d258 (j := 22) rfl) rfl ?_
        exact b_iret (d258 (j := 23) rfl) rfl (k1 M1 hR1 c1)
  ·
    refine b_bipush (d258 (j := 3) rfl) (by decide) ?_
    exact b_iret (d258 (j := 4) rfl) rfl (k2 M1 hR1 c1)
def L259 : List (Nat × Instr × Nat × Nat) := [(0, .aload_n 0, 1, 0), (1, .iload_n 1, 2, 0), (2, .invokevirtual 382, 5, 0), (5, .ifCond .ne 6, 8, 11), (8, .bipush (-2), 10, 0), (10, .ireturn, 11, 0), (11, .iconst 0, 12, 0), (12, .istore_n 2, 13, 0), (13, .bipush 60, 15, 0), (15, .istore_n 3, 16, 0), (16, .iconst 0, 17, 0), (17, .istore 4, 19, 0), (19, .iload 4, 21, 0), (21, .aload_n 0, 22, 0), (22, .invokevirtual 116, 25, 0), (25, .if_icmp .ge 33, 28, 58), (28, .iload_n 2, 29, 0), (29, .aload_n 0, 30, 0), (30, .iload 4, 32, 0), (32, .iload_n 1, 33, 0), (33, .invokevirtual 373, 36, 0), (36, .invokestatic 313, 39, 0), (39, .istore_n 2, 40, 0), (40, .iload_n 3, 41, 0), (41, .aload_n 0, 42, 0), (42, .iload 4, 44, 0), (44, .iload_n 1, 45, 0), (45, .invokevirtual 373, 48, 0), (48, .invokestatic 167, 51, 0), (51, .istore_n 3, 52, 0), (52, .iinc 4 1, 55, 0), (55, .goto (-36), 58, 19), (58, .aload_n 0, 59, 0), (59, .invokevirtual 116, 62, 0), (62, .ifCond .ne 7, 65, 69), (65, .iconst 0, 66, 0), (66, .goto 6, 69, 72), (69, .iload_n 2, 70, 0), (70, .iload_n 3, 71, 0), (71, .isub, 72, 0), (72, .ireturn, 73, 0)]
set_option maxRecDepth 100000 in
theorem L259_ok : L259.all (dck 259) = true := by decide +kernel
theorem d259 {j pc nx tg : Nat} {ins : Instr} (hj : L259[j]? = some (pc, ins, nx, tg)) : dcd 259 pc ins nx tg := dcl_ok L259_ok hj
set_option maxRecDepth 100000 in
set_option maxHeartbeats 4000000 in
theorem r259_0 {x1 : Int} {R1 : dsMem → Prop} {g1 : dsMem → Int} {M : dsMem} {Q : bQT} (hA1 : bCt 236 [uR 11 84, uI x1] M (fun M1 => [uI (g1 M1)]) R1) (s1 : ∀ M1 : dsMem, R1 M1 → (¬ (g1 M1) = 0) → ∀ i259_1 : Int, ∀ a259_1 : Int × Int, 0 ≤ i259_1 → i259_1 < (M1 85 4) → 0 ≤ ((6 * x1) + i259_1) ∧ ((6 * x1) + i259_1) < 78 := by intros; omega) (s2 : ∀ M1 : dsMem, R1 M1 → (¬ (g1 M1) = 0) → ∀ i259_1 : Int, ∀ a259_1 : Int × Int, 0 ≤ i259_1 → i259_1 < (M1 85 4) → -2147483648 ≤ i259_1 + 1 ∧ i259_1 + 1 < 2147483648 := by intros; omega) (k1 : ∀ M1 : dsMem, R1 M1 → (¬ (g1 M1) = 0) → (¬ (M1 85 4) = 0) → Q [uI (dsw ((((dsIter (fun (i259_1 : Int) (a259_1 : Int × Int) => ((if a259_1.1 < (M1 102 ((6 * x1) + i259_1)) then (M1 102 ((6 * x1) + i259_1)) else a259_1.1), (if (M1 102 ((6 * x1) + i259_1)) < a259_1.2 then (M1 102 ((6 * x1) + i259_1)) else a259_1.2))) 0 (M1 85 4) (0, 60)).1) - ((dsIter (fun (i259_1 : Int) (a259_1 : Int × Int) => ((if a259_1.1 < (M1 102 ((6 * x1) + i259_1)) then (M1 102 ((6 * x1) + i259_1)) else a259_1.1), (if (M1 102 ((6 * x1) + i259_1)) < a259_1.2 then (M1 102 ((6 * x1) + i259_1)) else a259_1.2))) 0 (M1 85 4) (0, 60)).2))))] M1) (k2 : ∀ M1 : dsMem, R1 M1 → (¬ (g1 M1) = 0) → ((M1 85 4) = 0) → Q [uI 0] M1) (k3 : ∀ M1 : dsMem, R1 M1 → ((g1 M1) = 0) → Q [uI (-2)] M1) :
    bB 259 0 [uR 11 84, uI x1, uX 0, uX 0, uX 0] [] M Q := by
  refine b_aload_n (d259 (j := 0) rfl) rfl ?_
  refine b_iload_n (d259 (j := 1) rfl) rfl ?_
  refine b_callV (d259 (j := 2) rfl) rfl rfl (Or.inl rfl) rfl (bCk_mk (n := 0) (k := 2) (by decide +kernel) rfl rfl) ((hA1) _ (fun M1 hR1 => ?_))
  refine b_stk [uI (g1 M1)] rfl ?_
  refine b_if_ne (d259 (j := 3) rfl) (fun c1 => ?_) (fun c1 => ?_)
  ·
    refine b_iconst (d259 (j := 6) rfl) (by decide) ?_
    refine b_istore_n [uR 11 84, uI x1, uI 0, uX 0, uX 0] (d259 (j := 7) rfl) (by decide) rfl ?_
    refine b_bipush (d259 (j := 8) rfl) (by decide) ?_
    refine b_istore_n [uR 11 84, uI x1, uI 0, uI 60, uX 0] (d259 (j := 9) rfl) (by decide) rfl ?_
    refine b_iconst (d259 (j := 10) rfl) (by decide) ?_
    refine b_istore [uR 11 84, uI x1, uI 0, uI 60, uI 0] (d259 (j := 11) rfl) (by decide) rfl ?_
    refine b_for (fun (i259_1 : Int) (a259_1 : Int × Int) => [uR 11 84, uI x1, uI (a259_1.1), uI (a259_1.2), uI i259_1]) (fun (i259_1 : Int) (a259_1 : Int × Int) => ((if a259_1.1 < (M1 102 ((6 * x1) + i259_1)) then (M1 102 ((6 * x1) + i259_1)) else a259_1.1), (if (M1 102 ((6 * x1) + i259_1)) < a259_1.2 then (M1 102 ((6 * x1) + i259_1)) else a259_1.2))) 0 (M1 85 4) (0, 60) (fun i259_1 a259_1 h259_1l h259_1r hk259_1 => ?_) (fun i259_1 h259_1l h259_1r => ?_)
    ·
      refine b_iload (d259 (j := 12) rfl) rfl ?_
      refine b_aload_n (d259 (j := 13) rfl) rfl ?_
      refine b_callV (d259 (j := 14) rfl) rfl rfl (Or.inl rfl) rfl (bCk_mk (n := 1) (k := 1) (by decide +kernel) rfl rfl) (pu185  ?_)
      refine b_stk [uI (M1 85 4), uI i259_1] rfl ?_
      refine b_icmp_ge (d259 (j := 15) rfl) (fun c2 => ?_) (fun c2 => ?_)
      · exfalso; omega
      ·
        refine b_iload_n (d259 (j := 16) rfl) rfl ?_
        refine b_aload_n (d259 (j := 17) rfl) rfl ?_
        refine b_iload (d259 (j := 18) rfl) rfl ?_
        refine b_iload_n (d259 (j := 19) rfl) rfl ?_
        refine b_callV (d259 (j := 20) rfl) rfl rfl (Or.inl rfl) rfl (bCk_mk (n := 1) (k := 3) (by decide +kernel) rfl rfl) (pu240 (s1 M1 hR1 c1 i259_1 a259_1 h259_1l h259_1r) ?_)
        refine b_stk [uI (M1 102 ((6 * x1) + i259_1)), uI (a259_1.1)] rfl ?_
        refine b_max (d259 (j := 21) rfl) rfl ⟨by decide, Nat.le_of_ble_eq_true rfl⟩ ?_
        refine b_istore_n [uR 11 84, uI x1, uI (if a259_1.1 < (M1 102 ((6 * x1) + i259_1)) then (M1 102 ((6 * x1) + i259_1)) else a259_1.1), uI (a259_1.2), uI i259_1] (d259 (j := 22) rfl) (by decide) rfl ?_
        refine b_iload_n (d259 (j := 23) rfl) rfl ?_
        refine b_aload_n (d259 (j := 24) rfl) rfl ?_
        refine b_iload (d259 (j := 25) rfl) rfl ?_
        refine b_iload_n (d259 (j := 26) rfl) rfl ?_
        refine b_callV (d259 (j := 27) rfl) rfl rfl (Or.inl rfl) rfl (bCk_mk (n := 1) (k := 3) (by decide +kernel) rfl rfl) (pu240 (s1 M1 hR1 c1 i259_1 a259_1 h259_1l h259_1r) ?_)
        refine b_stk [uI (M1 102 ((6 * x1) + i259_1)), uI (a259_1.2)] rfl ?_
        refine b_min (d259 (j := 28) rfl) rfl ⟨by decide, Nat.le_of_ble_eq_true rfl⟩ ?_
        refine b_istore_n [uR 11 84, uI x1, uI (if a259_1.1 < (M1 102 ((6 * x1) + i259_1)) then (M1 102 ((6 * x1) + i259_1)) else a259_1.1), uI (if (M1 102 ((6 * x1) + i259_1)) < a259_1.2 then (M1 102 ((6 * x1) + i259_1)) else a259_1.2), uI i259_1] (d259 (j := 29) rfl) (by decide) rfl ?_
        refine b_iinc [uR 11 84, uI x1, uI (if a259_1.1 < (M1 102 ((6 * x1) + i259_1)) then (M1 102 ((6 * x1) + i259_1)) else a259_1.1), uI (if (M1 102 ((6 * x1) + i259_1)) < a259_1.2 then (M1 102 ((6 * x1) + i259_1)) else a259_1.2), uI (i259_1 + 1)] (d259 (j := 30) rfl) rfl (by decide) (s2 M1 hR1 c1 i259_1 a259_1 h259_1l h259_1r) rfl ?_
        refine b_goto (d259 (j := 31) rfl) ?_
        exact hk259_1
    ·
      refine b_iload (d259 (j := 12) rfl) rfl ?_
      refine b_aload_n (d259 (j := 13) rfl) rfl ?_
      refine b_callV (d259 (j := 14) rfl) rfl rfl (Or.inl rfl) rfl (bCk_mk (n := 1) (k := 1) (by decide +kernel) rfl rfl) (pu185  ?_)
      refine b_stk [uI (M1 85 4), uI i259_1] rfl ?_
      refine b_icmp_ge (d259 (j := 15) rfl) (fun c3 => ?_) (fun c3 => ?_)
      rotate_left
      · exfalso; omega
      ·
        refine b_aload_n (d259 (j := 32) rfl) rfl ?_
        refine b_callV (d259 (j := 33) rfl) rfl rfl (Or.inl rfl) rfl (bCk_mk (n := 0) (k := 1) (by decide +kernel) rfl rfl) (pu185  ?_)
        refine b_stk [uI (M1 85 4)] rfl ?_
        refine b_if_ne (d259 (j := 34) rfl) (fun c4 => ?_) (fun c4 => ?_)
        ·
          refine b_iload_n (d259 (j := 37) rfl) rfl ?_
          refine b_iload_n (d259 (j := 38) rfl) rfl ?_
          refine b_isub (d259 (j := 39) rfl) rfl rfl ?_
          exact b_iret (d259 (j := 40) rfl) rfl (k1 M1 hR1 c1 c4)
        ·
          refine b_iconst (d259 (j := 35) rfl) (by decide) ?_
          refine b_goto (d259 (j := 36) rfl) ?_
          exact b_iret (d259 (j := 40) rfl) rfl (k2 M1 hR1 c1 c4)
  ·
    refine b_bipush (d259 (j := 4) rfl) (by decide) ?_
    exact b_iret (d259 (j := 5) rfl) rfl (k3 M1 hR1 c1)
def L260 : List (Nat × Instr × Nat × Nat) := [(0, .aload_n 0, 1, 0), (1, .iload_n 1, 2, 0), (2, .invokevirtual 382, 5, 0), (5, .ifCond .ne 6, 8, 11), (8, .bipush (-2), 10, 0), (10, .ireturn, 11, 0), (11, .iconst 0, 12, 0), (12, .istore_n 2, 13, 0), (13, .iconst 0, 14, 0), (14, .istore_n 3, 15, 0), (15, .iload_n 3, 16, 0), (16, .aload_n 0, 17, 0), (17, .invokevirtual 116, 20, 0), (20, .if_icmp .ge 34, 23, 54), (23, .iload_n 2, 24, 0), (24, .aload_n 0, 25, 0), (25, .iload_n 3, 26, 0), (26, .iload_n 1, 27, 0), (27, .invokevirtual 373, 30, 0), (30, .aload_n 0, 31, 0), (31, .iload_n 3, 32, 0), (32, .iconst 0, 33, 0), (33, .invokevirtual 132, 36, 0), (36, .if_icmp .ne 9, 39, 45), (39, .iconst 1, 40, 0), (40, .iload_n 3, 41, 0), (41, .ishl, 42, 0), (42, .goto 4, 45, 46), (45, .iconst 0, 46, 0), (46, .ior, 47, 0), (47, .istore_n 2, 48, 0), (48, .iinc 3 1, 51, 0), (51, .goto (-36), 54, 15), (54, .iload_n 2, 55, 0), (55, .ireturn, 56, 0)]
set_option maxRecDepth 100000 in
theorem L260_ok : L260.all (dck 260) = true := by decide +kernel
theorem d260 {j pc nx tg : Nat} {ins : Instr} (hj : L260[j]? = some (pc, ins, nx, tg)) : dcd 260 pc ins nx tg := dcl_ok L260_ok hj
set_option maxRecDepth 100000 in
set_option maxHeartbeats 4000000 in
theorem r260_0 {x1 : Int} {R1 : dsMem → Prop} {g1 : dsMem → Int} {M : dsMem} {Q : bQT} (hA1 : bCt 236 [uR 11 84, uI x1] M (fun M1 => [uI (g1 M1)]) R1) (s1 : ∀ M1 : dsMem, R1 M1 → (¬ (g1 M1) = 0) → ∀ i260_1 : Int, ∀ a260_1 : Int, 0 ≤ i260_1 → i260_1 < (M1 85 4) → 0 ≤ ((6 * x1) + i260_1) ∧ ((6 * x1) + i260_1) < 78 := by intros; omega) (s2 : ∀ M1 : dsMem, R1 M1 → (¬ (g1 M1) = 0) → ∀ i260_1 : Int, ∀ a260_1 : Int, 0 ≤ i260_1 → i260_1 < (M1 85 4) → 0 ≤ ((15 + (3 * i260_1)) + 0) ∧ ((15 + (3 * i260_1)) + 0) < 105 := by intros; omega) (s3 : ∀ M1 : dsMem, R1 M1 → (¬ (g1 M1) = 0) → ∀ i260_1 : Int, ∀ a260_1 : Int, 0 ≤ i260_1 → i260_1 < (M1 85 4) → -2147483648 ≤ i260_1 + 1 ∧ i260_1 + 1 < 2147483648 := by intros; omega) (k1 : ∀ M1 : dsMem, R1 M1 → (¬ (g1 M1) = 0) → Q [uI (dsIter (fun (i260_1 : Int) (a260_1 : Int) => (if (M1 102 ((6 * x1) + i260_1)) = (M1 85 ((15 + (3 * i260_1)) + 0)) then (dsOr a260_1 (dsShl 1 i260_1)) else (dsOr a260_1 0))) 0 (M1 85 4) 0)] M1) (k2 : ∀ M1 : dsMem, R1 M1 → ((g1 M1) = 0) → Q [uI (-2)] M1) :
    bB 260 0 [uR 11 84, uI x1, uX 0, uX 0] [] M Q := by
  refine b_aload_n (d260 (j := 0) rfl) rfl ?_
  refine b_iload_n (d260 (j := 1) rfl) rfl ?_
  refine b_callV (d260 (j := 2) rfl) rfl rfl (Or.inl rfl) rfl (bCk_mk (n := 0) (k := 2) (by decide +kernel) rfl rfl) ((hA1) _ (fun M1 hR1 => ?_))
  refine b_stk [uI (g1 M1)] rfl ?_
  refine b_if_ne (d260 (j := 3) rfl) (fun c1 => ?_) (fun c1 => ?_)
  ·
    refine b_iconst (d260 (j := 6) rfl) (by decide) ?_
    refine b_istore_n [uR 11 84, uI x1, uI 0, uX 0] (d260 (j := 7) rfl) (by decide) rfl ?_
    refine b_iconst (d260 (j := 8) rfl) (by decide) ?_
    refine b_istore_n [uR 11 84, uI x1, uI 0, uI 0] (d260 (j := 9) rfl) (by decide) rfl ?_
    refine b_for (fun (i260_1 : Int) (a260_1 : Int) => [uR 11 84, uI x1, uI a260_1, uI i260_1]) (fun (i260_1 : Int) (a260_1 : Int) => (if (M1 102 ((6 * x1) + i260_1)) = (M1 85 ((15 + (3 * i260_1)) + 0)) then (dsOr a260_1 (dsShl 1 i260_1)) else (dsOr a260_1 0))) 0 (M1 85 4) 0 (fun i260_1 a260_1 h260_1l h260_1r hk260_1 => ?_) (fun i260_1 h260_1l h260_1r => ?_)
    ·
      refine b_iload_n (d260 (j := 10) rfl) rfl ?_
      refine b_aload_n (d260 (j := 11) rfl) rfl ?_
      refine b_callV (d260 (j := 12) rfl) rfl rfl (Or.inl rfl) rfl (bCk_mk (n := 1) (k := 1) (by decide +kernel) rfl rfl) (pu185  ?_)
      refine b_stk [uI (M1 85 4), uI i260_1] rfl ?_
      refine b_icmp_ge (d260 (j := 13) rfl) (fun c2 => ?_) (fun c2 => ?_)
      · exfalso; omega
      ·
        refine b_iload_n (d260 (j := 14) rfl) rfl ?_
        refine b_aload_n (d260 (j := 15) rfl) rfl ?_
        refine b_iload_n (d260 (j := 16) rfl) rfl ?_
        refine b_iload_n (d260 (j := 17) rfl) rfl ?_
        refine b_callV (d260 (j := 18) rfl) rfl rfl (Or.inl rfl) rfl (bCk_mk (n := 1) (k := 3) (by decide +kernel) rfl rfl) (pu240 (s1 M1 hR1 c1 i260_1 a260_1 h260_1l h260_1r) ?_)
        refine b_stk [uI (M1 102 ((6 * x1) + i260_1)), uI a260_1] rfl ?_
        refine b_aload_n (d260 (j := 19) rfl) rfl ?_
        refine b_iload_n (d260 (j := 20) rfl) rfl ?_
        refine b_iconst (d260 (j := 21) rfl) (by decide) ?_
        refine b_callV (d260 (j := 22) rfl) rfl rfl (Or.inl rfl) rfl (bCk_mk (n := 2) (k := 3) (by decide +kernel) rfl rfl) (pu192 (s2 M1 hR1 c1 i260_1 a260_1 h260_1l h260_1r) ?_)
        refine b_stk [uI (M1 85 ((15 + (3 * i260_1)) + 0)), uI (M1 102 ((6 * x1) + i260_1)), uI a260_1] rfl ?_
        refine b_icmp_ne (d260 (j := 23) rfl) (fun c3 => ?_) (fun c3 => ?_)
        ·
          rw [if_neg c3] at hk260_1
          refine b_iconst (d260 (j := 28) rfl) (by decide) ?_
          refine b_ior (d260 (j := 29) rfl) ?_
          refine b_istore_n [uR 11 84, uI x1, uI (dsOr a260_1 0), uI i260_1] (d260 (j := 30) rfl) (by decide) rfl ?_
          refine b_iinc [uR 11 84, uI x1, uI (dsOr a260_1 0), uI (i260_1 + 1)] (d260 (j := 31) rfl) rfl (by decide) (s3 M1 hR1 c1 i260_1 a260_1 h260_1l h260_1r) rfl ?_
          refine b_goto (d260 (j := 32) rfl) ?_
          exact hk260_1
        ·
          rw [if_pos c3] at hk260_1
          refine b_iconst (d260 (j := 24) rfl) (by decide) ?_
          refine b_iload_n (d260 (j := 25) rfl) rfl ?_
          refine b_ishl (d260 (j := 26) rfl) ?_
          refine b_goto (d260 (j := 27) rfl) ?_
          refine b_ior (d260 (j := 29) rfl) ?_
          refine b_istore_n [uR 11 84, uI x1, uI (dsOr a260_1 (dsShl 1 i260_1)), uI i260_1] (d260 (j := 30) rfl) (by decide) rfl ?_
          refine b_iinc [uR 11 84, uI x1, uI (dsOr a260_1 (dsShl 1 i260_1)), uI (i260_1 + 1)] (d260 (j := 31) rfl) rfl (by decide) (s3 M1 hR1 c1 i260_1 a260_1 h260_1l h260_1r) rfl ?_
          refine b_goto (d260 (j := 32) rfl) ?_
          exact hk260_1
    ·
      refine b_iload_n (d260 (j := 10) rfl) rfl ?_
      refine b_aload_n (d260 (j := 11) rfl) rfl ?_
      refine b_callV (d260 (j := 12) rfl) rfl rfl (Or.inl rfl) rfl (bCk_mk (n := 1) (k := 1) (by decide +kernel) rfl rfl) (pu185  ?_)
      refine b_stk [uI (M1 85 4), uI i260_1] rfl ?_
      refine b_icmp_ge (d260 (j := 13) rfl) (fun c4 => ?_) (fun c4 => ?_)
      rotate_left
      · exfalso; omega
      ·
        refine b_iload_n (d260 (j := 33) rfl) rfl ?_
        exact b_iret (d260 (j := 34) rfl) rfl (k1 M1 hR1 c1)
  ·
    refine b_bipush (d260 (j := 4) rfl) (by decide) ?_
    exact b_iret (d260 (j := 5) rfl) rfl (k2 M1 hR1 c1)
def L261 : List (Nat × Instr × Nat × Nat) := [(0, .aload_n 0, 1, 0), (1, .iload_n 1, 2, 0), (2, .invokevirtual 392, 5, 0), (5, .ifCond .ne 6, 8, 11), (8, .bipush (-2), 10, 0), (10, .ireturn, 11, 0), (11, .iconst 0, 12, 0), (12, .istore_n 2, 13, 0), (13, .iload_n 2, 14, 0), (14, .aload_n 0, 15, 0), (15, .invokevirtual 124, 18, 0), (18, .if_icmp .gt 26, 21, 44), (21, .aload_n 0, 22, 0), (22, .iload_n 1, 23, 0), (23, .iload_n 2, 24, 0), (24, .invokevirtual 373, 27, 0), (27, .aload_n 0, 28, 0), (28, .iload_n 1, 29, 0), (29, .iconst 0, 30, 0), (30, .invokevirtual 132, 33, 0), (33, .if_icmp .ne 5, 36, 38), (36, .iload_n 2, 37, 0), (37, .ireturn, 38, 0), (38, .iinc 2 1, 41, 0), (41, .goto (-28), 44, 13), (44, .iconst (-1), 45, 0), (45, .ireturn, 46, 0)]
set_option maxRecDepth 100000 in
theorem L261_ok : L261.all (dck 261) = true := by decide +kernel
theorem d261 {j pc nx tg : Nat} {ins : Instr} (hj : L261[j]? = some (pc, ins, nx, tg)) : dcd 261 pc ins nx tg := dcl_ok L261_ok hj
set_option maxRecDepth 100000 in
set_option maxHeartbeats 4000000 in
theorem r261_0 {x1 : Int} {R1 : dsMem → Prop} {g1 : dsMem → Int} {M : dsMem} {Q : bQT} (hA1 : bCt 238 [uR 11 84, uI x1] M (fun M1 => [uI (g1 M1)]) R1) (s1 : ∀ M1 : dsMem, R1 M1 → (¬ (g1 M1) = 0) → ∀ i261_1 : Int, 0 ≤ i261_1 → i261_1 < ((M1 85 0) + 1) → 0 ≤ ((6 * i261_1) + x1) ∧ ((6 * i261_1) + x1) < 78 := by intros; omega) (s2 : ∀ M1 : dsMem, R1 M1 → (¬ (g1 M1) = 0) → ∀ i261_1 : Int, 0 ≤ i261_1 → i261_1 < ((M1 85 0) + 1) → 0 ≤ ((15 + (3 * x1)) + 0) ∧ ((15 + (3 * x1)) + 0) < 105 := by intros; omega) (s3 : ∀ M1 : dsMem, R1 M1 → (¬ (g1 M1) = 0) → ∀ i261_1 : Int, 0 ≤ i261_1 → i261_1 < ((M1 85 0) + 1) → -2147483648 ≤ i261_1 + 1 ∧ i261_1 + 1 < 2147483648 := by intros; omega) (k1 : ∀ M1 : dsMem, R1 M1 → (¬ (g1 M1) = 0) → ((dsFind (fun (i261_1 : Int) => (M1 102 ((6 * i261_1) + x1)) = (M1 85 ((15 + (3 * x1)) + 0))) 0 ((M1 85 0) + 1)) < ((M1 85 0) + 1)) → Q [uI (dsFind (fun (i261_1 : Int) => (M1 102 ((6 * i261_1) + x1)) = (M1 85 ((15 + (3 * x1)) + 0))) 0 ((M1 85 0) + 1))] M1) (k2 : ∀ M1 : dsMem, R1 M1 → (¬ (g1 M1) = 0) → (¬ (dsFind (fun (i261_1 : Int) => (M1 102 ((6 * i261_1) + x1)) = (M1 85 ((15 + (3 * x1)) + 0))) 0 ((M1 85 0) + 1)) < ((M1 85 0) + 1)) → Q [uI (-1)] M1) (k3 : ∀ M1 : dsMem, R1 M1 → ((g1 M1) = 0) → Q [uI (-2)] M1) :
    bB 261 0 [uR 11 84, uI x1, uX 0] [] M Q := by
  refine b_aload_n (d261 (j := 0) rfl) rfl ?_
  refine b_iload_n (d261 (j := 1) rfl) rfl ?_
  refine b_callV (d261 (j := 2) rfl) rfl rfl (Or.inl rfl) rfl (bCk_mk (n := 0) (k := 2) (by decide +kernel) rfl rfl) ((hA1) _ (fun M1 hR1 => ?_))
  refine b_stk [uI (g1 M1)] rfl ?_
  refine b_if_ne (d261 (j := 3) rfl) (fun c1 => ?_) (fun c1 => ?_)
  ·
    refine b_iconst (d261 (j := 6) rfl) (by decide) ?_
    refine b_istore_n [uR 11 84, uI x1, uI 0] (d261 (j := 7) rfl) (by decide) rfl ?_
    refine b_find (fun (i261_1 : Int) => [uR 11 84, uI x1, uI i261_1]) (fun (i261_1 : Int) => (M1 102 ((6 * i261_1) + x1)) = (M1 85 ((15 + (3 * x1)) + 0))) 0 ((M1 85 0) + 1) (fun i261_1 h261_1l h261_1r hn hk261_1 => ?_) (fun i261_1 h261_1l h261_1r hp he => ?_) (fun i261_1 h261_1l h261_1r he => ?_)
    ·
      refine b_iload_n (d261 (j := 8) rfl) rfl ?_
      refine b_aload_n (d261 (j := 9) rfl) rfl ?_
      refine b_callV (d261 (j := 10) rfl) rfl rfl (Or.inl rfl) rfl (bCk_mk (n := 1) (k := 1) (by decide +kernel) rfl rfl) (pu183  ?_)
      refine b_stk [uI (M1 85 0), uI i261_1] rfl ?_
      refine b_icmp_gt (d261 (j := 11) rfl) (fun c2 => ?_) (fun c2 => ?_)
      · exfalso; omega
      ·
        refine b_aload_n (d261 (j := 12) rfl) rfl ?_
        refine b_iload_n (d261 (j := 13) rfl) rfl ?_
        refine b_iload_n (d261 (j := 14) rfl) rfl ?_
        refine b_callV (d261 (j := 15) rfl) rfl rfl (Or.inl rfl) rfl (bCk_mk (n := 0) (k := 3) (by decide +kernel) rfl rfl) (pu240 (s1 M1 hR1 c1 i261_1 h261_1l h261_1r) ?_)
        refine b_stk [uI (M1 102 ((6 * i261_1) + x1))] rfl ?_
        refine b_aload_n (d261 (j := 16) rfl) rfl ?_
        refine b_iload_n (d261 (j := 17) rfl) rfl ?_
        refine b_iconst (d261 (j := 18) rfl) (by decide) ?_
        refine b_callV (d261 (j := 19) rfl) rfl rfl (Or.inl rfl) rfl (bCk_mk (n := 1) (k := 3) (by decide +kernel) rfl rfl) (pu192 (s2 M1 hR1 c1 i261_1 h261_1l h261_1r) ?_)
        refine b_stk [uI (M1 85 ((15 + (3 * x1)) + 0)), uI (M1 102 ((6 * i261_1) + x1))] rfl ?_
        refine b_icmp_ne (d261 (j := 20) rfl) (fun c3 => ?_) (fun c3 => ?_)
        ·
          refine b_iinc [uR 11 84, uI x1, uI (i261_1 + 1)] (d261 (j := 23) rfl) rfl (by decide) (s3 M1 hR1 c1 i261_1 h261_1l h261_1r) rfl ?_
          refine b_goto (d261 (j := 24) rfl) ?_
          exact hk261_1
        ·
          refine b_iload_n (d261 (j := 21) rfl) rfl ?_
          exfalso; omega
    ·
      subst he
      refine b_iload_n (d261 (j := 8) rfl) rfl ?_
      refine b_aload_n (d261 (j := 9) rfl) rfl ?_
      refine b_callV (d261 (j := 10) rfl) rfl rfl (Or.inl rfl) rfl (bCk_mk (n := 1) (k := 1) (by decide +kernel) rfl rfl) (pu183  ?_)
      refine b_stk [uI (M1 85 0), uI (dsFind (fun (i261_1 : Int) => (M1 102 ((6 * i261_1) + x1)) = (M1 85 ((15 + (3 * x1)) + 0))) 0 ((M1 85 0) + 1))] rfl ?_
      refine b_icmp_gt (d261 (j := 11) rfl) (fun c4 => ?_) (fun c4 => ?_)
      · exfalso; omega
      ·
        refine b_aload_n (d261 (j := 12) rfl) rfl ?_
        refine b_iload_n (d261 (j := 13) rfl) rfl ?_
        refine b_iload_n (d261 (j := 14) rfl) rfl ?_
        refine b_callV (d261 (j := 15) rfl) rfl rfl (Or.inl rfl) rfl (bCk_mk (n := 0) (k := 3) (by decide +kernel) rfl rfl) (pu240 (s1 M1 hR1 c1 (dsFind (fun (i261_1 : Int) => (M1 102 ((6 * i261_1) + x1)) = (M1 85 ((15 + (3 * x1)) + 0))) 0 ((M1 85 0) + 1)) h261_1l h261_1r) ?_)
        refine b_stk [uI (M1 102 ((6 * (dsFind (fun (i261_1 : Int) => (M1 102 ((6 * i261_1) + x1)) = (M1 85 ((15 + (3 * x1)) + 0))) 0 ((M1 85 0) + 1))) + x1))] rfl ?_
        refine b_aload_n (d261 (j := 16) rfl) rfl ?_
        refine b_iload_n (d261 (j := 17) rfl) rfl ?_
        refine b_iconst (d261 (j := 18) rfl) (by decide) ?_
        refine b_callV (d261 (j := 19) rfl) rfl rfl (Or.inl rfl) rfl (bCk_mk (n := 1) (k := 3) (by decide +kernel) rfl rfl) (pu192 (s2 M1 hR1 c1 (dsFind (fun (i261_1 : Int) => (M1 102 ((6 * i261_1) + x1)) = (M1 85 ((15 + (3 * x1)) + 0))) 0 ((M1 85 0) + 1)) h261_1l h261_1r) ?_)
        refine b_stk [uI (M1 85 ((15 + (3 * x1)) + 0)), uI (M1 102 ((6 * (dsFind (fun (i261_1 : Int) => (M1 102 ((6 * i261_1) + x1)) = (M1 85 ((15 + (3 * x1)) + 0))) 0 ((M1 85 0) + 1))) + x1))] rfl ?_
        refine b_icmp_ne (d261 (j := 20) rfl) (fun c5 => ?_) (fun c5 => ?_)
        ·
          refine b_iinc [uR 11 84, uI x1, uI ((dsFind (fun (i261_1 : Int) => (M1 102 ((6 * i261_1) + x1)) = (M1 85 ((15 + (3 * x1)) + 0))) 0 ((M1 85 0) + 1)) + 1)] (d261 (j := 23) rfl) rfl (by decide) (s3 M1 hR1 c1 (dsFind (fun (i261_1 : Int) => (M1 102 ((6 * i261_1) + x1)) = (M1 85 ((15 + (3 * x1)) + 0))) 0 ((M1 85 0) + 1)) h261_1l h261_1r) rfl ?_
          refine b_goto (d261 (j := 24) rfl) ?_
          exfalso; omega
        ·
          refine b_iload_n (d261 (j := 21) rfl) rfl ?_
          exact b_iret (d261 (j := 22) rfl) rfl (k1 M1 hR1 c1 h261_1r)
    ·
      refine b_iload_n (d261 (j := 8) rfl) rfl ?_
      refine b_aload_n (d261 (j := 9) rfl) rfl ?_
      refine b_callV (d261 (j := 10) rfl) rfl rfl (Or.inl rfl) rfl (bCk_mk (n := 1) (k := 1) (by decide +kernel) rfl rfl) (pu183  ?_)
      refine b_stk [uI (M1 85 0), uI i261_1] rfl ?_
      refine b_icmp_gt (d261 (j := 11) rfl) (fun c6 => ?_) (fun c6 => ?_)
      rotate_left
      · exfalso; omega
      ·
        refine b_iconst (d261 (j := 25) rfl) (by decide) ?_
        exact b_iret (d261 (j := 26) rfl) rfl (k2 M1 hR1 c1 he)
  ·
    refine b_bipush (d261 (j := 4) rfl) (by decide) ?_
    exact b_iret (d261 (j := 5) rfl) rfl (k3 M1 hR1 c1)
def L262 : List (Nat × Instr × Nat × Nat) := [(0, .aload_n 0, 1, 0), (1, .iload_n 1, 2, 0), (2, .invokevirtual 392, 5, 0), (5, .ifCond .ne 6, 8, 11), (8, .bipush (-2), 10, 0), (10, .ireturn, 11, 0), (11, .iconst 0, 12, 0), (12, .istore_n 2, 13, 0), (13, .iconst 0, 14, 0), (14, .istore_n 3, 15, 0), (15, .iload_n 3, 16, 0), (16, .aload_n 0, 17, 0), (17, .invokevirtual 124, 20, 0), (20, .if_icmp .gt 20, 23, 40), (23, .iload_n 2, 24, 0), (24, .aload_n 0, 25, 0), (25, .iload_n 1, 26, 0), (26, .iload_n 3, 27, 0), (27, .invokevirtual 373, 30, 0), (30, .invokestatic 313, 33, 0), (33, .istore_n 2, 34, 0), (34, .iinc 3 1, 37, 0), (37, .goto (-22), 40, 15), (40, .iload_n 2, 41, 0), (41, .ireturn, 42, 0)]
set_option maxRecDepth 100000 in
theorem L262_ok : L262.all (dck 262) = true := by decide +kernel
theorem d262 {j pc nx tg : Nat} {ins : Instr} (hj : L262[j]? = some (pc, ins, nx, tg)) : dcd 262 pc ins nx tg := dcl_ok L262_ok hj
set_option maxRecDepth 100000 in
set_option maxHeartbeats 4000000 in
theorem r262_0 {x1 : Int} {R1 : dsMem → Prop} {g1 : dsMem → Int} {M : dsMem} {Q : bQT} (hA1 : bCt 238 [uR 11 84, uI x1] M (fun M1 => [uI (g1 M1)]) R1) (s1 : ∀ M1 : dsMem, R1 M1 → (¬ (g1 M1) = 0) → ∀ i262_1 : Int, ∀ a262_1 : Int, 0 ≤ i262_1 → i262_1 < ((M1 85 0) + 1) → 0 ≤ ((6 * i262_1) + x1) ∧ ((6 * i262_1) + x1) < 78 := by intros; omega) (s2 : ∀ M1 : dsMem, R1 M1 → (¬ (g1 M1) = 0) → ∀ i262_1 : Int, ∀ a262_1 : Int, 0 ≤ i262_1 → i262_1 < ((M1 85 0) + 1) → -2147483648 ≤ i262_1 + 1 ∧ i262_1 + 1 < 2147483648 := by intros; omega) (k1 : ∀ M1 : dsMem, R1 M1 → (¬ (g1 M1) = 0) → Q [uI (dsIter (fun (i262_1 : Int) (a262_1 : Int) => (if a262_1 < (M1 102 ((6 * i262_1) + x1)) then (M1 102 ((6 * i262_1) + x1)) else a262_1)) 0 ((M1 85 0) + 1) 0)] M1) (k2 : ∀ M1 : dsMem, R1 M1 → ((g1 M1) = 0) → Q [uI (-2)] M1) :
    bB 262 0 [uR 11 84, uI x1, uX 0, uX 0] [] M Q := by
  refine b_aload_n (d262 (j := 0) rfl) rfl ?_
  refine b_iload_n (d262 (j := 1) rfl) rfl ?_
  refine b_callV (d262 (j := 2) rfl) rfl rfl (Or.inl rfl) rfl (bCk_mk (n := 0) (k := 2) (by decide +kernel) rfl rfl) ((hA1) _ (fun M1 hR1 => ?_))
  refine b_stk [uI (g1 M1)] rfl ?_
  refine b_if_ne (d262 (j := 3) rfl) (fun c1 => ?_) (fun c1 => ?_)
  ·
    refine b_iconst (d262 (j := 6) rfl) (by decide) ?_
    refine b_istore_n [uR 11 84, uI x1, uI 0, uX 0] (d262 (j := 7) rfl) (by decide) rfl ?_
    refine b_iconst (d262 (j := 8) rfl) (by decide) ?_
    refine b_istore_n [uR 11 84, uI x1, uI 0, uI 0] (d262 (j := 9) rfl) (by decide) rfl ?_
    refine b_for (fun (i262_1 : Int) (a262_1 : Int) => [uR 11 84, uI x1, uI a262_1, uI i262_1]) (fun (i262_1 : Int) (a262_1 : Int) => (if a262_1 < (M1 102 ((6 * i262_1) + x1)) then (M1 102 ((6 * i262_1) + x1)) else a262_1)) 0 ((M1 85 0) + 1) 0 (fun i262_1 a262_1 h262_1l h262_1r hk262_1 => ?_) (fun i262_1 h262_1l h262_1r => ?_)
    ·
      refine b_iload_n (d262 (j := 10) rfl) rfl ?_
      refine b_aload_n (d262 (j := 11) rfl) rfl ?_
      refine b_callV (d262 (j := 12) rfl) rfl rfl (Or.inl rfl) rfl (bCk_mk (n := 1) (k := 1) (by decide +kernel) rfl rfl) (pu183  ?_)
      refine b_stk [uI (M1 85 0), uI i262_1] rfl ?_
      refine b_icmp_gt (d262 (j := 13) rfl) (fun c2 => ?_) (fun c2 => ?_)
      · exfalso; omega
      ·
        refine b_iload_n (d262 (j := 14) rfl) rfl ?_
        refine b_aload_n (d262 (j := 15) rfl) rfl ?_
        refine b_iload_n (d262 (j := 16) rfl) rfl ?_
        refine b_iload_n (d262 (j := 17) rfl) rfl ?_
        refine b_callV (d262 (j := 18) rfl) rfl rfl (Or.inl rfl) rfl (bCk_mk (n := 1) (k := 3) (by decide +kernel) rfl rfl) (pu240 (s1 M1 hR1 c1 i262_1 a262_1 h262_1l h262_1r) ?_)
        refine b_stk [uI (M1 102 ((6 * i262_1) + x1)), uI a262_1] rfl ?_
        refine b_max (d262 (j := 19) rfl) rfl ⟨by decide, Nat.le_of_ble_eq_true rfl⟩ ?_
        refine b_istore_n [uR 11 84, uI x1, uI (if a262_1 < (M1 102 ((6 * i262_1) + x1)) then (M1 102 ((6 * i262_1) + x1)) else a262_1), uI i262_1] (d262 (j := 20) rfl) (by decide) rfl ?_
        refine b_iinc [uR 11 84, uI x1, uI (if a262_1 < (M1 102 ((6 * i262_1) + x1)) then (M1 102 ((6 * i262_1) + x1)) else a262_1), uI (i262_1 + 1)] (d262 (j := 21) rfl) rfl (by decide) (s2 M1 hR1 c1 i262_1 a262_1 h262_1l h262_1r) rfl ?_
        refine b_goto (d262 (j := 22) rfl) ?_
        exact hk262_1
    ·
      refine b_iload_n (d262 (j := 10) rfl) rfl ?_
      refine b_aload_n (d262 (j := 11) rfl) rfl ?_
      refine b_callV (d262 (j := 12) rfl) rfl rfl (Or.inl rfl) rfl (bCk_mk (n := 1) (k := 1) (by decide +kernel) rfl rfl) (pu183  ?_)
      refine b_stk [uI (M1 85 0), uI i262_1] rfl ?_
      refine b_icmp_gt (d262 (j := 13) rfl) (fun c3 => ?_) (fun c3 => ?_)
      rotate_left
      · exfalso; omega
      ·
        refine b_iload_n (d262 (j := 23) rfl) rfl ?_
        exact b_iret (d262 (j := 24) rfl) rfl (k1 M1 hR1 c1)
  ·
    refine b_bipush (d262 (j := 4) rfl) (by decide) ?_
    exact b_iret (d262 (j := 5) rfl) rfl (k2 M1 hR1 c1)
def L263 : List (Nat × Instr × Nat × Nat) := [(0, .aload_n 0, 1, 0), (1, .iload_n 1, 2, 0), (2, .invokevirtual 382, 5, 0), (5, .ifCond .eq 11, 8, 16), (8, .aload_n 0, 9, 0), (9, .iload_n 1, 10, 0), (10, .invokevirtual 376, 13, 0), (13, .goto 5, 16, 18), (16, .bipush (-2), 18, 0), (18, .ireturn, 19, 0)]
set_option maxRecDepth 100000 in
theorem L263_ok : L263.all (dck 263) = true := by decide +kernel
theorem d263 {j pc nx tg : Nat} {ins : Instr} (hj : L263[j]? = some (pc, ins, nx, tg)) : dcd 263 pc ins nx tg := dcl_ok L263_ok hj
set_option maxRecDepth 100000 in
set_option maxHeartbeats 4000000 in
theorem r263_0 {x1 : Int} {R1 : dsMem → Prop} {g1 : dsMem → Int} {M : dsMem} {Q : bQT} (hA1 : bCt 236 [uR 11 84, uI x1] M (fun M1 => [uI (g1 M1)]) R1) (k1 : ∀ M1 : dsMem, R1 M1 → ((g1 M1) = 0) → Q [uI (-2)] M1) (s1 : ∀ M1 : dsMem, R1 M1 → (¬ (g1 M1) = 0) → ∀ i242_1 : Int, ∀ a242_1 : Int, 0 ≤ i242_1 → i242_1 < (M1 85 4) → 0 ≤ ((6 * x1) + i242_1) ∧ ((6 * x1) + i242_1) < 78 := by intros; omega) (s2 : ∀ M1 : dsMem, R1 M1 → (¬ (g1 M1) = 0) → ∀ i242_1 : Int, ∀ a242_1 : Int, 0 ≤ i242_1 → i242_1 < (M1 85 4) → -2147483648 ≤ i242_1 + 1 ∧ i242_1 + 1 < 2147483648 := by intros; omega) (k2 : ∀ M1 : dsMem, R1 M1 → (¬ (g1 M1) = 0) → Q [uI (v242 M1 x1)] M1) :
    bB 263 0 [uR 11 84, uI x1] [] M Q := by
  refine b_aload_n (d263 (j := 0) rfl) rfl ?_
  refine b_iload_n (d263 (j := 1) rfl) rfl ?_
  refine b_callV (d263 (j := 2) rfl) rfl rfl (Or.inl rfl) rfl (bCk_mk (n := 0) (k := 2) (by decide +kernel) rfl rfl) ((hA1) _ (fun M1 hR1 => ?_))
  refine b_stk [uI (g1 M1)] rfl ?_
  refine b_if_eq (d263 (j := 3) rfl) (fun c1 => ?_) (fun c1 => ?_)
  ·
    refine b_bipush (d263 (j := 8) rfl) (by decide) ?_
    exact b_iret (d263 (j := 9) rfl) rfl (k1 M1 hR1 c1)
  ·
    refine b_aload_n (d263 (j := 4) rfl) rfl ?_
    refine b_iload_n (d263 (j := 5) rfl) rfl ?_
    refine b_callV (d263 (j := 6) rfl) rfl rfl (Or.inl rfl) rfl (bCk_mk (n := 0) (k := 2) (by decide +kernel) rfl rfl) (fx242 (s1 M1 hR1 c1) (s2 M1 hR1 c1) ?_)
    refine b_stk [uI (v242 M1 x1)] rfl ?_
    refine b_goto (d263 (j := 7) rfl) ?_
    exact b_iret (d263 (j := 9) rfl) rfl (k2 M1 hR1 c1)
def L264 : List (Nat × Instr × Nat × Nat) := [(0, .aload_n 0, 1, 0), (1, .iload_n 1, 2, 0), (2, .invokevirtual 382, 5, 0), (5, .ifCond .ne 6, 8, 11), (8, .bipush (-2), 10, 0), (10, .ireturn, 11, 0), (11, .iconst (-1), 12, 0), (12, .istore_n 2, 13, 0), (13, .iconst 0, 14, 0), (14, .istore_n 3, 15, 0), (15, .iload_n 3, 16, 0), (16, .aload_n 0, 17, 0), (17, .invokevirtual 116, 20, 0), (20, .if_icmp .ge 31, 23, 51), (23, .iload_n 2, 24, 0), (24, .iconst (-1), 25, 0), (25, .if_icmp .eq 18, 28, 43), (28, .aload_n 0, 29, 0), (29, .iload_n 3, 30, 0), (30, .iload_n 1, 31, 0), (31, .invokevirtual 373, 34, 0), (34, .aload_n 0, 35, 0), (35, .iload_n 2, 36, 0), (36, .iload_n 1, 37, 0), (37, .invokevirtual 373, 40, 0), (40, .if_icmp .le 5, 43, 45), (43, .iload_n 3, 44, 0), (44, .istore_n 2, 45, 0), (45, .iinc 3 1, 48, 0), (48, .goto (-33), 51, 15), (51, .iload_n 2, 52, 0), (52, .ireturn, 53, 0)]
set_option maxRecDepth 100000 in
theorem L264_ok : L264.all (dck 264) = true := by decide +kernel
theorem d264 {j pc nx tg : Nat} {ins : Instr} (hj : L264[j]? = some (pc, ins, nx, tg)) : dcd 264 pc ins nx tg := dcl_ok L264_ok hj
set_option maxRecDepth 100000 in
set_option maxHeartbeats 4000000 in
theorem r264_0 {x1 : Int} {R1 : dsMem → Prop} {g1 : dsMem → Int} {M : dsMem} {Q : bQT} (hA1 : bCt 236 [uR 11 84, uI x1] M (fun M1 => [uI (g1 M1)]) R1) (s1 : ∀ M1 : dsMem, R1 M1 → (¬ (g1 M1) = 0) → ∀ i264_1 : Int, ∀ a264_1 : Int, 0 ≤ i264_1 → i264_1 < (M1 85 4) → -2147483648 ≤ i264_1 + 1 ∧ i264_1 + 1 < 2147483648 := by intros; omega) (s2 : ∀ M1 : dsMem, R1 M1 → (¬ (g1 M1) = 0) → ∀ i264_1 : Int, ∀ a264_1 : Int, 0 ≤ i264_1 → i264_1 < (M1 85 4) → (¬ a264_1 = -1) → 0 ≤ ((6 * x1) + i264_1) ∧ ((6 * x1) + i264_1) < 78 := by intros; omega) (s3 : ∀ M1 : dsMem, R1 M1 → (¬ (g1 M1) = 0) → ∀ i264_1 : Int, ∀ a264_1 : Int, 0 ≤ i264_1 → i264_1 < (M1 85 4) → (¬ a264_1 = -1) → 0 ≤ ((6 * x1) + a264_1) ∧ ((6 * x1) + a264_1) < 78 := by intros; omega) (k1 : ∀ M1 : dsMem, R1 M1 → (¬ (g1 M1) = 0) → Q [uI (dsIter (fun (i264_1 : Int) (a264_1 : Int) => (if a264_1 = -1 then i264_1 else (if (M1 102 ((6 * x1) + i264_1)) ≤ (M1 102 ((6 * x1) + a264_1)) then a264_1 else i264_1))) 0 (M1 85 4) (-1))] M1) (k2 : ∀ M1 : dsMem, R1 M1 → ((g1 M1) = 0) → Q [uI (-2)] M1) :
    bB 264 0 [uR 11 84, uI x1, uX 0, uX 0] [] M Q := by
  refine b_aload_n (d264 (j := 0) rfl) rfl ?_
  refine b_iload_n (d264 (j := 1) rfl) rfl ?_
  refine b_callV (d264 (j := 2) rfl) rfl rfl (Or.inl rfl) rfl (bCk_mk (n := 0) (k := 2) (by decide +kernel) rfl rfl) ((hA1) _ (fun M1 hR1 => ?_))
  refine b_stk [uI (g1 M1)] rfl ?_
  refine b_if_ne (d264 (j := 3) rfl) (fun c1 => ?_) (fun c1 => ?_)
  ·
    refine b_iconst (d264 (j := 6) rfl) (by decide) ?_
    refine b_istore_n [uR 11 84, uI x1, uI (-1), uX 0] (d264 (j := 7) rfl) (by decide) rfl ?_
    refine b_iconst (d264 (j := 8) rfl) (by decide) ?_
    refine b_istore_n [uR 11 84, uI x1, uI (-1), uI 0] (d264 (j := 9) rfl) (by decide) rfl ?_
    refine b_for (fun (i264_1 : Int) (a264_1 : Int) => [uR 11 84, uI x1, uI a264_1, uI i264_1]) (fun (i264_1 : Int) (a264_1 : Int) => (if a264_1 = -1 then i264_1 else (if (M1 102 ((6 * x1) + i264_1)) ≤ (M1 102 ((6 * x1) + a264_1)) then a264_1 else i264_1))) 0 (M1 85 4) (-1) (fun i264_1 a264_1 h264_1l h264_1r hk264_1 => ?_) (fun i264_1 h264_1l h264_1r => ?_)
    ·
      refine b_iload_n (d264 (j := 10) rfl) rfl ?_
      refine b_aload_n (d264 (j := 11) rfl) rfl ?_
      refine b_callV (d264 (j := 12) rfl) rfl rfl (Or.inl rfl) rfl (bCk_mk (n := 1) (k := 1) (by decide +kernel) rfl rfl) (pu185  ?_)
      refine b_stk [uI (M1 85 4), uI i264_1] rfl ?_
      refine b_icmp_ge (d264 (j := 13) rfl) (fun c2 => ?_) (fun c2 => ?_)
      · exfalso; omega
      ·
        refine b_iload_n (d264 (j := 14) rfl) rfl ?_
        refine b_iconst (d264 (j := 15) rfl) (by decide) ?_
        refine b_icmp_eq (d264 (j := 16) rfl) (fun c3 => ?_) (fun c3 => ?_)
        ·
          rw [if_pos c3] at hk264_1
          refine b_iload_n (d264 (j := 26) rfl) rfl ?_
          refine b_istore_n [uR 11 84, uI x1, uI i264_1, uI i264_1] (d264 (j := 27) rfl) (by decide) rfl ?_
          refine b_iinc [uR 11 84, uI x1, uI i264_1, uI (i264_1 + 1)] (d264 (j := 28) rfl) rfl (by decide) (s1 M1 hR1 c1 i264_1 a264_1 h264_1l h264_1r) rfl ?_
          refine b_goto (d264 (j := 29) rfl) ?_
          exact hk264_1
        ·
          rw [if_neg c3] at hk264_1
          refine b_aload_n (d264 (j := 17) rfl) rfl ?_
          refine b_iload_n (d264 (j := 18) rfl) rfl ?_
          refine b_iload_n (d264 (j := 19) rfl) rfl ?_
          refine b_callV (d264 (j := 20) rfl) rfl rfl (Or.inl rfl) rfl (bCk_mk (n := 0) (k := 3) (by decide +kernel) rfl rfl) (pu240 (s2 M1 hR1 c1 i264_1 a264_1 h264_1l h264_1r c3) ?_)
          refine b_stk [uI (M1 102 ((6 * x1) + i264_1))] rfl ?_
          refine b_aload_n (d264 (j := 21) rfl) rfl ?_
          refine b_iload_n (d264 (j := 22) rfl) rfl ?_
          refine b_iload_n (d264 (j := 23) rfl) rfl ?_
          refine b_callV (d264 (j := 24) rfl) rfl rfl (Or.inl rfl) rfl (bCk_mk (n := 1) (k := 3) (by decide +kernel) rfl rfl) (pu240 (s3 M1 hR1 c1 i264_1 a264_1 h264_1l h264_1r c3) ?_)
          refine b_stk [uI (M1 102 ((6 * x1) + a264_1)), uI (M1 102 ((6 * x1) + i264_1))] rfl ?_
          refine b_icmp_le (d264 (j := 25) rfl) (fun c4 => ?_) (fun c4 => ?_)
          ·
            rw [if_pos c4] at hk264_1
            refine b_iinc [uR 11 84, uI x1, uI a264_1, uI (i264_1 + 1)] (d264 (j := 28) rfl) rfl (by decide) (s1 M1 hR1 c1 i264_1 a264_1 h264_1l h264_1r) rfl ?_
            refine b_goto (d264 (j := 29) rfl) ?_
            exact hk264_1
          ·
            rw [if_neg c4] at hk264_1
            refine b_iload_n (d264 (j := 26) rfl) rfl ?_
            refine b_istore_n [uR 11 84, uI x1, uI i264_1, uI i264_1] (d264 (j := 27) rfl) (by decide) rfl ?_
            refine b_iinc [uR 11 84, uI x1, uI i264_1, uI (i264_1 + 1)] (d264 (j := 28) rfl) rfl (by decide) (s1 M1 hR1 c1 i264_1 a264_1 h264_1l h264_1r) rfl ?_
            refine b_goto (d264 (j := 29) rfl) ?_
            exact hk264_1
    ·
      refine b_iload_n (d264 (j := 10) rfl) rfl ?_
      refine b_aload_n (d264 (j := 11) rfl) rfl ?_
      refine b_callV (d264 (j := 12) rfl) rfl rfl (Or.inl rfl) rfl (bCk_mk (n := 1) (k := 1) (by decide +kernel) rfl rfl) (pu185  ?_)
      refine b_stk [uI (M1 85 4), uI i264_1] rfl ?_
      refine b_icmp_ge (d264 (j := 13) rfl) (fun c5 => ?_) (fun c5 => ?_)
      rotate_left
      · exfalso; omega
      ·
        refine b_iload_n (d264 (j := 30) rfl) rfl ?_
        exact b_iret (d264 (j := 31) rfl) rfl (k1 M1 hR1 c1)
  ·
    refine b_bipush (d264 (j := 4) rfl) (by decide) ?_
    exact b_iret (d264 (j := 5) rfl) rfl (k2 M1 hR1 c1)
def L265 : List (Nat × Instr × Nat × Nat) := [(0, .aload_n 0, 1, 0), (1, .iload_n 1, 2, 0), (2, .invokevirtual 382, 5, 0), (5, .ifCond .ne 6, 8, 11), (8, .bipush (-2), 10, 0), (10, .ireturn, 11, 0), (11, .iconst 0, 12, 0), (12, .istore_n 2, 13, 0), (13, .iconst 0, 14, 0), (14, .istore_n 3, 15, 0), (15, .iload_n 3, 16, 0), (16, .aload_n 0, 17, 0), (17, .invokevirtual 116, 20, 0), (20, .if_icmp .ge 46, 23, 66), (23, .iconst 1, 24, 0), (24, .istore 4, 26, 0), (26, .iload 4, 28, 0), (28, .iconst 5, 29, 0), (29, .if_icmp .gt 31, 32, 60), (32, .iload_n 2, 33, 0), (33, .aload_n 0, 34, 0), (34, .iload_n 3, 35, 0), (35, .iload_n 1, 36, 0), (36, .iload 4, 38, 0), (38, .invokevirtual 388, 41, 0), (41, .ifCond .le 10, 44, 51), (44, .iconst 1, 45, 0), (45, .iload 4, 47, 0), (47, .ishl, 48, 0), (48, .goto 4, 51, 52), (51, .iconst 0, 52, 0), (52, .ior, 53, 0), (53, .istore_n 2, 54, 0), (54, .iinc 4 1, 57, 0), (57, .goto (-31), 60, 26), (60, .iinc 3 1, 63, 0), (63, .goto (-48), 66, 15), (66, .iload_n 2, 67, 0), (67, .ireturn, 68, 0)]
set_option maxRecDepth 100000 in
theorem L265_ok : L265.all (dck 265) = true := by decide +kernel
theorem d265 {j pc nx tg : Nat} {ins : Instr} (hj : L265[j]? = some (pc, ins, nx, tg)) : dcd 265 pc ins nx tg := dcl_ok L265_ok hj
set_option maxRecDepth 100000 in
set_option maxHeartbeats 4000000 in
theorem r265_0 {x1 : Int} {R1 : dsMem → Prop} {g1 : dsMem → Int} {M : dsMem} {Q : bQT} (hA1 : bCt 236 [uR 11 84, uI x1] M (fun M1 => [uI (g1 M1)]) R1) (s1 : ∀ M1 : dsMem, R1 M1 → (¬ (g1 M1) = 0) → ∀ i265_1 : Int, ∀ a265_1 : Int, 0 ≤ i265_1 → i265_1 < (M1 85 4) → ∀ i265_2 : Int, ∀ a265_2 : Int, 1 ≤ i265_2 → i265_2 < (5 + 1) → -2147483648 ≤ ((6 * x1) + i265_1) ∧ ((6 * x1) + i265_1) < 2147483648 := by intros; omega) (s2 : ∀ M1 : dsMem, R1 M1 → (¬ (g1 M1) = 0) → ∀ i265_1 : Int, ∀ a265_1 : Int, 0 ≤ i265_1 → i265_1 < (M1 85 4) → ∀ i265_2 : Int, ∀ a265_2 : Int, 1 ≤ i265_2 → i265_2 < (5 + 1) → ∀ i248_1 : Int, ∀ a248_1 : Int, 0 ≤ i248_1 → i248_1 < (M1 103 ((6 * x1) + i265_1)) → 0 ≤ ((6 * x1) + i265_1) ∧ ((6 * x1) + i265_1) < 78 := by intros; omega) (s3 : ∀ M1 : dsMem, R1 M1 → (¬ (g1 M1) = 0) → ∀ i265_1 : Int, ∀ a265_1 : Int, 0 ≤ i265_1 → i265_1 < (M1 85 4) → ∀ i265_2 : Int, ∀ a265_2 : Int, 1 ≤ i265_2 → i265_2 < (5 + 1) → ∀ i248_1 : Int, ∀ a248_1 : Int, 0 ≤ i248_1 → i248_1 < (M1 103 ((6 * x1) + i265_1)) → 0 ≤ ((60 * ((6 * x1) + i265_1)) + i248_1) ∧ ((60 * ((6 * x1) + i265_1)) + i248_1) < 4680 := by intros; omega) (s4 : ∀ M1 : dsMem, R1 M1 → (¬ (g1 M1) = 0) → ∀ i265_1 : Int, ∀ a265_1 : Int, 0 ≤ i265_1 → i265_1 < (M1 85 4) → ∀ i265_2 : Int, ∀ a265_2 : Int, 1 ≤ i265_2 → i265_2 < (5 + 1) → ∀ i248_1 : Int, ∀ a248_1 : Int, 0 ≤ i248_1 → i248_1 < (M1 103 ((6 * x1) + i265_1)) → -2147483648 ≤ i248_1 + 1 ∧ i248_1 + 1 < 2147483648 := by intros; omega) (s5 : ∀ M1 : dsMem, R1 M1 → (¬ (g1 M1) = 0) → ∀ i265_1 : Int, ∀ a265_1 : Int, 0 ≤ i265_1 → i265_1 < (M1 85 4) → ∀ i265_2 : Int, ∀ a265_2 : Int, 1 ≤ i265_2 → i265_2 < (5 + 1) → 0 ≤ ((6 * x1) + i265_1) ∧ ((6 * x1) + i265_1) < 78 := by intros; omega) (s6 : ∀ M1 : dsMem, R1 M1 → (¬ (g1 M1) = 0) → ∀ i265_1 : Int, ∀ a265_1 : Int, 0 ≤ i265_1 → i265_1 < (M1 85 4) → ∀ i265_2 : Int, ∀ a265_2 : Int, 1 ≤ i265_2 → i265_2 < (5 + 1) → -2147483648 ≤ i265_2 + 1 ∧ i265_2 + 1 < 2147483648 := by intros; omega) (s7 : ∀ M1 : dsMem, R1 M1 → (¬ (g1 M1) = 0) → ∀ i265_1 : Int, ∀ a265_1 : Int, 0 ≤ i265_1 → i265_1 < (M1 85 4) → -2147483648 ≤ i265_1 + 1 ∧ i265_1 + 1 < 2147483648 := by intros; omega) (k1 : ∀ M1 : dsMem, R1 M1 → (¬ (g1 M1) = 0) → Q [uI (dsIter (fun (i265_1 : Int) (a265_1 : Int) => (dsIter (fun (i265_2 : Int) (a265_2 : Int) => (if (v248 M1 i265_1 x1 i265_2) ≤ 0 then (dsOr a265_2 0) else (dsOr a265_2 (dsShl 1 i265_2)))) 1 (5 + 1) a265_1)) 0 (M1 85 4) 0)] M1) (k2 : ∀ M1 : dsMem, R1 M1 → ((g1 M1) = 0) → Q [uI (-2)] M1) :
    bB 265 0 [uR 11 84, uI x1, uX 0, uX 0, uX 0] [] M Q := by
  refine b_aload_n (d265 (j := 0) rfl) rfl ?_
  refine b_iload_n (d265 (j := 1) rfl) rfl ?_
  refine b_callV (d265 (j := 2) rfl) rfl rfl (Or.inl rfl) rfl (bCk_mk (n := 0) (k := 2) (by decide +kernel) rfl rfl) ((hA1) _ (fun M1 hR1 => ?_))
  refine b_stk [uI (g1 M1)] rfl ?_
  refine b_if_ne (d265 (j := 3) rfl) (fun c1 => ?_) (fun c1 => ?_)
  ·
    refine b_iconst (d265 (j := 6) rfl) (by decide) ?_
    refine b_istore_n [uR 11 84, uI x1, uI 0, uX 0, uX 0] (d265 (j := 7) rfl) (by decide) rfl ?_
    refine b_iconst (d265 (j := 8) rfl) (by decide) ?_
    refine b_istore_n [uR 11 84, uI x1, uI 0, uI 0, uX 0] (d265 (j := 9) rfl) (by decide) rfl ?_
    refine b_for (fun (i265_1 : Int) (a265_1 : Int) => [uR 11 84, uI x1, uI a265_1, uI i265_1, uX 0]) (fun (i265_1 : Int) (a265_1 : Int) => (dsIter (fun (i265_2 : Int) (a265_2 : Int) => (if (v248 M1 i265_1 x1 i265_2) ≤ 0 then (dsOr a265_2 0) else (dsOr a265_2 (dsShl 1 i265_2)))) 1 (5 + 1) a265_1)) 0 (M1 85 4) 0 (fun i265_1 a265_1 h265_1l h265_1r hk265_1 => ?_) (fun i265_1 h265_1l h265_1r => ?_)
    ·
      refine b_iload_n (d265 (j := 10) rfl) rfl ?_
      refine b_aload_n (d265 (j := 11) rfl) rfl ?_
      refine b_callV (d265 (j := 12) rfl) rfl rfl (Or.inl rfl) rfl (bCk_mk (n := 1) (k := 1) (by decide +kernel) rfl rfl) (pu185  ?_)
      refine b_stk [uI (M1 85 4), uI i265_1] rfl ?_
      refine b_icmp_ge (d265 (j := 13) rfl) (fun c2 => ?_) (fun c2 => ?_)
      · exfalso; omega
      ·
        refine b_iconst (d265 (j := 14) rfl) (by decide) ?_
        refine b_istore [uR 11 84, uI x1, uI a265_1, uI i265_1, uI 1] (d265 (j := 15) rfl) (by decide) rfl ?_
        refine b_for (fun (i265_2 : Int) (a265_2 : Int) => [uR 11 84, uI x1, uI a265_2, uI i265_1, uI i265_2]) (fun (i265_2 : Int) (a265_2 : Int) => (if (v248 M1 i265_1 x1 i265_2) ≤ 0 then (dsOr a265_2 0) else (dsOr a265_2 (dsShl 1 i265_2)))) 1 (5 + 1) a265_1 (fun i265_2 a265_2 h265_2l h265_2r hk265_2 => ?_) (fun i265_2 h265_2l h265_2r => ?_)
        ·
          refine b_iload (d265 (j := 16) rfl) rfl ?_
          refine b_iconst (d265 (j := 17) rfl) (by decide) ?_
          refine b_icmp_gt (d265 (j := 18) rfl) (fun c3 => ?_) (fun c3 => ?_)
          · exfalso; omega
          ·
            refine b_iload_n (d265 (j := 19) rfl) rfl ?_
            refine b_aload_n (d265 (j := 20) rfl) rfl ?_
            refine b_iload_n (d265 (j := 21) rfl) rfl ?_
            refine b_iload_n (d265 (j := 22) rfl) rfl ?_
            refine b_iload (d265 (j := 23) rfl) rfl ?_
            refine b_callV (d265 (j := 24) rfl) rfl rfl (Or.inl rfl) rfl (bCk_mk (n := 1) (k := 4) (by decide +kernel) rfl rfl) (fx248 (s1 M1 hR1 c1 i265_1 a265_1 h265_1l h265_1r i265_2 a265_2 h265_2l h265_2r) (s2 M1 hR1 c1 i265_1 a265_1 h265_1l h265_1r i265_2 a265_2 h265_2l h265_2r) (s3 M1 hR1 c1 i265_1 a265_1 h265_1l h265_1r i265_2 a265_2 h265_2l h265_2r) (s4 M1 hR1 c1 i265_1 a265_1 h265_1l h265_1r i265_2 a265_2 h265_2l h265_2r) (s5 M1 hR1 c1 i265_1 a265_1 h265_1l h265_1r i265_2 a265_2 h265_2l h265_2r) ?_)
            refine b_stk [uI (v248 M1 i265_1 x1 i265_2), uI a265_2] rfl ?_
            refine b_if_le (d265 (j := 25) rfl) (fun c4 => ?_) (fun c4 => ?_)
            ·
              rw [if_pos c4] at hk265_2
              refine b_iconst (d265 (j := 30) rfl) (by decide) ?_
              refine b_ior (d265 (j := 31) rfl) ?_
              refine b_istore_n [uR 11 84, uI x1, uI (dsOr a265_2 0), uI i265_1, uI i265_2] (d265 (j := 32) rfl) (by decide) rfl ?_
              refine b_iinc [uR 11 84, uI x1, uI (dsOr a265_2 0), uI i265_1, uI (i265_2 + 1)] (d265 (j := 33) rfl) rfl (by decide) (s6 M1 hR1 c1 i265_1 a265_1 h265_1l h265_1r i265_2 a265_2 h265_2l h265_2r) rfl ?_
              refine b_goto (d265 (j := 34) rfl) ?_
              exact hk265_2
            ·
              rw [if_neg c4] at hk265_2
              refine b_iconst (d265 (j := 26) rfl) (by decide) ?_
              refine b_iload (d265 (j := 27) rfl) rfl ?_
              refine b_ishl (d265 (j := 28) rfl) ?_
              refine b_goto (d265 (j := 29) rfl) ?_
              refine b_ior (d265 (j := 31) rfl) ?_
              refine b_istore_n [uR 11 84, uI x1, uI (dsOr a265_2 (dsShl 1 i265_2)), uI i265_1, uI i265_2] (d265 (j := 32) rfl) (by decide) rfl ?_
              refine b_iinc [uR 11 84, uI x1, uI (dsOr a265_2 (dsShl 1 i265_2)), uI i265_1, uI (i265_2 + 1)] (d265 (j := 33) rfl) rfl (by decide) (s6 M1 hR1 c1 i265_1 a265_1 h265_1l h265_1r i265_2 a265_2 h265_2l h265_2r) rfl ?_
              refine b_goto (d265 (j := 34) rfl) ?_
              exact hk265_2
        ·
          refine b_iload (d265 (j := 16) rfl) rfl ?_
          refine b_iconst (d265 (j := 17) rfl) (by decide) ?_
          refine b_icmp_gt (d265 (j := 18) rfl) (fun c5 => ?_) (fun c5 => ?_)
          rotate_left
          · exfalso; omega
          ·
            refine b_iinc [uR 11 84, uI x1, uI (dsIter (fun (i265_2 : Int) (a265_2 : Int) => (if (v248 M1 i265_1 x1 i265_2) ≤ 0 then (dsOr a265_2 0) else (dsOr a265_2 (dsShl 1 i265_2)))) 1 (5 + 1) a265_1), uI (i265_1 + 1), uI i265_2] (d265 (j := 35) rfl) rfl (by decide) (s7 M1 hR1 c1 i265_1 a265_1 h265_1l h265_1r) rfl ?_
            refine b_goto (d265 (j := 36) rfl) ?_
            exact bB_le _ (bLe_s (bLe_s (bLe_s (bLe_s (bLe_x bLe_nil))))) hk265_1
    ·
      refine b_iload_n (d265 (j := 10) rfl) rfl ?_
      refine b_aload_n (d265 (j := 11) rfl) rfl ?_
      refine b_callV (d265 (j := 12) rfl) rfl rfl (Or.inl rfl) rfl (bCk_mk (n := 1) (k := 1) (by decide +kernel) rfl rfl) (pu185  ?_)
      refine b_stk [uI (M1 85 4), uI i265_1] rfl ?_
      refine b_icmp_ge (d265 (j := 13) rfl) (fun c6 => ?_) (fun c6 => ?_)
      rotate_left
      · exfalso; omega
      ·
        refine b_iload_n (d265 (j := 37) rfl) rfl ?_
        exact b_iret (d265 (j := 38) rfl) rfl (k1 M1 hR1 c1)
  ·
    refine b_bipush (d265 (j := 4) rfl) (by decide) ?_
    exact b_iret (d265 (j := 5) rfl) rfl (k2 M1 hR1 c1)
def L267 : List (Nat × Instr × Nat × Nat) := [(0, .aload_n 0, 1, 0), (1, .iload_n 2, 2, 0), (2, .invokevirtual 382, 5, 0), (5, .ifCond .eq 21, 8, 26), (8, .aload_n 0, 9, 0), (9, .iload_n 1, 10, 0), (10, .i2l, 11, 0), (11, .invokevirtual 264, 14, 0), (14, .ifCond .eq 12, 17, 26), (17, .aload_n 0, 18, 0), (18, .iload_n 1, 19, 0), (19, .iload_n 2, 20, 0), (20, .invokevirtual 395, 23, 0), (23, .goto 5, 26, 28), (26, .bipush (-2), 28, 0), (28, .ireturn, 29, 0)]
set_option maxRecDepth 100000 in
theorem L267_ok : L267.all (dck 267) = true := by decide +kernel
theorem d267 {j pc nx tg : Nat} {ins : Instr} (hj : L267[j]? = some (pc, ins, nx, tg)) : dcd 267 pc ins nx tg := dcl_ok L267_ok hj
set_option maxRecDepth 100000 in
set_option maxHeartbeats 4000000 in
theorem r267_0 {x1 x2 : Int} {R1 : dsMem → Prop} {g1 : dsMem → Int} {M : dsMem} {Q : bQT} (hA1 : bCt 236 [uR 11 84, uI x2] M (fun M1 => [uI (g1 M1)]) R1) (k1 : ∀ M1 : dsMem, R1 M1 → ((g1 M1) = 0) → Q [uI (-2)] M1) (s1 : ∀ M1 : dsMem, R1 M1 → (¬ (g1 M1) = 0) → -2147483648 ≤ ((M1 85 3) - 1) ∧ ((M1 85 3) - 1) < 2147483648 := by intros; omega) (k2 : ∀ M1 : dsMem, R1 M1 → (¬ (g1 M1) = 0) → (¬ (0 ≤ x1 ∧ x1 ≤ (M1 85 3) - 1)) → Q [uI (-2)] M1) (s2 : ∀ M1 : dsMem, R1 M1 → (¬ (g1 M1) = 0) → ((0 ≤ x1 ∧ x1 ≤ (M1 85 3) - 1)) → ∀ i266_1 : Int, ∀ a266_1 : Int, 0 ≤ i266_1 → i266_1 < (M1 85 4) → 0 ≤ ((15 + (3 * i266_1)) + 2) ∧ ((15 + (3 * i266_1)) + 2) < 105 := by intros; omega) (s3 : ∀ M1 : dsMem, R1 M1 → (¬ (g1 M1) = 0) → ((0 ≤ x1 ∧ x1 ≤ (M1 85 3) - 1)) → ∀ i266_1 : Int, ∀ a266_1 : Int, 0 ≤ i266_1 → i266_1 < (M1 85 4) → -2147483648 ≤ i266_1 + 1 ∧ i266_1 + 1 < 2147483648 := by intros; omega) (s4 : ∀ M1 : dsMem, R1 M1 → (¬ (g1 M1) = 0) → ((0 ≤ x1 ∧ x1 ≤ (M1 85 3) - 1)) → ∀ i266_1 : Int, ∀ a266_1 : Int, 0 ≤ i266_1 → i266_1 < (M1 85 4) → ((M1 85 ((15 + (3 * i266_1)) + 2)) = x1) → 0 ≤ ((6 * x2) + i266_1) ∧ ((6 * x2) + i266_1) < 78 := by intros; omega) (k3 : ∀ M1 : dsMem, R1 M1 → (¬ (g1 M1) = 0) → ((0 ≤ x1 ∧ x1 ≤ (M1 85 3) - 1)) → Q [uI (v266 M1 x1 x2)] M1) :
    bB 267 0 [uR 11 84, uI x1, uI x2] [] M Q := by
  refine b_aload_n (d267 (j := 0) rfl) rfl ?_
  refine b_iload_n (d267 (j := 1) rfl) rfl ?_
  refine b_callV (d267 (j := 2) rfl) rfl rfl (Or.inl rfl) rfl (bCk_mk (n := 0) (k := 2) (by decide +kernel) rfl rfl) ((hA1) _ (fun M1 hR1 => ?_))
  refine b_stk [uI (g1 M1)] rfl ?_
  refine b_if_eq (d267 (j := 3) rfl) (fun c1 => ?_) (fun c1 => ?_)
  ·
    refine b_bipush (d267 (j := 14) rfl) (by decide) ?_
    exact b_iret (d267 (j := 15) rfl) rfl (k1 M1 hR1 c1)
  ·
    refine b_aload_n (d267 (j := 4) rfl) rfl ?_
    refine b_iload_n (d267 (j := 5) rfl) rfl ?_
    refine b_i2l (d267 (j := 6) rfl) ?_
    refine b_callV (d267 (j := 7) rfl) rfl rfl (Or.inl rfl) rfl (bCk_mk (n := 0) (k := 3) (by decide +kernel) rfl rfl) (pu189 (s1 M1 hR1 c1) ?_)
    refine b_stk [uI (if (0 ≤ x1 ∧ x1 ≤ (M1 85 3) - 1) then 1 else 0)] rfl ?_
    refine b_ifeqP (d267 (j := 8) rfl) (fun c2 => ?_) (fun c2 => ?_)
    ·
      refine b_bipush (d267 (j := 14) rfl) (by decide) ?_
      exact b_iret (d267 (j := 15) rfl) rfl (k2 M1 hR1 c1 c2)
    ·
      refine b_aload_n (d267 (j := 9) rfl) rfl ?_
      refine b_iload_n (d267 (j := 10) rfl) rfl ?_
      refine b_iload_n (d267 (j := 11) rfl) rfl ?_
      refine b_callV (d267 (j := 12) rfl) rfl rfl (Or.inl rfl) rfl (bCk_mk (n := 0) (k := 3) (by decide +kernel) rfl rfl) (fx266 (s2 M1 hR1 c1 c2) (s3 M1 hR1 c1 c2) (s4 M1 hR1 c1 c2) ?_)
      refine b_stk [uI (v266 M1 x1 x2)] rfl ?_
      refine b_goto (d267 (j := 13) rfl) ?_
      exact b_iret (d267 (j := 15) rfl) rfl (k3 M1 hR1 c1 c2)
def L268 : List (Nat × Instr × Nat × Nat) := [(0, .aload_n 0, 1, 0), (1, .iload_n 2, 2, 0), (2, .invokevirtual 382, 5, 0), (5, .ifCond .eq 25, 8, 30), (8, .aload_n 0, 9, 0), (9, .iload_n 1, 10, 0), (10, .i2l, 11, 0), (11, .invokevirtual 264, 14, 0), (14, .ifCond .eq 16, 17, 30), (17, .aload_n 0, 18, 0), (18, .getfield 79, 21, 0), (21, .iconst 3, 22, 0), (22, .iload_n 2, 23, 0), (23, .imul, 24, 0), (24, .iload_n 1, 25, 0), (25, .iadd, 26, 0), (26, .iaload, 27, 0), (27, .goto 5, 30, 32), (30, .bipush (-2), 32, 0), (32, .ireturn, 33, 0)]
set_option maxRecDepth 100000 in
theorem L268_ok : L268.all (dck 268) = true := by decide +kernel
theorem d268 {j pc nx tg : Nat} {ins : Instr} (hj : L268[j]? = some (pc, ins, nx, tg)) : dcd 268 pc ins nx tg := dcl_ok L268_ok hj
set_option maxRecDepth 100000 in
set_option maxHeartbeats 4000000 in
theorem r268_0 {x1 x2 : Int} {R1 : dsMem → Prop} {g1 : dsMem → Int} {M : dsMem} {Q : bQT} (hA1 : bCt 236 [uR 11 84, uI x2] M (fun M1 => [uI (g1 M1)]) R1) (k1 : ∀ M1 : dsMem, R1 M1 → ((g1 M1) = 0) → Q [uI (-2)] M1) (s1 : ∀ M1 : dsMem, R1 M1 → (¬ (g1 M1) = 0) → -2147483648 ≤ ((M1 85 3) - 1) ∧ ((M1 85 3) - 1) < 2147483648 := by intros; omega) (k2 : ∀ M1 : dsMem, R1 M1 → (¬ (g1 M1) = 0) → (¬ (0 ≤ x1 ∧ x1 ≤ (M1 85 3) - 1)) → Q [uI (-2)] M1) (s2 : ∀ M1 : dsMem, R1 M1 → (¬ (g1 M1) = 0) → ((0 ≤ x1 ∧ x1 ≤ (M1 85 3) - 1)) → 0 ≤ ((3 * x2) + x1) ∧ ((3 * x2) + x1) < 39 := by intros; omega) (k3 : ∀ M1 : dsMem, R1 M1 → (¬ (g1 M1) = 0) → ((0 ≤ x1 ∧ x1 ≤ (M1 85 3) - 1)) → Q [uI (M1 106 ((3 * x2) + x1))] M1) :
    bB 268 0 [uR 11 84, uI x1, uI x2] [] M Q := by
  refine b_aload_n (d268 (j := 0) rfl) rfl ?_
  refine b_iload_n (d268 (j := 1) rfl) rfl ?_
  refine b_callV (d268 (j := 2) rfl) rfl rfl (Or.inl rfl) rfl (bCk_mk (n := 0) (k := 2) (by decide +kernel) rfl rfl) ((hA1) _ (fun M1 hR1 => ?_))
  refine b_stk [uI (g1 M1)] rfl ?_
  refine b_if_eq (d268 (j := 3) rfl) (fun c1 => ?_) (fun c1 => ?_)
  ·
    refine b_bipush (d268 (j := 18) rfl) (by decide) ?_
    exact b_iret (d268 (j := 19) rfl) rfl (k1 M1 hR1 c1)
  ·
    refine b_aload_n (d268 (j := 4) rfl) rfl ?_
    refine b_iload_n (d268 (j := 5) rfl) rfl ?_
    refine b_i2l (d268 (j := 6) rfl) ?_
    refine b_callV (d268 (j := 7) rfl) rfl rfl (Or.inl rfl) rfl (bCk_mk (n := 0) (k := 3) (by decide +kernel) rfl rfl) (pu189 (s1 M1 hR1 c1) ?_)
    refine b_stk [uI (if (0 ≤ x1 ∧ x1 ≤ (M1 85 3) - 1) then 1 else 0)] rfl ?_
    refine b_ifeqP (d268 (j := 8) rfl) (fun c2 => ?_) (fun c2 => ?_)
    ·
      refine b_bipush (d268 (j := 18) rfl) (by decide) ?_
      exact b_iret (d268 (j := 19) rfl) rfl (k2 M1 hR1 c1 c2)
    ·
      refine b_aload_n (d268 (j := 9) rfl) rfl ?_
      refine b_getR (d268 (j := 10) rfl) rfl rfl rfl rfl ?_
      refine b_stk [uR 26 106] rfl ?_
      refine b_iconst (d268 (j := 11) rfl) (by decide) ?_
      refine b_iload_n (d268 (j := 12) rfl) rfl ?_
      refine b_imul (d268 (j := 13) rfl) rfl rfl ?_
      refine b_iload_n (d268 (j := 14) rfl) rfl ?_
      refine b_iadd (d268 (j := 15) rfl) (dsw_dsw _) rfl ?_
      refine b_stk [uI ((3 * x2) + x1), uR 26 106] (by rw [dsw_b (s2 M1 hR1 c1 c2) (by decide)]) ?_
      refine b_iaload (d268 (j := 16) rfl) rfl (s2 M1 hR1 c1 c2) ?_
      refine b_goto (d268 (j := 17) rfl) ?_
      exact b_iret (d268 (j := 19) rfl) rfl (k3 M1 hR1 c1 c2)
def L269 : List (Nat × Instr × Nat × Nat) := [(0, .aload_n 0, 1, 0), (1, .iload_n 1, 2, 0), (2, .invokevirtual 382, 5, 0), (5, .ifCond .eq 12, 8, 17), (8, .aload_n 0, 9, 0), (9, .getfield 82, 12, 0), (12, .iload_n 1, 13, 0), (13, .iaload, 14, 0), (14, .goto 5, 17, 19), (17, .bipush (-2), 19, 0), (19, .ireturn, 20, 0)]
set_option maxRecDepth 100000 in
theorem L269_ok : L269.all (dck 269) = true := by decide +kernel
theorem d269 {j pc nx tg : Nat} {ins : Instr} (hj : L269[j]? = some (pc, ins, nx, tg)) : dcd 269 pc ins nx tg := dcl_ok L269_ok hj
set_option maxRecDepth 100000 in
set_option maxHeartbeats 4000000 in
theorem r269_0 {x1 : Int} {R1 : dsMem → Prop} {g1 : dsMem → Int} {M : dsMem} {Q : bQT} (hA1 : bCt 236 [uR 11 84, uI x1] M (fun M1 => [uI (g1 M1)]) R1) (k1 : ∀ M1 : dsMem, R1 M1 → ((g1 M1) = 0) → Q [uI (-2)] M1) (s1 : ∀ M1 : dsMem, R1 M1 → (¬ (g1 M1) = 0) → 0 ≤ x1 ∧ x1 < 13 := by intros; omega) (k2 : ∀ M1 : dsMem, R1 M1 → (¬ (g1 M1) = 0) → Q [uI (M1 107 x1)] M1) :
    bB 269 0 [uR 11 84, uI x1] [] M Q := by
  refine b_aload_n (d269 (j := 0) rfl) rfl ?_
  refine b_iload_n (d269 (j := 1) rfl) rfl ?_
  refine b_callV (d269 (j := 2) rfl) rfl rfl (Or.inl rfl) rfl (bCk_mk (n := 0) (k := 2) (by decide +kernel) rfl rfl) ((hA1) _ (fun M1 hR1 => ?_))
  refine b_stk [uI (g1 M1)] rfl ?_
  refine b_if_eq (d269 (j := 3) rfl) (fun c1 => ?_) (fun c1 => ?_)
  ·
    refine b_bipush (d269 (j := 9) rfl) (by decide) ?_
    exact b_iret (d269 (j := 10) rfl) rfl (k1 M1 hR1 c1)
  ·
    refine b_aload_n (d269 (j := 4) rfl) rfl ?_
    refine b_getR (d269 (j := 5) rfl) rfl rfl rfl rfl ?_
    refine b_stk [uR 27 107] rfl ?_
    refine b_iload_n (d269 (j := 6) rfl) rfl ?_
    refine b_iaload (d269 (j := 7) rfl) rfl (s1 M1 hR1 c1) ?_
    refine b_goto (d269 (j := 8) rfl) ?_
    exact b_iret (d269 (j := 10) rfl) rfl (k2 M1 hR1 c1)
def L270 : List (Nat × Instr × Nat × Nat) := [(0, .aload_n 0, 1, 0), (1, .iload_n 1, 2, 0), (2, .invokevirtual 398, 5, 0), (5, .ifCond .ne 6, 8, 11), (8, .bipush (-2), 10, 0), (10, .ireturn, 11, 0), (11, .iconst 0, 12, 0), (12, .istore_n 2, 13, 0), (13, .iload_n 2, 14, 0), (14, .aload_n 0, 15, 0), (15, .invokevirtual 124, 18, 0), (18, .if_icmp .gt 24, 21, 42), (21, .aload_n 0, 22, 0), (22, .getfield 82, 25, 0), (25, .iload_n 2, 26, 0), (26, .iaload, 27, 0), (27, .iload_n 1, 28, 0), (28, .invokestatic 304, 31, 0), (31, .ifCond .ne 5, 34, 36), (34, .iload_n 2, 35, 0), (35, .ireturn, 36, 0), (36, .iinc 2 1, 39, 0), (39, .goto (-26), 42, 13), (42, .iconst (-1), 43, 0), (43, .ireturn, 44, 0)]
set_option maxRecDepth 100000 in
theorem L270_ok : L270.all (dck 270) = true := by decide +kernel
theorem d270 {j pc nx tg : Nat} {ins : Instr} (hj : L270[j]? = some (pc, ins, nx, tg)) : dcd 270 pc ins nx tg := dcl_ok L270_ok hj
set_option maxRecDepth 100000 in
set_option maxHeartbeats 4000000 in
theorem r270_0 {x1 : Int} {R1 : dsMem → Prop} {g1 : dsMem → Int} {M : dsMem} {Q : bQT} (hA1 : bCt 239 [uR 11 84, uI x1] M (fun M1 => [uI (g1 M1)]) R1) (s1 : ∀ M1 : dsMem, R1 M1 → (¬ (g1 M1) = 0) → ∀ i270_1 : Int, 0 ≤ i270_1 → i270_1 < ((M1 85 0) + 1) → 0 ≤ i270_1 ∧ i270_1 < 13 := by intros; omega) (s2 : ∀ M1 : dsMem, R1 M1 → (¬ (g1 M1) = 0) → ∀ i270_1 : Int, 0 ≤ i270_1 → i270_1 < ((M1 85 0) + 1) → -2147483648 ≤ i270_1 + 1 ∧ i270_1 + 1 < 2147483648 := by intros; omega) (k1 : ∀ M1 : dsMem, R1 M1 → (¬ (g1 M1) = 0) → ((dsFind (fun (i270_1 : Int) => (dsAnd (dsShr (M1 107 i270_1) x1) 1) = 0) 0 ((M1 85 0) + 1)) < ((M1 85 0) + 1)) → Q [uI (dsFind (fun (i270_1 : Int) => (dsAnd (dsShr (M1 107 i270_1) x1) 1) = 0) 0 ((M1 85 0) + 1))] M1) (k2 : ∀ M1 : dsMem, R1 M1 → (¬ (g1 M1) = 0) → (¬ (dsFind (fun (i270_1 : Int) => (dsAnd (dsShr (M1 107 i270_1) x1) 1) = 0) 0 ((M1 85 0) + 1)) < ((M1 85 0) + 1)) → Q [uI (-1)] M1) (k3 : ∀ M1 : dsMem, R1 M1 → ((g1 M1) = 0) → Q [uI (-2)] M1) :
    bB 270 0 [uR 11 84, uI x1, uX 0] [] M Q := by
  refine b_aload_n (d270 (j := 0) rfl) rfl ?_
  refine b_iload_n (d270 (j := 1) rfl) rfl ?_
  refine b_callV (d270 (j := 2) rfl) rfl rfl (Or.inl rfl) rfl (bCk_mk (n := 0) (k := 2) (by decide +kernel) rfl rfl) ((hA1) _ (fun M1 hR1 => ?_))
  refine b_stk [uI (g1 M1)] rfl ?_
  refine b_if_ne (d270 (j := 3) rfl) (fun c1 => ?_) (fun c1 => ?_)
  ·
    refine b_iconst (d270 (j := 6) rfl) (by decide) ?_
    refine b_istore_n [uR 11 84, uI x1, uI 0] (d270 (j := 7) rfl) (by decide) rfl ?_
    refine b_find (fun (i270_1 : Int) => [uR 11 84, uI x1, uI i270_1]) (fun (i270_1 : Int) => (dsAnd (dsShr (M1 107 i270_1) x1) 1) = 0) 0 ((M1 85 0) + 1) (fun i270_1 h270_1l h270_1r hn hk270_1 => ?_) (fun i270_1 h270_1l h270_1r hp he => ?_) (fun i270_1 h270_1l h270_1r he => ?_)
    ·
      refine b_iload_n (d270 (j := 8) rfl) rfl ?_
      refine b_aload_n (d270 (j := 9) rfl) rfl ?_
      refine b_callV (d270 (j := 10) rfl) rfl rfl (Or.inl rfl) rfl (bCk_mk (n := 1) (k := 1) (by decide +kernel) rfl rfl) (pu183  ?_)
      refine b_stk [uI (M1 85 0), uI i270_1] rfl ?_
      refine b_icmp_gt (d270 (j := 11) rfl) (fun c2 => ?_) (fun c2 => ?_)
      · exfalso; omega
      ·
        refine b_aload_n (d270 (j := 12) rfl) rfl ?_
        refine b_getR (d270 (j := 13) rfl) rfl rfl rfl rfl ?_
        refine b_stk [uR 27 107] rfl ?_
        refine b_iload_n (d270 (j := 14) rfl) rfl ?_
        refine b_iaload (d270 (j := 15) rfl) rfl (s1 M1 hR1 c1 i270_1 h270_1l h270_1r) ?_
        refine b_iload_n (d270 (j := 16) rfl) rfl ?_
        refine b_callS (d270 (j := 17) rfl) (Or.inl rfl) rfl (bCk_mk (n := 0) (k := 2) (by decide +kernel) rfl rfl) (pu179  ?_)
        refine b_stk [uI (dsAnd (dsShr (M1 107 i270_1) x1) 1)] rfl ?_
        refine b_if_ne (d270 (j := 18) rfl) (fun c3 => ?_) (fun c3 => ?_)
        ·
          refine b_iinc [uR 11 84, uI x1, uI (i270_1 + 1)] (d270 (j := 21) rfl) rfl (by decide) (s2 M1 hR1 c1 i270_1 h270_1l h270_1r) rfl ?_
          refine b_goto (d270 (j := 22) rfl) ?_
          exact hk270_1
        ·
          refine b_iload_n (d270 (j := 19) rfl) rfl ?_
          exfalso; omega
    ·
      subst he
      refine b_iload_n (d270 (j := 8) rfl) rfl ?_
      refine b_aload_n (d270 (j := 9) rfl) rfl ?_
      refine b_callV (d270 (j := 10) rfl) rfl rfl (Or.inl rfl) rfl (bCk_mk (n := 1) (k := 1) (by decide +kernel) rfl rfl) (pu183  ?_)
      refine b_stk [uI (M1 85 0), uI (dsFind (fun (i270_1 : Int) => (dsAnd (dsShr (M1 107 i270_1) x1) 1) = 0) 0 ((M1 85 0) + 1))] rfl ?_
      refine b_icmp_gt (d270 (j := 11) rfl) (fun c4 => ?_) (fun c4 => ?_)
      · exfalso; omega
      ·
        refine b_aload_n (d270 (j := 12) rfl) rfl ?_
        refine b_getR (d270 (j := 13) rfl) rfl rfl rfl rfl ?_
        refine b_stk [uR 27 107] rfl ?_
        refine b_iload_n (d270 (j := 14) rfl) rfl ?_
        refine b_iaload (d270 (j := 15) rfl) rfl (s1 M1 hR1 c1 (dsFind (fun (i270_1 : Int) => (dsAnd (dsShr (M1 107 i270_1) x1) 1) = 0) 0 ((M1 85 0) + 1)) h270_1l h270_1r) ?_
        refine b_iload_n (d270 (j := 16) rfl) rfl ?_
        refine b_callS (d270 (j := 17) rfl) (Or.inl rfl) rfl (bCk_mk (n := 0) (k := 2) (by decide +kernel) rfl rfl) (pu179  ?_)
        refine b_stk [uI (dsAnd (dsShr (M1 107 (dsFind (fun (i270_1 : Int) => (dsAnd (dsShr (M1 107 i270_1) x1) 1) = 0) 0 ((M1 85 0) + 1))) x1) 1)] rfl ?_
        refine b_if_ne (d270 (j := 18) rfl) (fun c5 => ?_) (fun c5 => ?_)
        ·
          refine b_iinc [uR 11 84, uI x1, uI ((dsFind (fun (i270_1 : Int) => (dsAnd (dsShr (M1 107 i270_1) x1) 1) = 0) 0 ((M1 85 0) + 1)) + 1)] (d270 (j := 21) rfl) rfl (by decide) (s2 M1 hR1 c1 (dsFind (fun (i270_1 : Int) => (dsAnd (dsShr (M1 107 i270_1) x1) 1) = 0) 0 ((M1 85 0) + 1)) h270_1l h270_1r) rfl ?_
          refine b_goto (d270 (j := 22) rfl) ?_
          exfalso; omega
        ·
          refine b_iload_n (d270 (j := 19) rfl) rfl ?_
          exact b_iret (d270 (j := 20) rfl) rfl (k1 M1 hR1 c1 h270_1r)
    ·
      refine b_iload_n (d270 (j := 8) rfl) rfl ?_
      refine b_aload_n (d270 (j := 9) rfl) rfl ?_
      refine b_callV (d270 (j := 10) rfl) rfl rfl (Or.inl rfl) rfl (bCk_mk (n := 1) (k := 1) (by decide +kernel) rfl rfl) (pu183  ?_)
      refine b_stk [uI (M1 85 0), uI i270_1] rfl ?_
      refine b_icmp_gt (d270 (j := 11) rfl) (fun c6 => ?_) (fun c6 => ?_)
      rotate_left
      · exfalso; omega
      ·
        refine b_iconst (d270 (j := 23) rfl) (by decide) ?_
        exact b_iret (d270 (j := 24) rfl) rfl (k2 M1 hR1 c1 he)
  ·
    refine b_bipush (d270 (j := 4) rfl) (by decide) ?_
    exact b_iret (d270 (j := 5) rfl) rfl (k3 M1 hR1 c1)
def L271 : List (Nat × Instr × Nat × Nat) := [(0, .aload_n 0, 1, 0), (1, .invokevirtual 364, 4, 0), (4, .ifCond .ne 6, 7, 10), (7, .bipush (-2), 9, 0), (9, .ireturn, 10, 0), (10, .iconst (-1), 11, 0), (11, .istore_n 1, 12, 0), (12, .iconst 0, 13, 0), (13, .istore_n 2, 14, 0), (14, .iload_n 2, 15, 0), (15, .aload_n 0, 16, 0), (16, .invokevirtual 127, 19, 0), (19, .if_icmp .ge 35, 22, 54), (22, .aload_n 0, 23, 0), (23, .getfield 52, 26, 0), (26, .iload_n 2, 27, 0), (27, .iaload, 28, 0), (28, .iload_n 1, 29, 0), (29, .iconst (-1), 30, 0), (30, .if_icmp .ne 7, 33, 37), (33, .iconst 0, 34, 0), (34, .goto 9, 37, 43), (37, .aload_n 0, 38, 0), (38, .getfield 52, 41, 0), (41, .iload_n 1, 42, 0), (42, .iaload, 43, 0), (43, .if_icmp .le 5, 46, 48), (46, .iload_n 2, 47, 0), (47, .istore_n 1, 48, 0), (48, .iinc 2 1, 51, 0), (51, .goto (-37), 54, 14), (54, .iload_n 1, 55, 0), (55, .ireturn, 56, 0)]
set_option maxRecDepth 100000 in
theorem L271_ok : L271.all (dck 271) = true := by decide +kernel
theorem d271 {j pc nx tg : Nat} {ins : Instr} (hj : L271[j]? = some (pc, ins, nx, tg)) : dcd 271 pc ins nx tg := dcl_ok L271_ok hj
set_option maxRecDepth 100000 in
set_option maxHeartbeats 4000000 in
theorem r271_0  {R1 : dsMem → Prop} {g1 : dsMem → Int} {M : dsMem} {Q : bQT} (hA1 : bCt 235 [uR 11 84] M (fun M1 => [uI (g1 M1)]) R1) (s1 : ∀ M1 : dsMem, R1 M1 → (¬ (g1 M1) = 0) → ∀ i271_1 : Int, ∀ a271_1 : Int, 0 ≤ i271_1 → i271_1 < (M1 85 3) → 0 ≤ i271_1 ∧ i271_1 < 3 := by intros; omega) (s2 : ∀ M1 : dsMem, R1 M1 → (¬ (g1 M1) = 0) → ∀ i271_1 : Int, ∀ a271_1 : Int, 0 ≤ i271_1 → i271_1 < (M1 85 3) → (¬ a271_1 = -1) → 0 ≤ a271_1 ∧ a271_1 < 3 := by intros; omega) (s3 : ∀ M1 : dsMem, R1 M1 → (¬ (g1 M1) = 0) → ∀ i271_1 : Int, ∀ a271_1 : Int, 0 ≤ i271_1 → i271_1 < (M1 85 3) → -2147483648 ≤ i271_1 + 1 ∧ i271_1 + 1 < 2147483648 := by intros; omega) (k1 : ∀ M1 : dsMem, R1 M1 → (¬ (g1 M1) = 0) → Q [uI (dsIter (fun (i271_1 : Int) (a271_1 : Int) => (if a271_1 = -1 then (if (M1 97 i271_1) ≤ 0 then a271_1 else i271_1) else (if (M1 97 i271_1) ≤ (M1 97 a271_1) then a271_1 else i271_1))) 0 (M1 85 3) (-1))] M1) (k2 : ∀ M1 : dsMem, R1 M1 → ((g1 M1) = 0) → Q [uI (-2)] M1) :
    bB 271 0 [uR 11 84, uX 0, uX 0] [] M Q := by
  refine b_aload_n (d271 (j := 0) rfl) rfl ?_
  refine b_callV (d271 (j := 1) rfl) rfl rfl (Or.inl rfl) rfl (bCk_mk (n := 0) (k := 1) (by decide +kernel) rfl rfl) ((hA1) _ (fun M1 hR1 => ?_))
  refine b_stk [uI (g1 M1)] rfl ?_
  refine b_if_ne (d271 (j := 2) rfl) (fun c1 => ?_) (fun c1 => ?_)
  ·
    refine b_iconst (d271 (j := 5) rfl) (by decide) ?_
    refine b_istore_n [uR 11 84, uI (-1), uX 0] (d271 (j := 6) rfl) (by decide) rfl ?_
    refine b_iconst (d271 (j := 7) rfl) (by decide) ?_
    refine b_istore_n [uR 11 84, uI (-1), uI 0] (d271 (j := 8) rfl) (by decide) rfl ?_
    refine b_for (fun (i271_1 : Int) (a271_1 : Int) => [uR 11 84, uI a271_1, uI i271_1]) (fun (i271_1 : Int) (a271_1 : Int) => (if a271_1 = -1 then (if (M1 97 i271_1) ≤ 0 then a271_1 else i271_1) else (if (M1 97 i271_1) ≤ (M1 97 a271_1) then a271_1 else i271_1))) 0 (M1 85 3) (-1) (fun i271_1 a271_1 h271_1l h271_1r hk271_1 => ?_) (fun i271_1 h271_1l h271_1r => ?_)
    ·
      refine b_iload_n (d271 (j := 9) rfl) rfl ?_
      refine b_aload_n (d271 (j := 10) rfl) rfl ?_
      refine b_callV (d271 (j := 11) rfl) rfl rfl (Or.inl rfl) rfl (bCk_mk (n := 1) (k := 1) (by decide +kernel) rfl rfl) (pu184  ?_)
      refine b_stk [uI (M1 85 3), uI i271_1] rfl ?_
      refine b_icmp_ge (d271 (j := 12) rfl) (fun c2 => ?_) (fun c2 => ?_)
      · exfalso; omega
      ·
        refine b_aload_n (d271 (j := 13) rfl) rfl ?_
        refine b_getR (d271 (j := 14) rfl) rfl rfl rfl rfl ?_
        refine b_stk [uR 23 97] rfl ?_
        refine b_iload_n (d271 (j := 15) rfl) rfl ?_
        refine b_iaload (d271 (j := 16) rfl) rfl (s1 M1 hR1 c1 i271_1 a271_1 h271_1l h271_1r) ?_
        refine b_iload_n (d271 (j := 17) rfl) rfl ?_
        refine b_iconst (d271 (j := 18) rfl) (by decide) ?_
        refine b_icmp_ne (d271 (j := 19) rfl) (fun c3 => ?_) (fun c3 => ?_)
        ·
          rw [if_neg c3] at hk271_1
          refine b_aload_n (d271 (j := 22) rfl) rfl ?_
          refine b_getR (d271 (j := 23) rfl) rfl rfl rfl rfl ?_
          refine b_stk [uR 23 97, uI (M1 97 i271_1)] rfl ?_
          refine b_iload_n (d271 (j := 24) rfl) rfl ?_
          refine b_iaload (d271 (j := 25) rfl) rfl (s2 M1 hR1 c1 i271_1 a271_1 h271_1l h271_1r c3) ?_
          refine b_icmp_le (d271 (j := 26) rfl) (fun c4 => ?_) (fun c4 => ?_)
          ·
            rw [if_pos c4] at hk271_1
            refine b_iinc [uR 11 84, uI a271_1, uI (i271_1 + 1)] (d271 (j := 29) rfl) rfl (by decide) (s3 M1 hR1 c1 i271_1 a271_1 h271_1l h271_1r) rfl ?_
            refine b_goto (d271 (j := 30) rfl) ?_
            exact hk271_1
          ·
            rw [if_neg c4] at hk271_1
            refine b_iload_n (d271 (j := 27) rfl) rfl ?_
            refine b_istore_n [uR 11 84, uI i271_1, uI i271_1] (d271 (j := 28) rfl) (by decide) rfl ?_
            refine b_iinc [uR 11 84, uI i271_1, uI (i271_1 + 1)] (d271 (j := 29) rfl) rfl (by decide) (s3 M1 hR1 c1 i271_1 a271_1 h271_1l h271_1r) rfl ?_
            refine b_goto (d271 (j := 30) rfl) ?_
            exact hk271_1
        ·
          rw [if_pos c3] at hk271_1
          refine b_iconst (d271 (j := 20) rfl) (by decide) ?_
          refine b_goto (d271 (j := 21) rfl) ?_
          refine b_icmp_le (d271 (j := 26) rfl) (fun c5 => ?_) (fun c5 => ?_)
          ·
            rw [if_pos c5] at hk271_1
            refine b_iinc [uR 11 84, uI a271_1, uI (i271_1 + 1)] (d271 (j := 29) rfl) rfl (by decide) (s3 M1 hR1 c1 i271_1 a271_1 h271_1l h271_1r) rfl ?_
            refine b_goto (d271 (j := 30) rfl) ?_
            exact hk271_1
          ·
            rw [if_neg c5] at hk271_1
            refine b_iload_n (d271 (j := 27) rfl) rfl ?_
            refine b_istore_n [uR 11 84, uI i271_1, uI i271_1] (d271 (j := 28) rfl) (by decide) rfl ?_
            refine b_iinc [uR 11 84, uI i271_1, uI (i271_1 + 1)] (d271 (j := 29) rfl) rfl (by decide) (s3 M1 hR1 c1 i271_1 a271_1 h271_1l h271_1r) rfl ?_
            refine b_goto (d271 (j := 30) rfl) ?_
            exact hk271_1
    ·
      refine b_iload_n (d271 (j := 9) rfl) rfl ?_
      refine b_aload_n (d271 (j := 10) rfl) rfl ?_
      refine b_callV (d271 (j := 11) rfl) rfl rfl (Or.inl rfl) rfl (bCk_mk (n := 1) (k := 1) (by decide +kernel) rfl rfl) (pu184  ?_)
      refine b_stk [uI (M1 85 3), uI i271_1] rfl ?_
      refine b_icmp_ge (d271 (j := 12) rfl) (fun c6 => ?_) (fun c6 => ?_)
      rotate_left
      · exfalso; omega
      ·
        refine b_iload_n (d271 (j := 31) rfl) rfl ?_
        exact b_iret (d271 (j := 32) rfl) rfl (k1 M1 hR1 c1)
  ·
    refine b_bipush (d271 (j := 3) rfl) (by decide) ?_
    exact b_iret (d271 (j := 4) rfl) rfl (k2 M1 hR1 c1)
def L272 : List (Nat × Instr × Nat × Nat) := [(0, .aload_n 0, 1, 0), (1, .invokevirtual 364, 4, 0), (4, .ifCond .eq 10, 7, 14), (7, .iload_n 1, 8, 0), (8, .invokestatic 385, 11, 0), (11, .ifCond .ne 6, 14, 17), (14, .bipush (-2), 16, 0), (16, .ireturn, 17, 0), (17, .iconst 0, 18, 0), (18, .istore_n 2, 19, 0), (19, .iconst 0, 20, 0), (20, .istore_n 3, 21, 0), (21, .iload_n 3, 22, 0), (22, .aload_n 0, 23, 0), (23, .invokevirtual 116, 26, 0), (26, .if_icmp .ge 23, 29, 49), (29, .iload_n 2, 30, 0), (30, .aload_n 0, 31, 0), (31, .getfield 58, 34, 0), (34, .bipush 6, 36, 0), (36, .iload_n 3, 37, 0), (37, .imul, 38, 0), (38, .iload_n 1, 39, 0), (39, .iadd, 40, 0), (40, .iaload, 41, 0), (41, .iadd, 42, 0), (42, .istore_n 2, 43, 0), (43, .iinc 3 1, 46, 0), (46, .goto (-25), 49, 21), (49, .iload_n 2, 50, 0), (50, .ireturn, 51, 0)]
set_option maxRecDepth 100000 in
theorem L272_ok : L272.all (dck 272) = true := by decide +kernel
theorem d272 {j pc nx tg : Nat} {ins : Instr} (hj : L272[j]? = some (pc, ins, nx, tg)) : dcd 272 pc ins nx tg := dcl_ok L272_ok hj
set_option maxRecDepth 100000 in
set_option maxHeartbeats 4000000 in
theorem r272_0 {x1 : Int} {R1 : dsMem → Prop} {g1 : dsMem → Int} {M : dsMem} {Q : bQT} (hA1 : bCt 235 [uR 11 84] M (fun M1 => [uI (g1 M1)]) R1) (k1 : ∀ M1 : dsMem, R1 M1 → ((g1 M1) = 0) → Q [uI (-2)] M1) (s1 : ∀ M1 : dsMem, R1 M1 → (¬ (g1 M1) = 0) → ((1 ≤ x1 ∧ x1 ≤ 5)) → ∀ i272_1 : Int, ∀ a272_1 : Int, 0 ≤ i272_1 → i272_1 < (M1 85 4) → 0 ≤ ((6 * i272_1) + x1) ∧ ((6 * i272_1) + x1) < 36 := by intros; omega) (s2 : ∀ M1 : dsMem, R1 M1 → (¬ (g1 M1) = 0) → ((1 ≤ x1 ∧ x1 ≤ 5)) → ∀ i272_1 : Int, ∀ a272_1 : Int, 0 ≤ i272_1 → i272_1 < (M1 85 4) → -2147483648 ≤ i272_1 + 1 ∧ i272_1 + 1 < 2147483648 := by intros; omega) (k2 : ∀ M1 : dsMem, R1 M1 → (¬ (g1 M1) = 0) → ((1 ≤ x1 ∧ x1 ≤ 5)) → Q [uI (dsIter (fun (i272_1 : Int) (a272_1 : Int) => (dsw ((a272_1 + (M1 99 ((6 * i272_1) + x1)))))) 0 (M1 85 4) 0)] M1) (k3 : ∀ M1 : dsMem, R1 M1 → (¬ (g1 M1) = 0) → (¬ (1 ≤ x1 ∧ x1 ≤ 5)) → Q [uI (-2)] M1) :
    bB 272 0 [uR 11 84, uI x1, uX 0, uX 0] [] M Q := by
  refine b_aload_n (d272 (j := 0) rfl) rfl ?_
  refine b_callV (d272 (j := 1) rfl) rfl rfl (Or.inl rfl) rfl (bCk_mk (n := 0) (k := 1) (by decide +kernel) rfl rfl) ((hA1) _ (fun M1 hR1 => ?_))
  refine b_stk [uI (g1 M1)] rfl ?_
  refine b_if_eq (d272 (j := 2) rfl) (fun c1 => ?_) (fun c1 => ?_)
  ·
    refine b_bipush (d272 (j := 6) rfl) (by decide) ?_
    exact b_iret (d272 (j := 7) rfl) rfl (k1 M1 hR1 c1)
  ·
    refine b_iload_n (d272 (j := 3) rfl) rfl ?_
    refine b_callS (d272 (j := 4) rfl) (Or.inl rfl) rfl (bCk_mk (n := 0) (k := 1) (by decide +kernel) rfl rfl) (pu191  ?_)
    refine b_stk [uI (if (1 ≤ x1 ∧ x1 ≤ 5) then 1 else 0)] rfl ?_
    refine b_ifneP (d272 (j := 5) rfl) (fun c2 => ?_) (fun c2 => ?_)
    ·
      refine b_iconst (d272 (j := 8) rfl) (by decide) ?_
      refine b_istore_n [uR 11 84, uI x1, uI 0, uX 0] (d272 (j := 9) rfl) (by decide) rfl ?_
      refine b_iconst (d272 (j := 10) rfl) (by decide) ?_
      refine b_istore_n [uR 11 84, uI x1, uI 0, uI 0] (d272 (j := 11) rfl) (by decide) rfl ?_
      refine b_for (fun (i272_1 : Int) (a272_1 : Int) => [uR 11 84, uI x1, uI a272_1, uI i272_1]) (fun (i272_1 : Int) (a272_1 : Int) => (dsw ((a272_1 + (M1 99 ((6 * i272_1) + x1)))))) 0 (M1 85 4) 0 (fun i272_1 a272_1 h272_1l h272_1r hk272_1 => ?_) (fun i272_1 h272_1l h272_1r => ?_)
      ·
        refine b_iload_n (d272 (j := 12) rfl) rfl ?_
        refine b_aload_n (d272 (j := 13) rfl) rfl ?_
        refine b_callV (d272 (j := 14) rfl) rfl rfl (Or.inl rfl) rfl (bCk_mk (n := 1) (k := 1) (by decide +kernel) rfl rfl) (pu185  ?_)
        refine b_stk [uI (M1 85 4), uI i272_1] rfl ?_
        refine b_icmp_ge (d272 (j := 15) rfl) (fun c3 => ?_) (fun c3 => ?_)
        · exfalso; omega
        ·
          refine b_iload_n (d272 (j := 16) rfl) rfl ?_
          refine b_aload_n (d272 (j := 17) rfl) rfl ?_
          refine b_getR (d272 (j := 18) rfl) rfl rfl rfl rfl ?_
          refine b_stk [uR 43 99, uI a272_1] rfl ?_
          refine b_bipush (d272 (j := 19) rfl) (by decide) ?_
          refine b_iload_n (d272 (j := 20) rfl) rfl ?_
          refine b_imul (d272 (j := 21) rfl) rfl rfl ?_
          refine b_iload_n (d272 (j := 22) rfl) rfl ?_
          refine b_iadd (d272 (j := 23) rfl) (dsw_dsw _) rfl ?_
          refine b_stk [uI ((6 * i272_1) + x1), uR 43 99, uI a272_1] (by rw [dsw_b (s1 M1 hR1 c1 c2 i272_1 a272_1 h272_1l h272_1r) (by decide)]) ?_
          refine b_iaload (d272 (j := 24) rfl) rfl (s1 M1 hR1 c1 c2 i272_1 a272_1 h272_1l h272_1r) ?_
          refine b_iadd (d272 (j := 25) rfl) rfl rfl ?_
          refine b_istore_n [uR 11 84, uI x1, uI (dsw ((a272_1 + (M1 99 ((6 * i272_1) + x1))))), uI i272_1] (d272 (j := 26) rfl) (by decide) rfl ?_
          refine b_iinc [uR 11 84, uI x1, uI (dsw ((a272_1 + (M1 99 ((6 * i272_1) + x1))))), uI (i272_1 + 1)] (d272 (j := 27) rfl) rfl (by decide) (s2 M1 hR1 c1 c2 i272_1 a272_1 h272_1l h272_1r) rfl ?_
          refine b_goto (d272 (j := 28) rfl) ?_
          exact hk272_1
      ·
        refine b_iload_n (d272 (j := 12) rfl) rfl ?_
        refine b_aload_n (d272 (j := 13) rfl) rfl ?_
        refine b_callV (d272 (j := 14) rfl) rfl rfl (Or.inl rfl) rfl (bCk_mk (n := 1) (k := 1) (by decide +kernel) rfl rfl) (pu185  ?_)
        refine b_stk [uI (M1 85 4), uI i272_1] rfl ?_
        refine b_icmp_ge (d272 (j := 15) rfl) (fun c4 => ?_) (fun c4 => ?_)
        rotate_left
        · exfalso; omega
        ·
          refine b_iload_n (d272 (j := 29) rfl) rfl ?_
          exact b_iret (d272 (j := 30) rfl) rfl (k2 M1 hR1 c1 c2)
    ·
      refine b_bipush (d272 (j := 6) rfl) (by decide) ?_
      exact b_iret (d272 (j := 7) rfl) rfl (k3 M1 hR1 c1 c2)
def L273 : List (Nat × Instr × Nat × Nat) := [(0, .aload_n 0, 1, 0), (1, .iload_n 1, 2, 0), (2, .invokevirtual 401, 5, 0), (5, .ifCond .eq 12, 8, 17), (8, .aload_n 0, 9, 0), (9, .getfield 61, 12, 0), (12, .iload_n 1, 13, 0), (13, .iaload, 14, 0), (14, .goto 5, 17, 19), (17, .bipush (-2), 19, 0), (19, .ireturn, 20, 0)]
set_option maxRecDepth 100000 in
theorem L273_ok : L273.all (dck 273) = true := by decide +kernel
theorem d273 {j pc nx tg : Nat} {ins : Instr} (hj : L273[j]? = some (pc, ins, nx, tg)) : dcd 273 pc ins nx tg := dcl_ok L273_ok hj
set_option maxRecDepth 100000 in
set_option maxHeartbeats 4000000 in
theorem r273_0 {x1 : Int} {R1 : dsMem → Prop} {g1 : dsMem → Int} {M : dsMem} {Q : bQT} (hA1 : bCt 237 [uR 11 84, uI x1] M (fun M1 => [uI (g1 M1)]) R1) (k1 : ∀ M1 : dsMem, R1 M1 → ((g1 M1) = 0) → Q [uI (-2)] M1) (s1 : ∀ M1 : dsMem, R1 M1 → (¬ (g1 M1) = 0) → 0 ≤ x1 ∧ x1 < 12 := by intros; omega) (k2 : ∀ M1 : dsMem, R1 M1 → (¬ (g1 M1) = 0) → Q [uI (M1 100 x1)] M1) :
    bB 273 0 [uR 11 84, uI x1] [] M Q := by
  refine b_aload_n (d273 (j := 0) rfl) rfl ?_
  refine b_iload_n (d273 (j := 1) rfl) rfl ?_
  refine b_callV (d273 (j := 2) rfl) rfl rfl (Or.inl rfl) rfl (bCk_mk (n := 0) (k := 2) (by decide +kernel) rfl rfl) ((hA1) _ (fun M1 hR1 => ?_))
  refine b_stk [uI (g1 M1)] rfl ?_
  refine b_if_eq (d273 (j := 3) rfl) (fun c1 => ?_) (fun c1 => ?_)
  ·
    refine b_bipush (d273 (j := 9) rfl) (by decide) ?_
    exact b_iret (d273 (j := 10) rfl) rfl (k1 M1 hR1 c1)
  ·
    refine b_aload_n (d273 (j := 4) rfl) rfl ?_
    refine b_getR (d273 (j := 5) rfl) rfl rfl rfl rfl ?_
    refine b_stk [uR 28 100] rfl ?_
    refine b_iload_n (d273 (j := 6) rfl) rfl ?_
    refine b_iaload (d273 (j := 7) rfl) rfl (s1 M1 hR1 c1) ?_
    refine b_goto (d273 (j := 8) rfl) ?_
    exact b_iret (d273 (j := 10) rfl) rfl (k2 M1 hR1 c1)
def L274 : List (Nat × Instr × Nat × Nat) := [(0, .aload_n 0, 1, 0), (1, .iload_n 1, 2, 0), (2, .invokevirtual 392, 5, 0), (5, .ifCond .ne 6, 8, 11), (8, .bipush (-2), 10, 0), (10, .ireturn, 11, 0), (11, .iconst 0, 12, 0), (12, .istore_n 2, 13, 0), (13, .iconst 1, 14, 0), (14, .istore_n 3, 15, 0), (15, .iload_n 3, 16, 0), (16, .iconst 5, 17, 0), (17, .if_icmp .gt 33, 20, 50), (20, .iload_n 2, 21, 0), (21, .aload_n 0, 22, 0), (22, .getfield 58, 25, 0), (25, .bipush 6, 27, 0), (27, .iload_n 1, 28, 0), (28, .imul, 29, 0), (29, .iload_n 3, 30, 0), (30, .iadd, 31, 0), (31, .iaload, 32, 0), (32, .ifCond .le 9, 35, 41), (35, .iconst 1, 36, 0), (36, .iload_n 3, 37, 0), (37, .ishl, 38, 0), (38, .goto 4, 41, 42), (41, .iconst 0, 42, 0), (42, .ior, 43, 0), (43, .istore_n 2, 44, 0), (44, .iinc 3 1, 47, 0), (47, .goto (-32), 50, 15), (50, .iload_n 2, 51, 0), (51, .ireturn, 52, 0)]
set_option maxRecDepth 100000 in
theorem L274_ok : L274.all (dck 274) = true := by decide +kernel
theorem d274 {j pc nx tg : Nat} {ins : Instr} (hj : L274[j]? = some (pc, ins, nx, tg)) : dcd 274 pc ins nx tg := dcl_ok L274_ok hj
set_option maxRecDepth 100000 in
set_option maxHeartbeats 4000000 in
theorem r274_0 {x1 : Int} {R1 : dsMem → Prop} {g1 : dsMem → Int} {M : dsMem} {Q : bQT} (hA1 : bCt 238 [uR 11 84, uI x1] M (fun M1 => [uI (g1 M1)]) R1) (s1 : ∀ M1 : dsMem, R1 M1 → (¬ (g1 M1) = 0) → ∀ i274_1 : Int, ∀ a274_1 : Int, 1 ≤ i274_1 → i274_1 < (5 + 1) → 0 ≤ ((6 * x1) + i274_1) ∧ ((6 * x1) + i274_1) < 36 := by intros; omega) (s2 : ∀ M1 : dsMem, R1 M1 → (¬ (g1 M1) = 0) → ∀ i274_1 : Int, ∀ a274_1 : Int, 1 ≤ i274_1 → i274_1 < (5 + 1) → -2147483648 ≤ i274_1 + 1 ∧ i274_1 + 1 < 2147483648 := by intros; omega) (k1 : ∀ M1 : dsMem, R1 M1 → (¬ (g1 M1) = 0) → Q [uI (dsIter (fun (i274_1 : Int) (a274_1 : Int) => (if (M1 99 ((6 * x1) + i274_1)) ≤ 0 then (dsOr a274_1 0) else (dsOr a274_1 (dsShl 1 i274_1)))) 1 (5 + 1) 0)] M1) (k2 : ∀ M1 : dsMem, R1 M1 → ((g1 M1) = 0) → Q [uI (-2)] M1) :
    bB 274 0 [uR 11 84, uI x1, uX 0, uX 0] [] M Q := by
  refine b_aload_n (d274 (j := 0) rfl) rfl ?_
  refine b_iload_n (d274 (j := 1) rfl) rfl ?_
  refine b_callV (d274 (j := 2) rfl) rfl rfl (Or.inl rfl) rfl (bCk_mk (n := 0) (k := 2) (by decide +kernel) rfl rfl) ((hA1) _ (fun M1 hR1 => ?_))
  refine b_stk [uI (g1 M1)] rfl ?_
  refine b_if_ne (d274 (j := 3) rfl) (fun c1 => ?_) (fun c1 => ?_)
  ·
    refine b_iconst (d274 (j := 6) rfl) (by decide) ?_
    refine b_istore_n [uR 11 84, uI x1, uI 0, uX 0] (d274 (j := 7) rfl) (by decide) rfl ?_
    refine b_iconst (d274 (j := 8) rfl) (by decide) ?_
    refine b_istore_n [uR 11 84, uI x1, uI 0, uI 1] (d274 (j := 9) rfl) (by decide) rfl ?_
    refine b_for (fun (i274_1 : Int) (a274_1 : Int) => [uR 11 84, uI x1, uI a274_1, uI i274_1]) (fun (i274_1 : Int) (a274_1 : Int) => (if (M1 99 ((6 * x1) + i274_1)) ≤ 0 then (dsOr a274_1 0) else (dsOr a274_1 (dsShl 1 i274_1)))) 1 (5 + 1) 0 (fun i274_1 a274_1 h274_1l h274_1r hk274_1 => ?_) (fun i274_1 h274_1l h274_1r => ?_)
    ·
      refine b_iload_n (d274 (j := 10) rfl) rfl ?_
      refine b_iconst (d274 (j := 11) rfl) (by decide) ?_
      refine b_icmp_gt (d274 (j := 12) rfl) (fun c2 => ?_) (fun c2 => ?_)
      · exfalso; omega
      ·
        refine b_iload_n (d274 (j := 13) rfl) rfl ?_
        refine b_aload_n (d274 (j := 14) rfl) rfl ?_
        refine b_getR (d274 (j := 15) rfl) rfl rfl rfl rfl ?_
        refine b_stk [uR 43 99, uI a274_1] rfl ?_
        refine b_bipush (d274 (j := 16) rfl) (by decide) ?_
        refine b_iload_n (d274 (j := 17) rfl) rfl ?_
        refine b_imul (d274 (j := 18) rfl) rfl rfl ?_
        refine b_iload_n (d274 (j := 19) rfl) rfl ?_
        refine b_iadd (d274 (j := 20) rfl) (dsw_dsw _) rfl ?_
        refine b_stk [uI ((6 * x1) + i274_1), uR 43 99, uI a274_1] (by rw [dsw_b (s1 M1 hR1 c1 i274_1 a274_1 h274_1l h274_1r) (by decide)]) ?_
        refine b_iaload (d274 (j := 21) rfl) rfl (s1 M1 hR1 c1 i274_1 a274_1 h274_1l h274_1r) ?_
        refine b_if_le (d274 (j := 22) rfl) (fun c3 => ?_) (fun c3 => ?_)
        ·
          rw [if_pos c3] at hk274_1
          refine b_iconst (d274 (j := 27) rfl) (by decide) ?_
          refine b_ior (d274 (j := 28) rfl) ?_
          refine b_istore_n [uR 11 84, uI x1, uI (dsOr a274_1 0), uI i274_1] (d274 (j := 29) rfl) (by decide) rfl ?_
          refine b_iinc [uR 11 84, uI x1, uI (dsOr a274_1 0), uI (i274_1 + 1)] (d274 (j := 30) rfl) rfl (by decide) (s2 M1 hR1 c1 i274_1 a274_1 h274_1l h274_1r) rfl ?_
          refine b_goto (d274 (j := 31) rfl) ?_
          exact hk274_1
        ·
          rw [if_neg c3] at hk274_1
          refine b_iconst (d274 (j := 23) rfl) (by decide) ?_
          refine b_iload_n (d274 (j := 24) rfl) rfl ?_
          refine b_ishl (d274 (j := 25) rfl) ?_
          refine b_goto (d274 (j := 26) rfl) ?_
          refine b_ior (d274 (j := 28) rfl) ?_
          refine b_istore_n [uR 11 84, uI x1, uI (dsOr a274_1 (dsShl 1 i274_1)), uI i274_1] (d274 (j := 29) rfl) (by decide) rfl ?_
          refine b_iinc [uR 11 84, uI x1, uI (dsOr a274_1 (dsShl 1 i274_1)), uI (i274_1 + 1)] (d274 (j := 30) rfl) rfl (by decide) (s2 M1 hR1 c1 i274_1 a274_1 h274_1l h274_1r) rfl ?_
          refine b_goto (d274 (j := 31) rfl) ?_
          exact hk274_1
    ·
      refine b_iload_n (d274 (j := 10) rfl) rfl ?_
      refine b_iconst (d274 (j := 11) rfl) (by decide) ?_
      refine b_icmp_gt (d274 (j := 12) rfl) (fun c4 => ?_) (fun c4 => ?_)
      rotate_left
      · exfalso; omega
      ·
        refine b_iload_n (d274 (j := 32) rfl) rfl ?_
        exact b_iret (d274 (j := 33) rfl) rfl (k1 M1 hR1 c1)
  ·
    refine b_bipush (d274 (j := 4) rfl) (by decide) ?_
    exact b_iret (d274 (j := 5) rfl) rfl (k2 M1 hR1 c1)
def L275 : List (Nat × Instr × Nat × Nat) := [(0, .aload_n 0, 1, 0), (1, .iload_n 1, 2, 0), (2, .invokevirtual 401, 5, 0), (5, .ifCond .eq 12, 8, 17), (8, .aload_n 0, 9, 0), (9, .getfield 64, 12, 0), (12, .iload_n 1, 13, 0), (13, .iaload, 14, 0), (14, .goto 5, 17, 19), (17, .bipush (-2), 19, 0), (19, .ireturn, 20, 0)]
set_option maxRecDepth 100000 in
theorem L275_ok : L275.all (dck 275) = true := by decide +kernel
theorem d275 {j pc nx tg : Nat} {ins : Instr} (hj : L275[j]? = some (pc, ins, nx, tg)) : dcd 275 pc ins nx tg := dcl_ok L275_ok hj
set_option maxRecDepth 100000 in
set_option maxHeartbeats 4000000 in
theorem r275_0 {x1 : Int} {R1 : dsMem → Prop} {g1 : dsMem → Int} {M : dsMem} {Q : bQT} (hA1 : bCt 237 [uR 11 84, uI x1] M (fun M1 => [uI (g1 M1)]) R1) (k1 : ∀ M1 : dsMem, R1 M1 → ((g1 M1) = 0) → Q [uI (-2)] M1) (s1 : ∀ M1 : dsMem, R1 M1 → (¬ (g1 M1) = 0) → 0 ≤ x1 ∧ x1 < 12 := by intros; omega) (k2 : ∀ M1 : dsMem, R1 M1 → (¬ (g1 M1) = 0) → Q [uI (M1 101 x1)] M1) :
    bB 275 0 [uR 11 84, uI x1] [] M Q := by
  refine b_aload_n (d275 (j := 0) rfl) rfl ?_
  refine b_iload_n (d275 (j := 1) rfl) rfl ?_
  refine b_callV (d275 (j := 2) rfl) rfl rfl (Or.inl rfl) rfl (bCk_mk (n := 0) (k := 2) (by decide +kernel) rfl rfl) ((hA1) _ (fun M1 hR1 => ?_))
  refine b_stk [uI (g1 M1)] rfl ?_
  refine b_if_eq (d275 (j := 3) rfl) (fun c1 => ?_) (fun c1 => ?_)
  ·
    refine b_bipush (d275 (j := 9) rfl) (by decide) ?_
    exact b_iret (d275 (j := 10) rfl) rfl (k1 M1 hR1 c1)
  ·
    refine b_aload_n (d275 (j := 4) rfl) rfl ?_
    refine b_getR (d275 (j := 5) rfl) rfl rfl rfl rfl ?_
    refine b_stk [uR 28 101] rfl ?_
    refine b_iload_n (d275 (j := 6) rfl) rfl ?_
    refine b_iaload (d275 (j := 7) rfl) rfl (s1 M1 hR1 c1) ?_
    refine b_goto (d275 (j := 8) rfl) ?_
    exact b_iret (d275 (j := 10) rfl) rfl (k2 M1 hR1 c1)
def L276 : List (Nat × Instr × Nat × Nat) := [(0, .aload_n 0, 1, 0), (1, .iload_n 1, 2, 0), (2, .invokevirtual 392, 5, 0), (5, .ifCond .eq 12, 8, 17), (8, .aload_n 0, 9, 0), (9, .getfield 55, 12, 0), (12, .iload_n 1, 13, 0), (13, .iaload, 14, 0), (14, .goto 5, 17, 19), (17, .bipush (-2), 19, 0), (19, .ireturn, 20, 0)]
set_option maxRecDepth 100000 in
theorem L276_ok : L276.all (dck 276) = true := by decide +kernel
theorem d276 {j pc nx tg : Nat} {ins : Instr} (hj : L276[j]? = some (pc, ins, nx, tg)) : dcd 276 pc ins nx tg := dcl_ok L276_ok hj
set_option maxRecDepth 100000 in
set_option maxHeartbeats 4000000 in
theorem r276_0 {x1 : Int} {R1 : dsMem → Prop} {g1 : dsMem → Int} {M : dsMem} {Q : bQT} (hA1 : bCt 238 [uR 11 84, uI x1] M (fun M1 => [uI (g1 M1)]) R1) (k1 : ∀ M1 : dsMem, R1 M1 → ((g1 M1) = 0) → Q [uI (-2)] M1) (s1 : ∀ M1 : dsMem, R1 M1 → (¬ (g1 M1) = 0) → 0 ≤ x1 ∧ x1 < 6 := by intros; omega) (k2 : ∀ M1 : dsMem, R1 M1 → (¬ (g1 M1) = 0) → Q [uI (M1 98 x1)] M1) :
    bB 276 0 [uR 11 84, uI x1] [] M Q := by
  refine b_aload_n (d276 (j := 0) rfl) rfl ?_
  refine b_iload_n (d276 (j := 1) rfl) rfl ?_
  refine b_callV (d276 (j := 2) rfl) rfl rfl (Or.inl rfl) rfl (bCk_mk (n := 0) (k := 2) (by decide +kernel) rfl rfl) ((hA1) _ (fun M1 hR1 => ?_))
  refine b_stk [uI (g1 M1)] rfl ?_
  refine b_if_eq (d276 (j := 3) rfl) (fun c1 => ?_) (fun c1 => ?_)
  ·
    refine b_bipush (d276 (j := 9) rfl) (by decide) ?_
    exact b_iret (d276 (j := 10) rfl) rfl (k1 M1 hR1 c1)
  ·
    refine b_aload_n (d276 (j := 4) rfl) rfl ?_
    refine b_getR (d276 (j := 5) rfl) rfl rfl rfl rfl ?_
    refine b_stk [uR 21 98] rfl ?_
    refine b_iload_n (d276 (j := 6) rfl) rfl ?_
    refine b_iaload (d276 (j := 7) rfl) rfl (s1 M1 hR1 c1) ?_
    refine b_goto (d276 (j := 8) rfl) ?_
    exact b_iret (d276 (j := 10) rfl) rfl (k2 M1 hR1 c1)
def L277 : List (Nat × Instr × Nat × Nat) := [(0, .aload_n 0, 1, 0), (1, .iload_n 1, 2, 0), (2, .invokevirtual 392, 5, 0), (5, .ifCond .eq 10, 8, 15), (8, .iload_n 2, 9, 0), (9, .invokestatic 385, 12, 0), (12, .ifCond .ne 6, 15, 18), (15, .bipush (-2), 17, 0), (17, .ireturn, 18, 0), (18, .iconst 0, 19, 0), (19, .istore_n 3, 20, 0), (20, .iload_n 3, 21, 0), (21, .aload_n 0, 22, 0), (22, .invokevirtual 124, 25, 0), (25, .if_icmp .gt 21, 28, 46), (28, .aload_n 0, 29, 0), (29, .iload_n 1, 30, 0), (30, .iload_n 3, 31, 0), (31, .iload_n 2, 32, 0), (32, .invokevirtual 388, 35, 0), (35, .ifCond .le 5, 38, 40), (38, .iload_n 3, 39, 0), (39, .ireturn, 40, 0), (40, .iinc 3 1, 43, 0), (43, .goto (-23), 46, 20), (46, .iconst (-1), 47, 0), (47, .ireturn, 48, 0)]
set_option maxRecDepth 100000 in
theorem L277_ok : L277.all (dck 277) = true := by decide +kernel
theorem d277 {j pc nx tg : Nat} {ins : Instr} (hj : L277[j]? = some (pc, ins, nx, tg)) : dcd 277 pc ins nx tg := dcl_ok L277_ok hj
set_option maxRecDepth 100000 in
set_option maxHeartbeats 4000000 in
theorem r277_0 {x1 x2 : Int} {R1 : dsMem → Prop} {g1 : dsMem → Int} {M : dsMem} {Q : bQT} (hA1 : bCt 238 [uR 11 84, uI x1] M (fun M1 => [uI (g1 M1)]) R1) (k1 : ∀ M1 : dsMem, R1 M1 → ((g1 M1) = 0) → Q [uI (-2)] M1) (s1 : ∀ M1 : dsMem, R1 M1 → (¬ (g1 M1) = 0) → ((1 ≤ x2 ∧ x2 ≤ 5)) → ∀ i277_1 : Int, 0 ≤ i277_1 → i277_1 < ((M1 85 0) + 1) → -2147483648 ≤ ((6 * i277_1) + x1) ∧ ((6 * i277_1) + x1) < 2147483648 := by intros; omega) (s2 : ∀ M1 : dsMem, R1 M1 → (¬ (g1 M1) = 0) → ((1 ≤ x2 ∧ x2 ≤ 5)) → ∀ i277_1 : Int, 0 ≤ i277_1 → i277_1 < ((M1 85 0) + 1) → ∀ i248_1 : Int, ∀ a248_1 : Int, 0 ≤ i248_1 → i248_1 < (M1 103 ((6 * i277_1) + x1)) → 0 ≤ ((6 * i277_1) + x1) ∧ ((6 * i277_1) + x1) < 78 := by intros; omega) (s3 : ∀ M1 : dsMem, R1 M1 → (¬ (g1 M1) = 0) → ((1 ≤ x2 ∧ x2 ≤ 5)) → ∀ i277_1 : Int, 0 ≤ i277_1 → i277_1 < ((M1 85 0) + 1) → ∀ i248_1 : Int, ∀ a248_1 : Int, 0 ≤ i248_1 → i248_1 < (M1 103 ((6 * i277_1) + x1)) → 0 ≤ ((60 * ((6 * i277_1) + x1)) + i248_1) ∧ ((60 * ((6 * i277_1) + x1)) + i248_1) < 4680 := by intros; omega) (s4 : ∀ M1 : dsMem, R1 M1 → (¬ (g1 M1) = 0) → ((1 ≤ x2 ∧ x2 ≤ 5)) → ∀ i277_1 : Int, 0 ≤ i277_1 → i277_1 < ((M1 85 0) + 1) → ∀ i248_1 : Int, ∀ a248_1 : Int, 0 ≤ i248_1 → i248_1 < (M1 103 ((6 * i277_1) + x1)) → -2147483648 ≤ i248_1 + 1 ∧ i248_1 + 1 < 2147483648 := by intros; omega) (s5 : ∀ M1 : dsMem, R1 M1 → (¬ (g1 M1) = 0) → ((1 ≤ x2 ∧ x2 ≤ 5)) → ∀ i277_1 : Int, 0 ≤ i277_1 → i277_1 < ((M1 85 0) + 1) → 0 ≤ ((6 * i277_1) + x1) ∧ ((6 * i277_1) + x1) < 78 := by intros; omega) (s6 : ∀ M1 : dsMem, R1 M1 → (¬ (g1 M1) = 0) → ((1 ≤ x2 ∧ x2 ≤ 5)) → ∀ i277_1 : Int, 0 ≤ i277_1 → i277_1 < ((M1 85 0) + 1) → -2147483648 ≤ i277_1 + 1 ∧ i277_1 + 1 < 2147483648 := by intros; omega) (k2 : ∀ M1 : dsMem, R1 M1 → (¬ (g1 M1) = 0) → ((1 ≤ x2 ∧ x2 ≤ 5)) → ((dsFind (fun (i277_1 : Int) => ¬ ((v248 M1 x1 i277_1 x2) ≤ 0)) 0 ((M1 85 0) + 1)) < ((M1 85 0) + 1)) → Q [uI (dsFind (fun (i277_1 : Int) => ¬ ((v248 M1 x1 i277_1 x2) ≤ 0)) 0 ((M1 85 0) + 1))] M1) (k3 : ∀ M1 : dsMem, R1 M1 → (¬ (g1 M1) = 0) → ((1 ≤ x2 ∧ x2 ≤ 5)) → (¬ (dsFind (fun (i277_1 : Int) => ¬ ((v248 M1 x1 i277_1 x2) ≤ 0)) 0 ((M1 85 0) + 1)) < ((M1 85 0) + 1)) → Q [uI (-1)] M1) (k4 : ∀ M1 : dsMem, R1 M1 → (¬ (g1 M1) = 0) → (¬ (1 ≤ x2 ∧ x2 ≤ 5)) → Q [uI (-2)] M1) :
    bB 277 0 [uR 11 84, uI x1, uI x2, uX 0] [] M Q := by
  refine b_aload_n (d277 (j := 0) rfl) rfl ?_
  refine b_iload_n (d277 (j := 1) rfl) rfl ?_
  refine b_callV (d277 (j := 2) rfl) rfl rfl (Or.inl rfl) rfl (bCk_mk (n := 0) (k := 2) (by decide +kernel) rfl rfl) ((hA1) _ (fun M1 hR1 => ?_))
  refine b_stk [uI (g1 M1)] rfl ?_
  refine b_if_eq (d277 (j := 3) rfl) (fun c1 => ?_) (fun c1 => ?_)
  ·
    refine b_bipush (d277 (j := 7) rfl) (by decide) ?_
    exact b_iret (d277 (j := 8) rfl) rfl (k1 M1 hR1 c1)
  ·
    refine b_iload_n (d277 (j := 4) rfl) rfl ?_
    refine b_callS (d277 (j := 5) rfl) (Or.inl rfl) rfl (bCk_mk (n := 0) (k := 1) (by decide +kernel) rfl rfl) (pu191  ?_)
    refine b_stk [uI (if (1 ≤ x2 ∧ x2 ≤ 5) then 1 else 0)] rfl ?_
    refine b_ifneP (d277 (j := 6) rfl) (fun c2 => ?_) (fun c2 => ?_)
    ·
      refine b_iconst (d277 (j := 9) rfl) (by decide) ?_
      refine b_istore_n [uR 11 84, uI x1, uI x2, uI 0] (d277 (j := 10) rfl) (by decide) rfl ?_
      refine b_find (fun (i277_1 : Int) => [uR 11 84, uI x1, uI x2, uI i277_1]) (fun (i277_1 : Int) => ¬ ((v248 M1 x1 i277_1 x2) ≤ 0)) 0 ((M1 85 0) + 1) (fun i277_1 h277_1l h277_1r hn hk277_1 => ?_) (fun i277_1 h277_1l h277_1r hp he => ?_) (fun i277_1 h277_1l h277_1r he => ?_)
      ·
        refine b_iload_n (d277 (j := 11) rfl) rfl ?_
        refine b_aload_n (d277 (j := 12) rfl) rfl ?_
        refine b_callV (d277 (j := 13) rfl) rfl rfl (Or.inl rfl) rfl (bCk_mk (n := 1) (k := 1) (by decide +kernel) rfl rfl) (pu183  ?_)
        refine b_stk [uI (M1 85 0), uI i277_1] rfl ?_
        refine b_icmp_gt (d277 (j := 14) rfl) (fun c3 => ?_) (fun c3 => ?_)
        · exfalso; omega
        ·
          refine b_aload_n (d277 (j := 15) rfl) rfl ?_
          refine b_iload_n (d277 (j := 16) rfl) rfl ?_
          refine b_iload_n (d277 (j := 17) rfl) rfl ?_
          refine b_iload_n (d277 (j := 18) rfl) rfl ?_
          refine b_callV (d277 (j := 19) rfl) rfl rfl (Or.inl rfl) rfl (bCk_mk (n := 0) (k := 4) (by decide +kernel) rfl rfl) (fx248 (s1 M1 hR1 c1 c2 i277_1 h277_1l h277_1r) (s2 M1 hR1 c1 c2 i277_1 h277_1l h277_1r) (s3 M1 hR1 c1 c2 i277_1 h277_1l h277_1r) (s4 M1 hR1 c1 c2 i277_1 h277_1l h277_1r) (s5 M1 hR1 c1 c2 i277_1 h277_1l h277_1r) ?_)
          refine b_stk [uI (v248 M1 x1 i277_1 x2)] rfl ?_
          refine b_if_le (d277 (j := 20) rfl) (fun c4 => ?_) (fun c4 => ?_)
          ·
            refine b_iinc [uR 11 84, uI x1, uI x2, uI (i277_1 + 1)] (d277 (j := 23) rfl) rfl (by decide) (s6 M1 hR1 c1 c2 i277_1 h277_1l h277_1r) rfl ?_
            refine b_goto (d277 (j := 24) rfl) ?_
            exact hk277_1
          ·
            refine b_iload_n (d277 (j := 21) rfl) rfl ?_
            exfalso; omega
      ·
        subst he
        refine b_iload_n (d277 (j := 11) rfl) rfl ?_
        refine b_aload_n (d277 (j := 12) rfl) rfl ?_
        refine b_callV (d277 (j := 13) rfl) rfl rfl (Or.inl rfl) rfl (bCk_mk (n := 1) (k := 1) (by decide +kernel) rfl rfl) (pu183  ?_)
        refine b_stk [uI (M1 85 0), uI (dsFind (fun (i277_1 : Int) => ¬ ((v248 M1 x1 i277_1 x2) ≤ 0)) 0 ((M1 85 0) + 1))] rfl ?_
        refine b_icmp_gt (d277 (j := 14) rfl) (fun c5 => ?_) (fun c5 => ?_)
        · exfalso; omega
        ·
          refine b_aload_n (d277 (j := 15) rfl) rfl ?_
          refine b_iload_n (d277 (j := 16) rfl) rfl ?_
          refine b_iload_n (d277 (j := 17) rfl) rfl ?_
          refine b_iload_n (d277 (j := 18) rfl) rfl ?_
          refine b_callV (d277 (j := 19) rfl) rfl rfl (Or.inl rfl) rfl (bCk_mk (n := 0) (k := 4) (by decide +kernel) rfl rfl) (fx248 (s1 M1 hR1 c1 c2 (dsFind (fun (i277_1 : Int) => ¬ ((v248 M1 x1 i277_1 x2) ≤ 0)) 0 ((M1 85 0) + 1)) h277_1l h277_1r) (s2 M1 hR1 c1 c2 (dsFind (fun (i277_1 : Int) => ¬ ((v248 M1 x1 i277_1 x2) ≤ 0)) 0 ((M1 85 0) + 1)) h277_1l h277_1r) (s3 M1 hR1 c1 c2 (dsFind (fun (i277_1 : Int) => ¬ ((v248 M1 x1 i277_1 x2) ≤ 0)) 0 ((M1 85 0) + 1)) h277_1l h277_1r) (s4 M1 hR1 c1 c2 (dsFind (fun (i277_1 : Int) => ¬ ((v248 M1 x1 i277_1 x2) ≤ 0)) 0 ((M1 85 0) + 1)) h277_1l h277_1r) (s5 M1 hR1 c1 c2 (dsFind (fun (i277_1 : Int) => ¬ ((v248 M1 x1 i277_1 x2) ≤ 0)) 0 ((M1 85 0) + 1)) h277_1l h277_1r) ?_)
          refine b_stk [uI (v248 M1 x1 (dsFind (fun (i277_1 : Int) => ¬ ((v248 M1 x1 i277_1 x2) ≤ 0)) 0 ((M1 85 0) + 1)) x2)] rfl ?_
          refine b_if_le (d277 (j := 20) rfl) (fun c6 => ?_) (fun c6 => ?_)
          ·
            refine b_iinc [uR 11 84, uI x1, uI x2, uI ((dsFind (fun (i277_1 : Int) => ¬ ((v248 M1 x1 i277_1 x2) ≤ 0)) 0 ((M1 85 0) + 1)) + 1)] (d277 (j := 23) rfl) rfl (by decide) (s6 M1 hR1 c1 c2 (dsFind (fun (i277_1 : Int) => ¬ ((v248 M1 x1 i277_1 x2) ≤ 0)) 0 ((M1 85 0) + 1)) h277_1l h277_1r) rfl ?_
            refine b_goto (d277 (j := 24) rfl) ?_
            exfalso; omega
          ·
            refine b_iload_n (d277 (j := 21) rfl) rfl ?_
            exact b_iret (d277 (j := 22) rfl) rfl (k2 M1 hR1 c1 c2 h277_1r)
      ·
        refine b_iload_n (d277 (j := 11) rfl) rfl ?_
        refine b_aload_n (d277 (j := 12) rfl) rfl ?_
        refine b_callV (d277 (j := 13) rfl) rfl rfl (Or.inl rfl) rfl (bCk_mk (n := 1) (k := 1) (by decide +kernel) rfl rfl) (pu183  ?_)
        refine b_stk [uI (M1 85 0), uI i277_1] rfl ?_
        refine b_icmp_gt (d277 (j := 14) rfl) (fun c7 => ?_) (fun c7 => ?_)
        rotate_left
        · exfalso; omega
        ·
          refine b_iconst (d277 (j := 25) rfl) (by decide) ?_
          exact b_iret (d277 (j := 26) rfl) rfl (k3 M1 hR1 c1 c2 he)
    ·
      refine b_bipush (d277 (j := 7) rfl) (by decide) ?_
      exact b_iret (d277 (j := 8) rfl) rfl (k4 M1 hR1 c1 c2)
def L278 : List (Nat × Instr × Nat × Nat) := [(0, .aload_n 0, 1, 0), (1, .iload_n 1, 2, 0), (2, .invokevirtual 392, 5, 0), (5, .ifCond .ne 6, 8, 11), (8, .bipush (-2), 10, 0), (10, .ireturn, 11, 0), (11, .iconst 0, 12, 0), (12, .istore_n 2, 13, 0), (13, .iconst 1, 14, 0), (14, .istore_n 3, 15, 0), (15, .iload_n 3, 16, 0), (16, .aload_n 0, 17, 0), (17, .invokevirtual 124, 20, 0), (20, .if_icmp .gt 34, 23, 54), (23, .iload_n 2, 24, 0), (24, .aload_n 0, 25, 0), (25, .iload_n 1, 26, 0), (26, .iload_n 3, 27, 0), (27, .invokevirtual 373, 30, 0), (30, .aload_n 0, 31, 0), (31, .iload_n 1, 32, 0), (32, .iload_n 3, 33, 0), (33, .iconst 1, 34, 0), (34, .isub, 35, 0), (35, .invokevirtual 373, 38, 0), (38, .if_icmp .ge 7, 41, 45), (41, .iconst 1, 42, 0), (42, .goto 4, 45, 46), (45, .iconst 0, 46, 0), (46, .iadd, 47, 0), (47, .istore_n 2, 48, 0), (48, .iinc 3 1, 51, 0), (51, .goto (-36), 54, 15), (54, .iload_n 2, 55, 0), (55, .ireturn, 56, 0)]
set_option maxRecDepth 100000 in
theorem L278_ok : L278.all (dck 278) = true := by decide +kernel
theorem d278 {j pc nx tg : Nat} {ins : Instr} (hj : L278[j]? = some (pc, ins, nx, tg)) : dcd 278 pc ins nx tg := dcl_ok L278_ok hj
set_option maxRecDepth 100000 in
set_option maxHeartbeats 4000000 in
theorem r278_0 {x1 : Int} {R1 : dsMem → Prop} {g1 : dsMem → Int} {M : dsMem} {Q : bQT} (hA1 : bCt 238 [uR 11 84, uI x1] M (fun M1 => [uI (g1 M1)]) R1) (s1 : ∀ M1 : dsMem, R1 M1 → (¬ (g1 M1) = 0) → ∀ i278_1 : Int, ∀ a278_1 : Int, 1 ≤ i278_1 → i278_1 < ((M1 85 0) + 1) → 0 ≤ ((6 * i278_1) + x1) ∧ ((6 * i278_1) + x1) < 78 := by intros; omega) (s2 : ∀ M1 : dsMem, R1 M1 → (¬ (g1 M1) = 0) → ∀ i278_1 : Int, ∀ a278_1 : Int, 1 ≤ i278_1 → i278_1 < ((M1 85 0) + 1) → -2147483648 ≤ (i278_1 - 1) ∧ (i278_1 - 1) < 2147483648 := by intros; omega) (s3 : ∀ M1 : dsMem, R1 M1 → (¬ (g1 M1) = 0) → ∀ i278_1 : Int, ∀ a278_1 : Int, 1 ≤ i278_1 → i278_1 < ((M1 85 0) + 1) → 0 ≤ ((6 * (i278_1 - 1)) + x1) ∧ ((6 * (i278_1 - 1)) + x1) < 78 := by intros; omega) (s4 : ∀ M1 : dsMem, R1 M1 → (¬ (g1 M1) = 0) → ∀ i278_1 : Int, ∀ a278_1 : Int, 1 ≤ i278_1 → i278_1 < ((M1 85 0) + 1) → -2147483648 ≤ i278_1 + 1 ∧ i278_1 + 1 < 2147483648 := by intros; omega) (k1 : ∀ M1 : dsMem, R1 M1 → (¬ (g1 M1) = 0) → Q [uI (dsIter (fun (i278_1 : Int) (a278_1 : Int) => (if (M1 102 ((6 * (i278_1 - 1)) + x1)) ≤ (M1 102 ((6 * i278_1) + x1)) then (dsw ((a278_1 + 0))) else (dsw ((a278_1 + 1))))) 1 ((M1 85 0) + 1) 0)] M1) (k2 : ∀ M1 : dsMem, R1 M1 → ((g1 M1) = 0) → Q [uI (-2)] M1) :
    bB 278 0 [uR 11 84, uI x1, uX 0, uX 0] [] M Q := by
  refine b_aload_n (d278 (j := 0) rfl) rfl ?_
  refine b_iload_n (d278 (j := 1) rfl) rfl ?_
  refine b_callV (d278 (j := 2) rfl) rfl rfl (Or.inl rfl) rfl (bCk_mk (n := 0) (k := 2) (by decide +kernel) rfl rfl) ((hA1) _ (fun M1 hR1 => ?_))
  refine b_stk [uI (g1 M1)] rfl ?_
  refine b_if_ne (d278 (j := 3) rfl) (fun c1 => ?_) (fun c1 => ?_)
  ·
    refine b_iconst (d278 (j := 6) rfl) (by decide) ?_
    refine b_istore_n [uR 11 84, uI x1, uI 0, uX 0] (d278 (j := 7) rfl) (by decide) rfl ?_
    refine b_iconst (d278 (j := 8) rfl) (by decide) ?_
    refine b_istore_n [uR 11 84, uI x1, uI 0, uI 1] (d278 (j := 9) rfl) (by decide) rfl ?_
    refine b_for (fun (i278_1 : Int) (a278_1 : Int) => [uR 11 84, uI x1, uI a278_1, uI i278_1]) (fun (i278_1 : Int) (a278_1 : Int) => (if (M1 102 ((6 * (i278_1 - 1)) + x1)) ≤ (M1 102 ((6 * i278_1) + x1)) then (dsw ((a278_1 + 0))) else (dsw ((a278_1 + 1))))) 1 ((M1 85 0) + 1) 0 (fun i278_1 a278_1 h278_1l h278_1r hk278_1 => ?_) (fun i278_1 h278_1l h278_1r => ?_)
    ·
      refine b_iload_n (d278 (j := 10) rfl) rfl ?_
      refine b_aload_n (d278 (j := 11) rfl) rfl ?_
      refine b_callV (d278 (j := 12) rfl) rfl rfl (Or.inl rfl) rfl (bCk_mk (n := 1) (k := 1) (by decide +kernel) rfl rfl) (pu183  ?_)
      refine b_stk [uI (M1 85 0), uI i278_1] rfl ?_
      refine b_icmp_gt (d278 (j := 13) rfl) (fun c2 => ?_) (fun c2 => ?_)
      · exfalso; omega
      ·
        refine b_iload_n (d278 (j := 14) rfl) rfl ?_
        refine b_aload_n (d278 (j := 15) rfl) rfl ?_
        refine b_iload_n (d278 (j := 16) rfl) rfl ?_
        refine b_iload_n (d278 (j := 17) rfl) rfl ?_
        refine b_callV (d278 (j := 18) rfl) rfl rfl (Or.inl rfl) rfl (bCk_mk (n := 1) (k := 3) (by decide +kernel) rfl rfl) (pu240 (s1 M1 hR1 c1 i278_1 a278_1 h278_1l h278_1r) ?_)
        refine b_stk [uI (M1 102 ((6 * i278_1) + x1)), uI a278_1] rfl ?_
        refine b_aload_n (d278 (j := 19) rfl) rfl ?_
        refine b_iload_n (d278 (j := 20) rfl) rfl ?_
        refine b_iload_n (d278 (j := 21) rfl) rfl ?_
        refine b_iconst (d278 (j := 22) rfl) (by decide) ?_
        refine b_isub (d278 (j := 23) rfl) rfl rfl ?_
        refine b_stk [uI (i278_1 - 1), uI x1, uR 11 84, uI (M1 102 ((6 * i278_1) + x1)), uI a278_1] (by rw [dsw_r (s2 M1 hR1 c1 i278_1 a278_1 h278_1l h278_1r)]) ?_
        refine b_callV (d278 (j := 24) rfl) rfl rfl (Or.inl rfl) rfl (bCk_mk (n := 2) (k := 3) (by decide +kernel) rfl rfl) (pu240 (s3 M1 hR1 c1 i278_1 a278_1 h278_1l h278_1r) ?_)
        refine b_stk [uI (M1 102 ((6 * (i278_1 - 1)) + x1)), uI (M1 102 ((6 * i278_1) + x1)), uI a278_1] rfl ?_
        refine b_icmp_ge (d278 (j := 25) rfl) (fun c3 => ?_) (fun c3 => ?_)
        ·
          rw [if_pos c3] at hk278_1
          refine b_iconst (d278 (j := 28) rfl) (by decide) ?_
          refine b_iadd (d278 (j := 29) rfl) rfl rfl ?_
          refine b_istore_n [uR 11 84, uI x1, uI (dsw ((a278_1 + 0))), uI i278_1] (d278 (j := 30) rfl) (by decide) rfl ?_
          refine b_iinc [uR 11 84, uI x1, uI (dsw ((a278_1 + 0))), uI (i278_1 + 1)] (d278 (j := 31) rfl) rfl (by decide) (s4 M1 hR1 c1 i278_1 a278_1 h278_1l h278_1r) rfl ?_
          refine b_goto (d278 (j := 32) rfl) ?_
          exact hk278_1
        ·
          rw [if_neg c3] at hk278_1
          refine b_iconst (d278 (j := 26) rfl) (by decide) ?_
          refine b_goto (d278 (j := 27) rfl) ?_
          refine b_iadd (d278 (j := 29) rfl) rfl rfl ?_
          refine b_istore_n [uR 11 84, uI x1, uI (dsw ((a278_1 + 1))), uI i278_1] (d278 (j := 30) rfl) (by decide) rfl ?_
          refine b_iinc [uR 11 84, uI x1, uI (dsw ((a278_1 + 1))), uI (i278_1 + 1)] (d278 (j := 31) rfl) rfl (by decide) (s4 M1 hR1 c1 i278_1 a278_1 h278_1l h278_1r) rfl ?_
          refine b_goto (d278 (j := 32) rfl) ?_
          exact hk278_1
    ·
      refine b_iload_n (d278 (j := 10) rfl) rfl ?_
      refine b_aload_n (d278 (j := 11) rfl) rfl ?_
      refine b_callV (d278 (j := 12) rfl) rfl rfl (Or.inl rfl) rfl (bCk_mk (n := 1) (k := 1) (by decide +kernel) rfl rfl) (pu183  ?_)
      refine b_stk [uI (M1 85 0), uI i278_1] rfl ?_
      refine b_icmp_gt (d278 (j := 13) rfl) (fun c4 => ?_) (fun c4 => ?_)
      rotate_left
      · exfalso; omega
      ·
        refine b_iload_n (d278 (j := 33) rfl) rfl ?_
        exact b_iret (d278 (j := 34) rfl) rfl (k1 M1 hR1 c1)
  ·
    refine b_bipush (d278 (j := 4) rfl) (by decide) ?_
    exact b_iret (d278 (j := 5) rfl) rfl (k2 M1 hR1 c1)
def L279 : List (Nat × Instr × Nat × Nat) := [(0, .aload_n 0, 1, 0), (1, .getfield 70, 4, 0), (4, .iload_n 1, 5, 0), (5, .iaload, 6, 0), (6, .aload_n 0, 7, 0), (7, .getfield 70, 10, 0), (10, .iload_n 2, 11, 0), (11, .iaload, 12, 0), (12, .if_icmp .ne 7, 15, 19), (15, .iconst 1, 16, 0), (16, .goto 4, 19, 20), (19, .iconst 0, 20, 0), (20, .istore_n 3, 21, 0), (21, .iconst 0, 22, 0), (22, .istore 4, 24, 0), (24, .iload 4, 26, 0), (26, .aload_n 0, 27, 0), (27, .getfield 70, 30, 0), (30, .iload_n 1, 31, 0), (31, .iaload, 32, 0), (32, .if_icmp .ge 73, 35, 105), (35, .iload_n 3, 36, 0), (36, .ifCond .eq 69, 39, 105), (39, .aload_n 0, 40, 0), (40, .getfield 73, 43, 0), (43, .bipush 60, 45, 0), (45, .iload_n 1, 46, 0), (46, .imul, 47, 0), (47, .iload 4, 49, 0), (49, .iadd, 50, 0), (50, .iaload, 51, 0), (51, .aload_n 0, 52, 0), (52, .getfield 73, 55, 0), (55, .bipush 60, 57, 0), (57, .iload_n 2, 58, 0), (58, .imul, 59, 0), (59, .iload 4, 61, 0), (61, .iadd, 62, 0), (62, .iaload, 63, 0), (63, .if_icmp .ne 34, 66, 97), (66, .aload_n 0, 67, 0), (67, .getfield 76, 70, 0), (70, .bipush 60, 72, 0), (72, .iload_n 1, 73, 0), (73, .imul, 74, 0), (74, .iload 4, 76, 0), (76, .iadd, 77, 0), (77, .iaload, 78, 0), (78, .aload_n 0, 79, 0), (79, .getfield 76, 82, 0), (82, .bipush 60, 84, 0), (84, .iload_n 2, 85, 0), (85, .imul, 86, 0), (86, .iload 4, 88, 0), (88, .iadd, 89, 0), (89, .iaload, 90, 0), (90, .if_icmp .ne 7, 93, 97), (93, .iconst 1, 94, 0), (94, .goto 4, 97, 98), (97, .iconst 0, 98, 0), (98, .istore_n 3, 99, 0), (99, .iinc 4 1, 102, 0), (102, .goto (-78), 105, 24), (105, .iload_n 3, 106, 0), (106, .ireturn, 107, 0)]
set_option maxRecDepth 100000 in
theorem L279_ok : L279.all (dck 279) = true := by decide +kernel
theorem d279 {j pc nx tg : Nat} {ins : Instr} (hj : L279[j]? = some (pc, ins, nx, tg)) : dcd 279 pc ins nx tg := dcl_ok L279_ok hj
set_option maxRecDepth 100000 in
set_option maxHeartbeats 4000000 in
theorem r279_0 {x1 x2 : Int}  {M : dsMem} {Q : bQT} (s1 : 0 ≤ x1 ∧ x1 < 78 := by intros; omega) (s2 : 0 ≤ x2 ∧ x2 < 78 := by intros; omega) (k1 : (¬ (M 103 x1) = (M 103 x2)) → bB 279 24 [uR 11 84, uI x1, uI x2, uI 0, uI 0] [] M Q) (k2 : ((M 103 x1) = (M 103 x2)) → bB 279 24 [uR 11 84, uI x1, uI x2, uI 1, uI 0] [] M Q) :
    bB 279 0 [uR 11 84, uI x1, uI x2, uX 0, uX 0] [] M Q := by
  refine b_aload_n (d279 (j := 0) rfl) rfl ?_
  refine b_getR (d279 (j := 1) rfl) rfl rfl rfl rfl ?_
  refine b_stk [uR 25 103] rfl ?_
  refine b_iload_n (d279 (j := 2) rfl) rfl ?_
  refine b_iaload (d279 (j := 3) rfl) rfl s1 ?_
  refine b_aload_n (d279 (j := 4) rfl) rfl ?_
  refine b_getR (d279 (j := 5) rfl) rfl rfl rfl rfl ?_
  refine b_stk [uR 25 103, uI (M 103 x1)] rfl ?_
  refine b_iload_n (d279 (j := 6) rfl) rfl ?_
  refine b_iaload (d279 (j := 7) rfl) rfl s2 ?_
  refine b_icmp_ne (d279 (j := 8) rfl) (fun c1 => ?_) (fun c1 => ?_)
  ·
    refine b_iconst (d279 (j := 11) rfl) (by decide) ?_
    refine b_istore_n [uR 11 84, uI x1, uI x2, uI 0, uX 0] (d279 (j := 12) rfl) (by decide) rfl ?_
    refine b_iconst (d279 (j := 13) rfl) (by decide) ?_
    refine b_istore [uR 11 84, uI x1, uI x2, uI 0, uI 0] (d279 (j := 14) rfl) (by decide) rfl ?_
    exact (k1 c1)
  ·
    refine b_iconst (d279 (j := 9) rfl) (by decide) ?_
    refine b_goto (d279 (j := 10) rfl) ?_
    refine b_istore_n [uR 11 84, uI x1, uI x2, uI 1, uX 0] (d279 (j := 12) rfl) (by decide) rfl ?_
    refine b_iconst (d279 (j := 13) rfl) (by decide) ?_
    refine b_istore [uR 11 84, uI x1, uI x2, uI 1, uI 0] (d279 (j := 14) rfl) (by decide) rfl ?_
    exact (k2 c1)
set_option maxRecDepth 100000 in
set_option maxHeartbeats 4000000 in
theorem r279_24 {x1 x2 x3 x4 : Int}  {M : dsMem} {Q : bQT} (s1 : 0 ≤ x1 ∧ x1 < 78 := by intros; omega) (k1 : ((M 103 x1) ≤ x4) → Q [uI x3] M) (s2 : ((M 103 x1) ≤ x4) → x3 = 0 ∨ x3 = 1 := by intros; omega) (k2 : (¬ (M 103 x1) ≤ x4) → (x3 = 0) → Q [uI x3] M) (s3 : (¬ (M 103 x1) ≤ x4) → (x3 = 0) → x3 = 0 ∨ x3 = 1 := by intros; omega) (s4 : (¬ (M 103 x1) ≤ x4) → (¬ x3 = 0) → 0 ≤ ((60 * x1) + x4) ∧ ((60 * x1) + x4) < 4680 := by intros; omega) (s5 : (¬ (M 103 x1) ≤ x4) → (¬ x3 = 0) → 0 ≤ ((60 * x2) + x4) ∧ ((60 * x2) + x4) < 4680 := by intros; omega) (s6 : (¬ (M 103 x1) ≤ x4) → (¬ x3 = 0) → (¬ (M 104 ((60 * x1) + x4)) = (M 104 ((60 * x2) + x4))) → -2147483648 ≤ x4 + 1 ∧ x4 + 1 < 2147483648 := by intros; omega) (k3 : (¬ (M 103 x1) ≤ x4) → (¬ x3 = 0) → (¬ (M 104 ((60 * x1) + x4)) = (M 104 ((60 * x2) + x4))) → bB 279 24 [uR 11 84, uI x1, uI x2, uI 0, uI (x4 + 1)] [] M Q) (s7 : (¬ (M 103 x1) ≤ x4) → (¬ x3 = 0) → ((M 104 ((60 * x1) + x4)) = (M 104 ((60 * x2) + x4))) → (¬ (M 105 ((60 * x1) + x4)) = (M 105 ((60 * x2) + x4))) → -2147483648 ≤ x4 + 1 ∧ x4 + 1 < 2147483648 := by intros; omega) (k4 : (¬ (M 103 x1) ≤ x4) → (¬ x3 = 0) → ((M 104 ((60 * x1) + x4)) = (M 104 ((60 * x2) + x4))) → (¬ (M 105 ((60 * x1) + x4)) = (M 105 ((60 * x2) + x4))) → bB 279 24 [uR 11 84, uI x1, uI x2, uI 0, uI (x4 + 1)] [] M Q) (s8 : (¬ (M 103 x1) ≤ x4) → (¬ x3 = 0) → ((M 104 ((60 * x1) + x4)) = (M 104 ((60 * x2) + x4))) → ((M 105 ((60 * x1) + x4)) = (M 105 ((60 * x2) + x4))) → -2147483648 ≤ x4 + 1 ∧ x4 + 1 < 2147483648 := by intros; omega) (k5 : (¬ (M 103 x1) ≤ x4) → (¬ x3 = 0) → ((M 104 ((60 * x1) + x4)) = (M 104 ((60 * x2) + x4))) → ((M 105 ((60 * x1) + x4)) = (M 105 ((60 * x2) + x4))) → bB 279 24 [uR 11 84, uI x1, uI x2, uI 1, uI (x4 + 1)] [] M Q) :
    bB 279 24 [uR 11 84, uI x1, uI x2, uI x3, uI x4] [] M Q := by
  refine b_iload (d279 (j := 15) rfl) rfl ?_
  refine b_aload_n (d279 (j := 16) rfl) rfl ?_
  refine b_getR (d279 (j := 17) rfl) rfl rfl rfl rfl ?_
  refine b_stk [uR 25 103, uI x4] rfl ?_
  refine b_iload_n (d279 (j := 18) rfl) rfl ?_
  refine b_iaload (d279 (j := 19) rfl) rfl s1 ?_
  refine b_icmp_ge (d279 (j := 20) rfl) (fun c1 => ?_) (fun c1 => ?_)
  ·
    refine b_iload_n (d279 (j := 63) rfl) rfl ?_
    exact b_zret (d279 (j := 64) rfl) rfl (s2 c1) (k1 c1)
  ·
    refine b_iload_n (d279 (j := 21) rfl) rfl ?_
    refine b_if_eq (d279 (j := 22) rfl) (fun c2 => ?_) (fun c2 => ?_)
    ·
      refine b_iload_n (d279 (j := 63) rfl) rfl ?_
      exact b_zret (d279 (j := 64) rfl) rfl (s3 c1 c2) (k2 c1 c2)
    ·
      refine b_aload_n (d279 (j := 23) rfl) rfl ?_
      refine b_getR (d279 (j := 24) rfl) rfl rfl rfl rfl ?_
      refine b_stk [uR 24 104] rfl ?_
      refine b_bipush (d279 (j := 25) rfl) (by decide) ?_
      refine b_iload_n (d279 (j := 26) rfl) rfl ?_
      refine b_imul (d279 (j := 27) rfl) rfl rfl ?_
      refine b_iload (d279 (j := 28) rfl) rfl ?_
      refine b_iadd (d279 (j := 29) rfl) (dsw_dsw _) rfl ?_
      refine b_stk [uI ((60 * x1) + x4), uR 24 104] (by rw [dsw_b (s4 c1 c2) (by decide)]) ?_
      refine b_iaload (d279 (j := 30) rfl) rfl (s4 c1 c2) ?_
      refine b_aload_n (d279 (j := 31) rfl) rfl ?_
      refine b_getR (d279 (j := 32) rfl) rfl rfl rfl rfl ?_
      refine b_stk [uR 24 104, uI (M 104 ((60 * x1) + x4))] rfl ?_
      refine b_bipush (d279 (j := 33) rfl) (by decide) ?_
      refine b_iload_n (d279 (j := 34) rfl) rfl ?_
      refine b_imul (d279 (j := 35) rfl) rfl rfl ?_
      refine b_iload (d279 (j := 36) rfl) rfl ?_
      refine b_iadd (d279 (j := 37) rfl) (dsw_dsw _) rfl ?_
      refine b_stk [uI ((60 * x2) + x4), uR 24 104, uI (M 104 ((60 * x1) + x4))] (by rw [dsw_b (s5 c1 c2) (by decide)]) ?_
      refine b_iaload (d279 (j := 38) rfl) rfl (s5 c1 c2) ?_
      refine b_icmp_ne (d279 (j := 39) rfl) (fun c3 => ?_) (fun c3 => ?_)
      ·
        refine b_iconst (d279 (j := 59) rfl) (by decide) ?_
        refine b_istore_n [uR 11 84, uI x1, uI x2, uI 0, uI x4] (d279 (j := 60) rfl) (by decide) rfl ?_
        refine b_iinc [uR 11 84, uI x1, uI x2, uI 0, uI (x4 + 1)] (d279 (j := 61) rfl) rfl (by decide) (s6 c1 c2 c3) rfl ?_
        refine b_goto (d279 (j := 62) rfl) ?_
        exact (k3 c1 c2 c3)
      ·
        refine b_aload_n (d279 (j := 40) rfl) rfl ?_
        refine b_getR (d279 (j := 41) rfl) rfl rfl rfl rfl ?_
        refine b_stk [uR 24 105] rfl ?_
        refine b_bipush (d279 (j := 42) rfl) (by decide) ?_
        refine b_iload_n (d279 (j := 43) rfl) rfl ?_
        refine b_imul (d279 (j := 44) rfl) rfl rfl ?_
        refine b_iload (d279 (j := 45) rfl) rfl ?_
        refine b_iadd (d279 (j := 46) rfl) (dsw_dsw _) rfl ?_
        refine b_stk [uI ((60 * x1) + x4), uR 24 105] (by rw [dsw_b (s4 c1 c2) (by decide)]) ?_
        refine b_iaload (d279 (j := 47) rfl) rfl (s4 c1 c2) ?_
        refine b_aload_n (d279 (j := 48) rfl) rfl ?_
        refine b_getR (d279 (j := 49) rfl) rfl rfl rfl rfl ?_
        refine b_stk [uR 24 105, uI (M 105 ((60 * x1) + x4))] rfl ?_
        refine b_bipush (d279 (j := 50) rfl) (by decide) ?_
        refine b_iload_n (d279 (j := 51) rfl) rfl ?_
        refine b_imul (d279 (j := 52) rfl) rfl rfl ?_
        refine b_iload (d279 (j := 53) rfl) rfl ?_
        refine b_iadd (d279 (j := 54) rfl) (dsw_dsw _) rfl ?_
        refine b_stk [uI ((60 * x2) + x4), uR 24 105, uI (M 105 ((60 * x1) + x4))] (by rw [dsw_b (s5 c1 c2) (by decide)]) ?_
        refine b_iaload (d279 (j := 55) rfl) rfl (s5 c1 c2) ?_
        refine b_icmp_ne (d279 (j := 56) rfl) (fun c4 => ?_) (fun c4 => ?_)
        ·
          refine b_iconst (d279 (j := 59) rfl) (by decide) ?_
          refine b_istore_n [uR 11 84, uI x1, uI x2, uI 0, uI x4] (d279 (j := 60) rfl) (by decide) rfl ?_
          refine b_iinc [uR 11 84, uI x1, uI x2, uI 0, uI (x4 + 1)] (d279 (j := 61) rfl) rfl (by decide) (s7 c1 c2 c3 c4) rfl ?_
          refine b_goto (d279 (j := 62) rfl) ?_
          exact (k4 c1 c2 c3 c4)
        ·
          refine b_iconst (d279 (j := 57) rfl) (by decide) ?_
          refine b_goto (d279 (j := 58) rfl) ?_
          refine b_istore_n [uR 11 84, uI x1, uI x2, uI 1, uI x4] (d279 (j := 60) rfl) (by decide) rfl ?_
          refine b_iinc [uR 11 84, uI x1, uI x2, uI 1, uI (x4 + 1)] (d279 (j := 61) rfl) rfl (by decide) (s8 c1 c2 c3 c4) rfl ?_
          refine b_goto (d279 (j := 62) rfl) ?_
          exact (k5 c1 c2 c3 c4)
def L280 : List (Nat × Instr × Nat × Nat) := [(0, .aload_n 0, 1, 0), (1, .iload_n 2, 2, 0), (2, .invokevirtual 382, 5, 0), (5, .ifCond .eq 12, 8, 17), (8, .aload_n 0, 9, 0), (9, .iload_n 1, 10, 0), (10, .i2l, 11, 0), (11, .invokevirtual 268, 14, 0), (14, .ifCond .ne 6, 17, 20), (17, .bipush (-2), 19, 0), (19, .ireturn, 20, 0), (20, .iconst 0, 21, 0), (21, .istore_n 3, 22, 0), (22, .iconst 0, 23, 0), (23, .istore 4, 25, 0), (25, .iload 4, 27, 0), (27, .aload_n 0, 28, 0), (28, .invokevirtual 116, 31, 0), (31, .if_icmp .ge 37, 34, 68), (34, .iload_n 3, 35, 0), (35, .aload_n 0, 36, 0), (36, .bipush 6, 38, 0), (38, .iload_n 2, 39, 0), (39, .imul, 40, 0), (40, .iload_n 1, 41, 0), (41, .iadd, 42, 0), (42, .bipush 6, 44, 0), (44, .iload_n 2, 45, 0), (45, .imul, 46, 0), (46, .iload 4, 48, 0), (48, .iadd, 49, 0), (49, .invokevirtual 404, 52, 0), (52, .ifCond .eq 7, 55, 59), (55, .iconst 1, 56, 0), (56, .goto 4, 59, 60), (59, .iconst 0, 60, 0), (60, .iadd, 61, 0), (61, .istore_n 3, 62, 0), (62, .iinc 4 1, 65, 0), (65, .goto (-40), 68, 25), (68, .iload_n 3, 69, 0), (69, .ireturn, 70, 0)]
set_option maxRecDepth 100000 in
theorem L280_ok : L280.all (dck 280) = true := by decide +kernel
theorem d280 {j pc nx tg : Nat} {ins : Instr} (hj : L280[j]? = some (pc, ins, nx, tg)) : dcd 280 pc ins nx tg := dcl_ok L280_ok hj
set_option maxRecDepth 100000 in
set_option maxHeartbeats 4000000 in
theorem r280_0 {x1 x2 : Int} {R1 : dsMem → Prop} {g1 : dsMem → Int} {M : dsMem} {Q : bQT} (hA1 : bCt 236 [uR 11 84, uI x2] M (fun M1 => [uI (g1 M1)]) R1) (k1 : ∀ M1 : dsMem, R1 M1 → ((g1 M1) = 0) → Q [uI (-2)] M1) (s1 : ∀ M1 : dsMem, R1 M1 → (¬ (g1 M1) = 0) → -2147483648 ≤ ((M1 85 4) - 1) ∧ ((M1 85 4) - 1) < 2147483648 := by intros; omega) (k2 : ∀ M1 : dsMem, R1 M1 → (¬ (g1 M1) = 0) → ((0 ≤ x1 ∧ x1 ≤ (M1 85 4) - 1)) → bB 280 25 [uR 11 84, uI x1, uI x2, uI 0, uI 0] [] M1 Q) (k3 : ∀ M1 : dsMem, R1 M1 → (¬ (g1 M1) = 0) → (¬ (0 ≤ x1 ∧ x1 ≤ (M1 85 4) - 1)) → Q [uI (-2)] M1) :
    bB 280 0 [uR 11 84, uI x1, uI x2, uX 0, uX 0] [] M Q := by
  refine b_aload_n (d280 (j := 0) rfl) rfl ?_
  refine b_iload_n (d280 (j := 1) rfl) rfl ?_
  refine b_callV (d280 (j := 2) rfl) rfl rfl (Or.inl rfl) rfl (bCk_mk (n := 0) (k := 2) (by decide +kernel) rfl rfl) ((hA1) _ (fun M1 hR1 => ?_))
  refine b_stk [uI (g1 M1)] rfl ?_
  refine b_if_eq (d280 (j := 3) rfl) (fun c1 => ?_) (fun c1 => ?_)
  ·
    refine b_bipush (d280 (j := 9) rfl) (by decide) ?_
    exact b_iret (d280 (j := 10) rfl) rfl (k1 M1 hR1 c1)
  ·
    refine b_aload_n (d280 (j := 4) rfl) rfl ?_
    refine b_iload_n (d280 (j := 5) rfl) rfl ?_
    refine b_i2l (d280 (j := 6) rfl) ?_
    refine b_callV (d280 (j := 7) rfl) rfl rfl (Or.inl rfl) rfl (bCk_mk (n := 0) (k := 3) (by decide +kernel) rfl rfl) (pu190 (s1 M1 hR1 c1) ?_)
    refine b_stk [uI (if (0 ≤ x1 ∧ x1 ≤ (M1 85 4) - 1) then 1 else 0)] rfl ?_
    refine b_ifneP (d280 (j := 8) rfl) (fun c2 => ?_) (fun c2 => ?_)
    ·
      refine b_iconst (d280 (j := 11) rfl) (by decide) ?_
      refine b_istore_n [uR 11 84, uI x1, uI x2, uI 0, uX 0] (d280 (j := 12) rfl) (by decide) rfl ?_
      refine b_iconst (d280 (j := 13) rfl) (by decide) ?_
      refine b_istore [uR 11 84, uI x1, uI x2, uI 0, uI 0] (d280 (j := 14) rfl) (by decide) rfl ?_
      exact (k2 M1 hR1 c1 c2)
    ·
      refine b_bipush (d280 (j := 9) rfl) (by decide) ?_
      exact b_iret (d280 (j := 10) rfl) rfl (k3 M1 hR1 c1 c2)
set_option maxRecDepth 100000 in
set_option maxHeartbeats 4000000 in
theorem r280_25 {x1 x2 x3 x4 : Int} {R1 : dsMem → Prop} {g1 : dsMem → Int} {M : dsMem} {Q : bQT} (k1 : ((M 85 4) ≤ x4) → Q [uI x3] M) (s1 : (¬ (M 85 4) ≤ x4) → -2147483648 ≤ ((6 * x2) + x4) ∧ ((6 * x2) + x4) < 2147483648 := by intros; omega) (s2 : (¬ (M 85 4) ≤ x4) → -2147483648 ≤ ((6 * x2) + x1) ∧ ((6 * x2) + x1) < 2147483648 := by intros; omega) (hA1 : (¬ (M 85 4) ≤ x4) → bCt 279 [uR 11 84, uI ((6 * x2) + x1), uI ((6 * x2) + x4), uX 0, uX 0] M (fun M1 => [uI (g1 M1)]) R1) (s3 : (¬ (M 85 4) ≤ x4) → ∀ M1 : dsMem, R1 M1 → ((g1 M1) = 0) → -2147483648 ≤ (x3 + 0) ∧ (x3 + 0) < 2147483648 := by intros; omega) (s4 : (¬ (M 85 4) ≤ x4) → ∀ M1 : dsMem, R1 M1 → ((g1 M1) = 0) → -2147483648 ≤ x4 + 1 ∧ x4 + 1 < 2147483648 := by intros; omega) (k2 : (¬ (M 85 4) ≤ x4) → ∀ M1 : dsMem, R1 M1 → ((g1 M1) = 0) → bB 280 25 [uR 11 84, uI x1, uI x2, uI (x3 + 0), uI (x4 + 1)] [] M1 Q) (s5 : (¬ (M 85 4) ≤ x4) → ∀ M1 : dsMem, R1 M1 → (¬ (g1 M1) = 0) → -2147483648 ≤ (x3 + 1) ∧ (x3 + 1) < 2147483648 := by intros; omega) (s6 : (¬ (M 85 4) ≤ x4) → ∀ M1 : dsMem, R1 M1 → (¬ (g1 M1) = 0) → -2147483648 ≤ x4 + 1 ∧ x4 + 1 < 2147483648 := by intros; omega) (k3 : (¬ (M 85 4) ≤ x4) → ∀ M1 : dsMem, R1 M1 → (¬ (g1 M1) = 0) → bB 280 25 [uR 11 84, uI x1, uI x2, uI (x3 + 1), uI (x4 + 1)] [] M1 Q) :
    bB 280 25 [uR 11 84, uI x1, uI x2, uI x3, uI x4] [] M Q := by
  refine b_iload (d280 (j := 15) rfl) rfl ?_
  refine b_aload_n (d280 (j := 16) rfl) rfl ?_
  refine b_callV (d280 (j := 17) rfl) rfl rfl (Or.inl rfl) rfl (bCk_mk (n := 1) (k := 1) (by decide +kernel) rfl rfl) (pu185  ?_)
  refine b_stk [uI (M 85 4), uI x4] rfl ?_
  refine b_icmp_ge (d280 (j := 18) rfl) (fun c1 => ?_) (fun c1 => ?_)
  ·
    refine b_iload_n (d280 (j := 40) rfl) rfl ?_
    exact b_iret (d280 (j := 41) rfl) rfl (k1 c1)
  ·
    refine b_iload_n (d280 (j := 19) rfl) rfl ?_
    refine b_aload_n (d280 (j := 20) rfl) rfl ?_
    refine b_bipush (d280 (j := 21) rfl) (by decide) ?_
    refine b_iload_n (d280 (j := 22) rfl) rfl ?_
    refine b_imul (d280 (j := 23) rfl) rfl rfl ?_
    refine b_iload_n (d280 (j := 24) rfl) rfl ?_
    refine b_iadd (d280 (j := 25) rfl) (dsw_dsw _) rfl ?_
    refine b_bipush (d280 (j := 26) rfl) (by decide) ?_
    refine b_iload_n (d280 (j := 27) rfl) rfl ?_
    refine b_imul (d280 (j := 28) rfl) rfl rfl ?_
    refine b_iload (d280 (j := 29) rfl) rfl ?_
    refine b_iadd (d280 (j := 30) rfl) (dsw_dsw _) rfl ?_
    refine b_stk [uI ((6 * x2) + x4), uI (dsw (((6 * x2) + x1))), uR 11 84, uI x3] (by rw [dsw_r (s1 c1)]) ?_
    refine b_stk [uI ((6 * x2) + x4), uI ((6 * x2) + x1), uR 11 84, uI x3] (by rw [dsw_r (s2 c1)]) ?_
    refine b_callV (d280 (j := 31) rfl) rfl rfl (Or.inl rfl) rfl (bCk_mk (n := 1) (k := 3) (by decide +kernel) rfl rfl) ((hA1 c1) _ (fun M1 hR1 => ?_))
    refine b_stk [uI (g1 M1), uI x3] rfl ?_
    refine b_if_eq (d280 (j := 32) rfl) (fun c2 => ?_) (fun c2 => ?_)
    ·
      refine b_iconst (d280 (j := 35) rfl) (by decide) ?_
      refine b_iadd (d280 (j := 36) rfl) rfl rfl ?_
      refine b_stk [uI (x3 + 0)] (by rw [dsw_r (s3 c1 M1 hR1 c2)]) ?_
      refine b_istore_n [uR 11 84, uI x1, uI x2, uI (x3 + 0), uI x4] (d280 (j := 37) rfl) (by decide) rfl ?_
      refine b_iinc [uR 11 84, uI x1, uI x2, uI (x3 + 0), uI (x4 + 1)] (d280 (j := 38) rfl) rfl (by decide) (s4 c1 M1 hR1 c2) rfl ?_
      refine b_goto (d280 (j := 39) rfl) ?_
      exact (k2 c1 M1 hR1 c2)
    ·
      refine b_iconst (d280 (j := 33) rfl) (by decide) ?_
      refine b_goto (d280 (j := 34) rfl) ?_
      refine b_iadd (d280 (j := 36) rfl) rfl rfl ?_
      refine b_stk [uI (x3 + 1)] (by rw [dsw_r (s5 c1 M1 hR1 c2)]) ?_
      refine b_istore_n [uR 11 84, uI x1, uI x2, uI (x3 + 1), uI x4] (d280 (j := 37) rfl) (by decide) rfl ?_
      refine b_iinc [uR 11 84, uI x1, uI x2, uI (x3 + 1), uI (x4 + 1)] (d280 (j := 38) rfl) rfl (by decide) (s6 c1 M1 hR1 c2) rfl ?_
      refine b_goto (d280 (j := 39) rfl) ?_
      exact (k3 c1 M1 hR1 c2)
def L281 : List (Nat × Instr × Nat × Nat) := [(0, .iconst (-1), 1, 0), (1, .istore_n 2, 2, 0), (2, .aload_n 0, 3, 0), (3, .iload_n 1, 4, 0), (4, .putfield 298, 7, 0), (7, .iconst 0, 8, 0), (8, .istore_n 3, 9, 0), (9, .iload_n 3, 10, 0), (10, .aload_n 0, 11, 0), (11, .invokevirtual 286, 14, 0), (14, .if_icmp .gt 50, 17, 64), (17, .iload_n 2, 18, 0), (18, .iconst (-1), 19, 0), (19, .if_icmp .eq 17, 22, 36), (22, .iload_n 3, 23, 0), (23, .invokestatic 379, 26, 0), (26, .iload_n 2, 27, 0), (27, .invokestatic 379, 30, 0), (30, .if_icmp .lt 6, 33, 36), (33, .goto 25, 36, 58), (36, .aload_n 0, 37, 0), (37, .iload_n 3, 38, 0), (38, .putfield 295, 41, 0), (41, .aload_n 0, 42, 0), (42, .invokevirtual 361, 45, 0), (45, .aload_n 0, 46, 0), (46, .invokevirtual 408, 49, 0), (49, .aload_n 0, 50, 0), (50, .invokevirtual 127, 53, 0), (53, .if_icmp .ne 5, 56, 58), (56, .iload_n 3, 57, 0), (57, .istore_n 2, 58, 0), (58, .iinc 3 1, 61, 0), (61, .goto (-52), 64, 9), (64, .iload_n 2, 65, 0), (65, .ireturn, 66, 0)]
set_option maxRecDepth 100000 in
theorem L281_ok : L281.all (dck 281) = true := by decide +kernel
theorem d281 {j pc nx tg : Nat} {ins : Instr} (hj : L281[j]? = some (pc, ins, nx, tg)) : dcd 281 pc ins nx tg := dcl_ok L281_ok hj
set_option maxRecDepth 100000 in
set_option maxHeartbeats 4000000 in
theorem r281_0 {x1 : Int}  {M : dsMem} {Q : bQT} (k1 : bB 281 9 [uR 11 84, uX 0, uI (-1), uI 0] [] (dsSet M 84 23 x1) Q) :
    bB 281 0 [uR 11 84, uI x1, uX 0, uX 0] [] M Q := by
  refine b_iconst (d281 (j := 0) rfl) (by decide) ?_
  refine b_istore_n [uR 11 84, uI x1, uI (-1), uX 0] (d281 (j := 1) rfl) (by decide) rfl ?_
  refine b_aload_n (d281 (j := 2) rfl) rfl ?_
  refine b_iload_n (d281 (j := 3) rfl) rfl ?_
  refine b_putI (d281 (j := 4) rfl) rfl ⟨rfl, rfl⟩ rfl rfl ?_
  refine b_iconst (d281 (j := 5) rfl) (by decide) ?_
  refine b_istore_n [uR 11 84, uI x1, uI (-1), uI 0] (d281 (j := 6) rfl) (by decide) rfl ?_
  exact bB_le _ (bLe_s (bLe_x (bLe_s (bLe_s bLe_nil)))) k1
set_option maxRecDepth 100000 in
set_option maxHeartbeats 4000000 in
theorem r281_9 {x2 x3 : Int} {R1 : dsMem → Prop} {R2 : dsMem → Prop} {M : dsMem} {Q : bQT} (s1 : -2147483648 ≤ ((dsShl 1 (M 85 4)) - 1) ∧ ((dsShl 1 (M 85 4)) - 1) < 2147483648 := by intros; omega) (k1 : (((dsShl 1 (M 85 4)) - 1) < x3) → Q [uI x2] M) (hA1 : (¬ ((dsShl 1 (M 85 4)) - 1) < x3) → (x2 = -1) → bCt 234 [uR 11 84, uX 0] (dsSet M 84 22 x3) (fun _ => []) R1) (s2 : (¬ ((dsShl 1 (M 85 4)) - 1) < x3) → (x2 = -1) → ∀ M1 : dsMem, R1 M1 → 0 ≤ (M1 85 0) ∧ (M1 85 0) < 13 := by intros; omega) (s3 : (¬ ((dsShl 1 (M 85 4)) - 1) < x3) → (x2 = -1) → ∀ M1 : dsMem, R1 M1 → ∀ i178_1 : Int, ∀ a178_1 : Int, 0 ≤ i178_1 → i178_1 < 16 → -2147483648 ≤ i178_1 + 1 ∧ i178_1 + 1 < 2147483648 := by intros; omega) (s4 : (¬ ((dsShl 1 (M 85 4)) - 1) < x3) → (x2 = -1) → ∀ M1 : dsMem, R1 M1 → (¬ (v244 M1) = (M1 85 3)) → -2147483648 ≤ x3 + 1 ∧ x3 + 1 < 2147483648 := by intros; omega) (k2 : (¬ ((dsShl 1 (M 85 4)) - 1) < x3) → (x2 = -1) → ∀ M1 : dsMem, R1 M1 → (¬ (v244 M1) = (M1 85 3)) → bB 281 9 [uR 11 84, uX 0, uI x2, uI (x3 + 1)] [] M1 Q) (s5 : (¬ ((dsShl 1 (M 85 4)) - 1) < x3) → (x2 = -1) → ∀ M1 : dsMem, R1 M1 → ((v244 M1) = (M1 85 3)) → -2147483648 ≤ x3 + 1 ∧ x3 + 1 < 2147483648 := by intros; omega) (k3 : (¬ ((dsShl 1 (M 85 4)) - 1) < x3) → (x2 = -1) → ∀ M1 : dsMem, R1 M1 → ((v244 M1) = (M1 85 3)) → bB 281 9 [uR 11 84, uX 0, uI x3, uI (x3 + 1)] [] M1 Q) (s6 : (¬ ((dsShl 1 (M 85 4)) - 1) < x3) → (¬ x2 = -1) → ∀ i178_1 : Int, ∀ a178_1 : Int, 0 ≤ i178_1 → i178_1 < 16 → -2147483648 ≤ i178_1 + 1 ∧ i178_1 + 1 < 2147483648 := by intros; omega) (hA2 : (¬ ((dsShl 1 (M 85 4)) - 1) < x3) → (¬ x2 = -1) → ((v178 M x3) < (v178 M x2)) → bCt 234 [uR 11 84, uX 0] (dsSet M 84 22 x3) (fun _ => []) R2) (s7 : (¬ ((dsShl 1 (M 85 4)) - 1) < x3) → (¬ x2 = -1) → ((v178 M x3) < (v178 M x2)) → ∀ M2 : dsMem, R2 M2 → 0 ≤ (M2 85 0) ∧ (M2 85 0) < 13 := by intros; omega) (s8 : (¬ ((dsShl 1 (M 85 4)) - 1) < x3) → (¬ x2 = -1) → ((v178 M x3) < (v178 M x2)) → ∀ M2 : dsMem, R2 M2 → (¬ (v244 M2) = (M2 85 3)) → -2147483648 ≤ x3 + 1 ∧ x3 + 1 < 2147483648 := by intros; omega) (k4 : (¬ ((dsShl 1 (M 85 4)) - 1) < x3) → (¬ x2 = -1) → ((v178 M x3) < (v178 M x2)) → ∀ M2 : dsMem, R2 M2 → (¬ (v244 M2) = (M2 85 3)) → bB 281 9 [uR 11 84, uX 0, uI x2, uI (x3 + 1)] [] M2 Q) (s9 : (¬ ((dsShl 1 (M 85 4)) - 1) < x3) → (¬ x2 = -1) → ((v178 M x3) < (v178 M x2)) → ∀ M2 : dsMem, R2 M2 → ((v244 M2) = (M2 85 3)) → -2147483648 ≤ x3 + 1 ∧ x3 + 1 < 2147483648 := by intros; omega) (k5 : (¬ ((dsShl 1 (M 85 4)) - 1) < x3) → (¬ x2 = -1) → ((v178 M x3) < (v178 M x2)) → ∀ M2 : dsMem, R2 M2 → ((v244 M2) = (M2 85 3)) → bB 281 9 [uR 11 84, uX 0, uI x3, uI (x3 + 1)] [] M2 Q) (s10 : (¬ ((dsShl 1 (M 85 4)) - 1) < x3) → (¬ x2 = -1) → (¬ (v178 M x3) < (v178 M x2)) → -2147483648 ≤ x3 + 1 ∧ x3 + 1 < 2147483648 := by intros; omega) (k6 : (¬ ((dsShl 1 (M 85 4)) - 1) < x3) → (¬ x2 = -1) → (¬ (v178 M x3) < (v178 M x2)) → bB 281 9 [uR 11 84, uX 0, uI x2, uI (x3 + 1)] [] M Q) :
    bB 281 9 [uR 11 84, uX 0, uI x2, uI x3] [] M Q := by
  refine b_iload_n (d281 (j := 7) rfl) rfl ?_
  refine b_aload_n (d281 (j := 8) rfl) rfl ?_
  refine b_callV (d281 (j := 9) rfl) rfl rfl (Or.inl rfl) rfl (bCk_mk (n := 1) (k := 1) (by decide +kernel) rfl rfl) (pu186 s1 ?_)
  refine b_stk [uI ((dsShl 1 (M 85 4)) - 1), uI x3] rfl ?_
  refine b_icmp_gt (d281 (j := 10) rfl) (fun c1 => ?_) (fun c1 => ?_)
  ·
    refine b_iload_n (d281 (j := 34) rfl) rfl ?_
    exact b_iret (d281 (j := 35) rfl) rfl (k1 c1)
  ·
    refine b_iload_n (d281 (j := 11) rfl) rfl ?_
    refine b_iconst (d281 (j := 12) rfl) (by decide) ?_
    refine b_icmp_eq (d281 (j := 13) rfl) (fun c2 => ?_) (fun c2 => ?_)
    ·
      refine b_aload_n (d281 (j := 20) rfl) rfl ?_
      refine b_iload_n (d281 (j := 21) rfl) rfl ?_
      refine b_putI (d281 (j := 22) rfl) rfl ⟨rfl, rfl⟩ rfl rfl ?_
      refine b_aload_n (d281 (j := 23) rfl) rfl ?_
      refine b_callV (d281 (j := 24) rfl) rfl rfl (Or.inl rfl) rfl (bCk_mk (n := 0) (k := 1) (by decide +kernel) rfl rfl) ((hA1 c1 c2) _ (fun M1 hR1 => ?_))
      refine b_stk [] rfl ?_
      refine b_aload_n (d281 (j := 25) rfl) rfl ?_
      refine b_callV (d281 (j := 26) rfl) rfl rfl (Or.inl rfl) rfl (bCk_mk (n := 0) (k := 1) (by decide +kernel) rfl rfl) (fx244 (s2 c1 c2 M1 hR1) (s3 c1 c2 M1 hR1) ?_)
      refine b_stk [uI (v244 M1)] rfl ?_
      refine b_aload_n (d281 (j := 27) rfl) rfl ?_
      refine b_callV (d281 (j := 28) rfl) rfl rfl (Or.inl rfl) rfl (bCk_mk (n := 1) (k := 1) (by decide +kernel) rfl rfl) (pu184  ?_)
      refine b_stk [uI (M1 85 3), uI (v244 M1)] rfl ?_
      refine b_icmp_ne (d281 (j := 29) rfl) (fun c3 => ?_) (fun c3 => ?_)
      ·
        refine b_iinc [uR 11 84, uX 0, uI x2, uI (x3 + 1)] (d281 (j := 32) rfl) rfl (by decide) (s4 c1 c2 M1 hR1 c3) rfl ?_
        refine b_goto (d281 (j := 33) rfl) ?_
        exact (k2 c1 c2 M1 hR1 c3)
      ·
        refine b_iload_n (d281 (j := 30) rfl) rfl ?_
        refine b_istore_n [uR 11 84, uX 0, uI x3, uI x3] (d281 (j := 31) rfl) (by decide) rfl ?_
        refine b_iinc [uR 11 84, uX 0, uI x3, uI (x3 + 1)] (d281 (j := 32) rfl) rfl (by decide) (s5 c1 c2 M1 hR1 c3) rfl ?_
        refine b_goto (d281 (j := 33) rfl) ?_
        exact (k3 c1 c2 M1 hR1 c3)
    ·
      refine b_iload_n (d281 (j := 14) rfl) rfl ?_
      refine b_callS (d281 (j := 15) rfl) (Or.inl rfl) rfl (bCk_mk (n := 0) (k := 1) (by decide +kernel) rfl rfl) (fx178 (s6 c1 c2) ?_)
      refine b_stk [uI (v178 M x3)] rfl ?_
      refine b_iload_n (d281 (j := 16) rfl) rfl ?_
      refine b_callS (d281 (j := 17) rfl) (Or.inl rfl) rfl (bCk_mk (n := 1) (k := 1) (by decide +kernel) rfl rfl) (fx178 (s6 c1 c2) ?_)
      refine b_stk [uI (v178 M x2), uI (v178 M x3)] rfl ?_
      refine b_icmp_lt (d281 (j := 18) rfl) (fun c4 => ?_) (fun c4 => ?_)
      ·
        refine b_aload_n (d281 (j := 20) rfl) rfl ?_
        refine b_iload_n (d281 (j := 21) rfl) rfl ?_
        refine b_putI (d281 (j := 22) rfl) rfl ⟨rfl, rfl⟩ rfl rfl ?_
        refine b_aload_n (d281 (j := 23) rfl) rfl ?_
        refine b_callV (d281 (j := 24) rfl) rfl rfl (Or.inl rfl) rfl (bCk_mk (n := 0) (k := 1) (by decide +kernel) rfl rfl) ((hA2 c1 c2 c4) _ (fun M2 hR2 => ?_))
        refine b_stk [] rfl ?_
        refine b_aload_n (d281 (j := 25) rfl) rfl ?_
        refine b_callV (d281 (j := 26) rfl) rfl rfl (Or.inl rfl) rfl (bCk_mk (n := 0) (k := 1) (by decide +kernel) rfl rfl) (fx244 (s7 c1 c2 c4 M2 hR2) (s6 c1 c2) ?_)
        refine b_stk [uI (v244 M2)] rfl ?_
        refine b_aload_n (d281 (j := 27) rfl) rfl ?_
        refine b_callV (d281 (j := 28) rfl) rfl rfl (Or.inl rfl) rfl (bCk_mk (n := 1) (k := 1) (by decide +kernel) rfl rfl) (pu184  ?_)
        refine b_stk [uI (M2 85 3), uI (v244 M2)] rfl ?_
        refine b_icmp_ne (d281 (j := 29) rfl) (fun c5 => ?_) (fun c5 => ?_)
        ·
          refine b_iinc [uR 11 84, uX 0, uI x2, uI (x3 + 1)] (d281 (j := 32) rfl) rfl (by decide) (s8 c1 c2 c4 M2 hR2 c5) rfl ?_
          refine b_goto (d281 (j := 33) rfl) ?_
          exact (k4 c1 c2 c4 M2 hR2 c5)
        ·
          refine b_iload_n (d281 (j := 30) rfl) rfl ?_
          refine b_istore_n [uR 11 84, uX 0, uI x3, uI x3] (d281 (j := 31) rfl) (by decide) rfl ?_
          refine b_iinc [uR 11 84, uX 0, uI x3, uI (x3 + 1)] (d281 (j := 32) rfl) rfl (by decide) (s9 c1 c2 c4 M2 hR2 c5) rfl ?_
          refine b_goto (d281 (j := 33) rfl) ?_
          exact (k5 c1 c2 c4 M2 hR2 c5)
      ·
        refine b_goto (d281 (j := 19) rfl) ?_
        refine b_iinc [uR 11 84, uX 0, uI x2, uI (x3 + 1)] (d281 (j := 32) rfl) rfl (by decide) (s10 c1 c2 c4) rfl ?_
        refine b_goto (d281 (j := 33) rfl) ?_
        exact (k6 c1 c2 c4)
def L282 : List (Nat × Instr × Nat × Nat) := [(0, .aload_n 0, 1, 0), (1, .iload_n 1, 2, 0), (2, .invokevirtual 401, 5, 0), (5, .ifCond .ne 6, 8, 11), (8, .bipush (-2), 10, 0), (10, .ireturn, 11, 0), (11, .aload_n 0, 12, 0), (12, .iload_n 1, 13, 0), (13, .invokevirtual 411, 16, 0), (16, .istore_n 2, 17, 0), (17, .iload_n 2, 18, 0), (18, .iconst (-1), 19, 0), (19, .if_icmp .ne 7, 22, 26), (22, .iconst (-1), 23, 0), (23, .goto 7, 26, 30), (26, .iload_n 2, 27, 0), (27, .invokestatic 379, 30, 0), (30, .ireturn, 31, 0)]
set_option maxRecDepth 100000 in
theorem L282_ok : L282.all (dck 282) = true := by decide +kernel
theorem d282 {j pc nx tg : Nat} {ins : Instr} (hj : L282[j]? = some (pc, ins, nx, tg)) : dcd 282 pc ins nx tg := dcl_ok L282_ok hj
set_option maxRecDepth 100000 in
set_option maxHeartbeats 4000000 in
theorem r282_0 {x1 : Int} {R1 : dsMem → Prop} {g1 : dsMem → Int} {R2 : dsMem → dsMem → Prop} {g2 : dsMem → dsMem → Int} {M : dsMem} {Q : bQT} (hA1 : bCt 237 [uR 11 84, uI x1] M (fun M1 => [uI (g1 M1)]) R1) (hA2 : ∀ M1 : dsMem, R1 M1 → (¬ (g1 M1) = 0) → bCt 281 [uR 11 84, uI x1, uX 0, uX 0] M1 (fun M2 => [uI (g2 M1 M2)]) (R2 M1)) (s1 : ∀ M1 : dsMem, R1 M1 → (¬ (g1 M1) = 0) → ∀ M2 : dsMem, R2 M1 M2 → (¬ (g2 M1 M2) = -1) → ∀ i178_1 : Int, ∀ a178_1 : Int, 0 ≤ i178_1 → i178_1 < 16 → -2147483648 ≤ i178_1 + 1 ∧ i178_1 + 1 < 2147483648 := by intros; omega) (k1 : ∀ M1 : dsMem, R1 M1 → (¬ (g1 M1) = 0) → ∀ M2 : dsMem, R2 M1 M2 → (¬ (g2 M1 M2) = -1) → Q [uI (v178 M2 (g2 M1 M2))] M2) (k2 : ∀ M1 : dsMem, R1 M1 → (¬ (g1 M1) = 0) → ∀ M2 : dsMem, R2 M1 M2 → ((g2 M1 M2) = -1) → Q [uI (-1)] M2) (k3 : ∀ M1 : dsMem, R1 M1 → ((g1 M1) = 0) → Q [uI (-2)] M1) :
    bB 282 0 [uR 11 84, uI x1, uX 0] [] M Q := by
  refine b_aload_n (d282 (j := 0) rfl) rfl ?_
  refine b_iload_n (d282 (j := 1) rfl) rfl ?_
  refine b_callV (d282 (j := 2) rfl) rfl rfl (Or.inl rfl) rfl (bCk_mk (n := 0) (k := 2) (by decide +kernel) rfl rfl) ((hA1) _ (fun M1 hR1 => ?_))
  refine b_stk [uI (g1 M1)] rfl ?_
  refine b_if_ne (d282 (j := 3) rfl) (fun c1 => ?_) (fun c1 => ?_)
  ·
    refine b_aload_n (d282 (j := 6) rfl) rfl ?_
    refine b_iload_n (d282 (j := 7) rfl) rfl ?_
    refine b_callV (d282 (j := 8) rfl) rfl rfl (Or.inl rfl) rfl (bCk_mk (n := 0) (k := 2) (by decide +kernel) rfl rfl) ((hA2 M1 hR1 c1) _ (fun M2 hR2 => ?_))
    refine b_stk [uI (g2 M1 M2)] rfl ?_
    refine b_istore_n [uR 11 84, uI x1, uI (g2 M1 M2)] (d282 (j := 9) rfl) (by decide) rfl ?_
    refine b_iload_n (d282 (j := 10) rfl) rfl ?_
    refine b_iconst (d282 (j := 11) rfl) (by decide) ?_
    refine b_icmp_ne (d282 (j := 12) rfl) (fun c2 => ?_) (fun c2 => ?_)
    ·
      refine b_iload_n (d282 (j := 15) rfl) rfl ?_
      refine b_callS (d282 (j := 16) rfl) (Or.inl rfl) rfl (bCk_mk (n := 0) (k := 1) (by decide +kernel) rfl rfl) (fx178 (s1 M1 hR1 c1 M2 hR2 c2) ?_)
      refine b_stk [uI (v178 M2 (g2 M1 M2))] rfl ?_
      exact b_iret (d282 (j := 17) rfl) rfl (k1 M1 hR1 c1 M2 hR2 c2)
    ·
      refine b_iconst (d282 (j := 13) rfl) (by decide) ?_
      refine b_goto (d282 (j := 14) rfl) ?_
      exact b_iret (d282 (j := 17) rfl) rfl (k2 M1 hR1 c1 M2 hR2 c2)
  ·
    refine b_bipush (d282 (j := 4) rfl) (by decide) ?_
    exact b_iret (d282 (j := 5) rfl) rfl (k3 M1 hR1 c1)
def L283 : List (Nat × Instr × Nat × Nat) := [(0, .aload_n 0, 1, 0), (1, .iload_n 1, 2, 0), (2, .invokevirtual 401, 5, 0), (5, .ifCond .eq 11, 8, 16), (8, .aload_n 0, 9, 0), (9, .iload_n 1, 10, 0), (10, .invokevirtual 411, 13, 0), (13, .goto 5, 16, 18), (16, .bipush (-2), 18, 0), (18, .ireturn, 19, 0)]
set_option maxRecDepth 100000 in
theorem L283_ok : L283.all (dck 283) = true := by decide +kernel
theorem d283 {j pc nx tg : Nat} {ins : Instr} (hj : L283[j]? = some (pc, ins, nx, tg)) : dcd 283 pc ins nx tg := dcl_ok L283_ok hj
set_option maxRecDepth 100000 in
set_option maxHeartbeats 4000000 in
theorem r283_0 {x1 : Int} {R1 : dsMem → Prop} {g1 : dsMem → Int} {R2 : dsMem → dsMem → Prop} {g2 : dsMem → dsMem → Int} {M : dsMem} {Q : bQT} (hA1 : bCt 237 [uR 11 84, uI x1] M (fun M1 => [uI (g1 M1)]) R1) (k1 : ∀ M1 : dsMem, R1 M1 → ((g1 M1) = 0) → Q [uI (-2)] M1) (hA2 : ∀ M1 : dsMem, R1 M1 → (¬ (g1 M1) = 0) → bCt 281 [uR 11 84, uI x1, uX 0, uX 0] M1 (fun M2 => [uI (g2 M1 M2)]) (R2 M1)) (k2 : ∀ M1 : dsMem, R1 M1 → (¬ (g1 M1) = 0) → ∀ M2 : dsMem, R2 M1 M2 → Q [uI (g2 M1 M2)] M2) :
    bB 283 0 [uR 11 84, uI x1] [] M Q := by
  refine b_aload_n (d283 (j := 0) rfl) rfl ?_
  refine b_iload_n (d283 (j := 1) rfl) rfl ?_
  refine b_callV (d283 (j := 2) rfl) rfl rfl (Or.inl rfl) rfl (bCk_mk (n := 0) (k := 2) (by decide +kernel) rfl rfl) ((hA1) _ (fun M1 hR1 => ?_))
  refine b_stk [uI (g1 M1)] rfl ?_
  refine b_if_eq (d283 (j := 3) rfl) (fun c1 => ?_) (fun c1 => ?_)
  ·
    refine b_bipush (d283 (j := 8) rfl) (by decide) ?_
    exact b_iret (d283 (j := 9) rfl) rfl (k1 M1 hR1 c1)
  ·
    refine b_aload_n (d283 (j := 4) rfl) rfl ?_
    refine b_iload_n (d283 (j := 5) rfl) rfl ?_
    refine b_callV (d283 (j := 6) rfl) rfl rfl (Or.inl rfl) rfl (bCk_mk (n := 0) (k := 2) (by decide +kernel) rfl rfl) ((hA2 M1 hR1 c1) _ (fun M2 hR2 => ?_))
    refine b_stk [uI (g2 M1 M2)] rfl ?_
    refine b_goto (d283 (j := 7) rfl) ?_
    exact b_iret (d283 (j := 9) rfl) rfl (k2 M1 hR1 c1 M2 hR2)
def L284 : List (Nat × Instr × Nat × Nat) := [(0, .aload_n 0, 1, 0), (1, .invokevirtual 364, 4, 0), (4, .ifCond .ne 6, 7, 10), (7, .bipush (-2), 9, 0), (9, .ireturn, 10, 0), (10, .aload_n 0, 11, 0), (11, .invokevirtual 124, 14, 0), (14, .iconst 1, 15, 0), (15, .isub, 16, 0), (16, .istore_n 1, 17, 0), (17, .iload_n 1, 18, 0), (18, .ifCond .lt 18, 21, 36), (21, .aload_n 0, 22, 0), (22, .iload_n 1, 23, 0), (23, .invokevirtual 411, 26, 0), (26, .iconst (-1), 27, 0), (27, .if_icmp .ne 9, 30, 36), (30, .iinc 1 (-1), 33, 0), (33, .goto (-16), 36, 17), (36, .iload_n 1, 37, 0), (37, .ireturn, 38, 0)]
set_option maxRecDepth 100000 in
theorem L284_ok : L284.all (dck 284) = true := by decide +kernel
theorem d284 {j pc nx tg : Nat} {ins : Instr} (hj : L284[j]? = some (pc, ins, nx, tg)) : dcd 284 pc ins nx tg := dcl_ok L284_ok hj
set_option maxRecDepth 100000 in
set_option maxHeartbeats 4000000 in
theorem r284_0  {R1 : dsMem → Prop} {g1 : dsMem → Int} {M : dsMem} {Q : bQT} (hA1 : bCt 235 [uR 11 84] M (fun M1 => [uI (g1 M1)]) R1) (s1 : ∀ M1 : dsMem, R1 M1 → (¬ (g1 M1) = 0) → -2147483648 ≤ ((M1 85 0) - 1) ∧ ((M1 85 0) - 1) < 2147483648 := by intros; omega) (k1 : ∀ M1 : dsMem, R1 M1 → (¬ (g1 M1) = 0) → bB 284 17 [uR 11 84, uI ((M1 85 0) - 1)] [] M1 Q) (k2 : ∀ M1 : dsMem, R1 M1 → ((g1 M1) = 0) → Q [uI (-2)] M1) :
    bB 284 0 [uR 11 84, uX 0] [] M Q := by
  refine b_aload_n (d284 (j := 0) rfl) rfl ?_
  refine b_callV (d284 (j := 1) rfl) rfl rfl (Or.inl rfl) rfl (bCk_mk (n := 0) (k := 1) (by decide +kernel) rfl rfl) ((hA1) _ (fun M1 hR1 => ?_))
  refine b_stk [uI (g1 M1)] rfl ?_
  refine b_if_ne (d284 (j := 2) rfl) (fun c1 => ?_) (fun c1 => ?_)
  ·
    refine b_aload_n (d284 (j := 5) rfl) rfl ?_
    refine b_callV (d284 (j := 6) rfl) rfl rfl (Or.inl rfl) rfl (bCk_mk (n := 0) (k := 1) (by decide +kernel) rfl rfl) (pu183  ?_)
    refine b_stk [uI (M1 85 0)] rfl ?_
    refine b_iconst (d284 (j := 7) rfl) (by decide) ?_
    refine b_isub (d284 (j := 8) rfl) rfl rfl ?_
    refine b_stk [uI ((M1 85 0) - 1)] (by rw [dsw_r (s1 M1 hR1 c1)]) ?_
    refine b_istore_n [uR 11 84, uI ((M1 85 0) - 1)] (d284 (j := 9) rfl) (by decide) rfl ?_
    exact (k1 M1 hR1 c1)
  ·
    refine b_bipush (d284 (j := 3) rfl) (by decide) ?_
    exact b_iret (d284 (j := 4) rfl) rfl (k2 M1 hR1 c1)
set_option maxRecDepth 100000 in
set_option maxHeartbeats 4000000 in
theorem r284_17 {x1 : Int} {R1 : dsMem → Prop} {g1 : dsMem → Int} {M : dsMem} {Q : bQT} (k1 : (x1 < 0) → Q [uI x1] M) (hA1 : (¬ x1 < 0) → bCt 281 [uR 11 84, uI x1, uX 0, uX 0] M (fun M1 => [uI (g1 M1)]) R1) (k2 : (¬ x1 < 0) → ∀ M1 : dsMem, R1 M1 → (¬ (g1 M1) = -1) → Q [uI x1] M1) (s1 : (¬ x1 < 0) → ∀ M1 : dsMem, R1 M1 → ((g1 M1) = -1) → -2147483648 ≤ x1 + (-1) ∧ x1 + (-1) < 2147483648 := by intros; omega) (k3 : (¬ x1 < 0) → ∀ M1 : dsMem, R1 M1 → ((g1 M1) = -1) → bB 284 17 [uR 11 84, uI (x1 + (-1))] [] M1 Q) :
    bB 284 17 [uR 11 84, uI x1] [] M Q := by
  refine b_iload_n (d284 (j := 10) rfl) rfl ?_
  refine b_if_lt (d284 (j := 11) rfl) (fun c1 => ?_) (fun c1 => ?_)
  ·
    refine b_iload_n (d284 (j := 19) rfl) rfl ?_
    exact b_iret (d284 (j := 20) rfl) rfl (k1 c1)
  ·
    refine b_aload_n (d284 (j := 12) rfl) rfl ?_
    refine b_iload_n (d284 (j := 13) rfl) rfl ?_
    refine b_callV (d284 (j := 14) rfl) rfl rfl (Or.inl rfl) rfl (bCk_mk (n := 0) (k := 2) (by decide +kernel) rfl rfl) ((hA1 c1) _ (fun M1 hR1 => ?_))
    refine b_stk [uI (g1 M1)] rfl ?_
    refine b_iconst (d284 (j := 15) rfl) (by decide) ?_
    refine b_icmp_ne (d284 (j := 16) rfl) (fun c2 => ?_) (fun c2 => ?_)
    ·
      refine b_iload_n (d284 (j := 19) rfl) rfl ?_
      exact b_iret (d284 (j := 20) rfl) rfl (k2 c1 M1 hR1 c2)
    ·
      refine b_iinc [uR 11 84, uI (x1 + (-1))] (d284 (j := 17) rfl) rfl (by decide) (s1 c1 M1 hR1 c2) rfl ?_
      refine b_goto (d284 (j := 18) rfl) ?_
      exact (k3 c1 M1 hR1 c2)
def L285 : List (Nat × Instr × Nat × Nat) := [(0, .aload_n 0, 1, 0), (1, .invokevirtual 364, 4, 0), (4, .ifCond .ne 6, 7, 10), (7, .bipush (-2), 9, 0), (9, .ireturn, 10, 0), (10, .aload_n 0, 11, 0), (11, .invokevirtual 408, 14, 0), (14, .istore_n 1, 15, 0), (15, .iconst (-1), 16, 0), (16, .istore_n 2, 17, 0), (17, .iconst 0, 18, 0), (18, .istore_n 3, 19, 0), (19, .iload_n 3, 20, 0), (20, .aload_n 0, 21, 0), (21, .getfield 9, 24, 0), (24, .iconst 5, 25, 0), (25, .iaload, 26, 0), (26, .if_icmp .ge 44, 29, 70), (29, .aload_n 0, 30, 0), (30, .sipush 255, 33, 0), (33, .iconst 1, 34, 0), (34, .iload_n 3, 35, 0), (35, .ishl, 36, 0), (36, .iconst (-1), 37, 0), (37, .ixor, 38, 0), (38, .iand, 39, 0), (39, .putfield 280, 42, 0), (42, .aload_n 0, 43, 0), (43, .invokevirtual 361, 46, 0), (46, .aload_n 0, 47, 0), (47, .invokevirtual 408, 50, 0), (50, .iload_n 1, 51, 0), (51, .if_icmp .gt 6, 54, 57), (54, .goto 10, 57, 64), (57, .aload_n 0, 58, 0), (58, .invokevirtual 408, 61, 0), (61, .istore_n 1, 62, 0), (62, .iload_n 3, 63, 0), (63, .istore_n 2, 64, 0), (64, .iinc 3 1, 67, 0), (67, .goto (-48), 70, 19), (70, .iload_n 2, 71, 0), (71, .ireturn, 72, 0)]
set_option maxRecDepth 100000 in
theorem L285_ok : L285.all (dck 285) = true := by decide +kernel
theorem d285 {j pc nx tg : Nat} {ins : Instr} (hj : L285[j]? = some (pc, ins, nx, tg)) : dcd 285 pc ins nx tg := dcl_ok L285_ok hj
set_option maxRecDepth 100000 in
set_option maxHeartbeats 4000000 in
theorem r285_0  {R1 : dsMem → Prop} {g1 : dsMem → Int} {M : dsMem} {Q : bQT} (hA1 : bCt 235 [uR 11 84] M (fun M1 => [uI (g1 M1)]) R1) (s1 : ∀ M1 : dsMem, R1 M1 → (¬ (g1 M1) = 0) → 0 ≤ (M1 85 0) ∧ (M1 85 0) < 13 := by intros; omega) (s2 : ∀ M1 : dsMem, R1 M1 → (¬ (g1 M1) = 0) → ∀ i178_1 : Int, ∀ a178_1 : Int, 0 ≤ i178_1 → i178_1 < 16 → -2147483648 ≤ i178_1 + 1 ∧ i178_1 + 1 < 2147483648 := by intros; omega) (k1 : ∀ M1 : dsMem, R1 M1 → (¬ (g1 M1) = 0) → bB 285 19 [uR 11 84, uI (v244 M1), uI (-1), uI 0] [] M1 Q) (k2 : ∀ M1 : dsMem, R1 M1 → ((g1 M1) = 0) → Q [uI (-2)] M1) :
    bB 285 0 [uR 11 84, uX 0, uX 0, uX 0] [] M Q := by
  refine b_aload_n (d285 (j := 0) rfl) rfl ?_
  refine b_callV (d285 (j := 1) rfl) rfl rfl (Or.inl rfl) rfl (bCk_mk (n := 0) (k := 1) (by decide +kernel) rfl rfl) ((hA1) _ (fun M1 hR1 => ?_))
  refine b_stk [uI (g1 M1)] rfl ?_
  refine b_if_ne (d285 (j := 2) rfl) (fun c1 => ?_) (fun c1 => ?_)
  ·
    refine b_aload_n (d285 (j := 5) rfl) rfl ?_
    refine b_callV (d285 (j := 6) rfl) rfl rfl (Or.inl rfl) rfl (bCk_mk (n := 0) (k := 1) (by decide +kernel) rfl rfl) (fx244 (s1 M1 hR1 c1) (s2 M1 hR1 c1) ?_)
    refine b_stk [uI (v244 M1)] rfl ?_
    refine b_istore_n [uR 11 84, uI (v244 M1), uX 0, uX 0] (d285 (j := 7) rfl) (by decide) rfl ?_
    refine b_iconst (d285 (j := 8) rfl) (by decide) ?_
    refine b_istore_n [uR 11 84, uI (v244 M1), uI (-1), uX 0] (d285 (j := 9) rfl) (by decide) rfl ?_
    refine b_iconst (d285 (j := 10) rfl) (by decide) ?_
    refine b_istore_n [uR 11 84, uI (v244 M1), uI (-1), uI 0] (d285 (j := 11) rfl) (by decide) rfl ?_
    exact (k1 M1 hR1 c1)
  ·
    refine b_bipush (d285 (j := 3) rfl) (by decide) ?_
    exact b_iret (d285 (j := 4) rfl) rfl (k2 M1 hR1 c1)
set_option maxRecDepth 100000 in
set_option maxHeartbeats 4000000 in
theorem r285_19 {x1 x2 x3 : Int} {R1 : dsMem → Prop} {M : dsMem} {Q : bQT} (k1 : ((M 85 5) ≤ x3) → Q [uI x2] M) (hA1 : (¬ (M 85 5) ≤ x3) → bCt 234 [uR 11 84, uX 0] (dsSet M 84 18 (dsAnd 255 (dsXor (dsShl 1 x3) (-1)))) (fun _ => []) R1) (s1 : (¬ (M 85 5) ≤ x3) → ∀ M1 : dsMem, R1 M1 → 0 ≤ (M1 85 0) ∧ (M1 85 0) < 13 := by intros; omega) (s2 : (¬ (M 85 5) ≤ x3) → ∀ M1 : dsMem, R1 M1 → ∀ i178_1 : Int, ∀ a178_1 : Int, 0 ≤ i178_1 → i178_1 < 16 → -2147483648 ≤ i178_1 + 1 ∧ i178_1 + 1 < 2147483648 := by intros; omega) (s3 : (¬ (M 85 5) ≤ x3) → ∀ M1 : dsMem, R1 M1 → (x1 < (v244 M1)) → -2147483648 ≤ x3 + 1 ∧ x3 + 1 < 2147483648 := by intros; omega) (k2 : (¬ (M 85 5) ≤ x3) → ∀ M1 : dsMem, R1 M1 → (x1 < (v244 M1)) → bB 285 19 [uR 11 84, uI (v244 M1), uI x3, uI (x3 + 1)] [] M1 Q) (s4 : (¬ (M 85 5) ≤ x3) → ∀ M1 : dsMem, R1 M1 → (¬ x1 < (v244 M1)) → -2147483648 ≤ x3 + 1 ∧ x3 + 1 < 2147483648 := by intros; omega) (k3 : (¬ (M 85 5) ≤ x3) → ∀ M1 : dsMem, R1 M1 → (¬ x1 < (v244 M1)) → bB 285 19 [uR 11 84, uI x1, uI x2, uI (x3 + 1)] [] M1 Q) :
    bB 285 19 [uR 11 84, uI x1, uI x2, uI x3] [] M Q := by
  refine b_iload_n (d285 (j := 12) rfl) rfl ?_
  refine b_aload_n (d285 (j := 13) rfl) rfl ?_
  refine b_getR (d285 (j := 14) rfl) rfl rfl rfl rfl ?_
  refine b_stk [uR 38 85, uI x3] rfl ?_
  refine b_iconst (d285 (j := 15) rfl) (by decide) ?_
  refine b_iaload (d285 (j := 16) rfl) rfl (by decide) ?_
  refine b_icmp_ge (d285 (j := 17) rfl) (fun c1 => ?_) (fun c1 => ?_)
  ·
    refine b_iload_n (d285 (j := 41) rfl) rfl ?_
    exact b_iret (d285 (j := 42) rfl) rfl (k1 c1)
  ·
    refine b_aload_n (d285 (j := 18) rfl) rfl ?_
    refine b_sipush (d285 (j := 19) rfl) (by decide) ?_
    refine b_iconst (d285 (j := 20) rfl) (by decide) ?_
    refine b_iload_n (d285 (j := 21) rfl) rfl ?_
    refine b_ishl (d285 (j := 22) rfl) ?_
    refine b_iconst (d285 (j := 23) rfl) (by decide) ?_
    refine b_ixor (d285 (j := 24) rfl) ?_
    refine b_iand (d285 (j := 25) rfl) ?_
    refine b_putI (d285 (j := 26) rfl) rfl ⟨rfl, rfl⟩ rfl rfl ?_
    refine b_aload_n (d285 (j := 27) rfl) rfl ?_
    refine b_callV (d285 (j := 28) rfl) rfl rfl (Or.inl rfl) rfl (bCk_mk (n := 0) (k := 1) (by decide +kernel) rfl rfl) ((hA1 c1) _ (fun M1 hR1 => ?_))
    refine b_stk [] rfl ?_
    refine b_aload_n (d285 (j := 29) rfl) rfl ?_
    refine b_callV (d285 (j := 30) rfl) rfl rfl (Or.inl rfl) rfl (bCk_mk (n := 0) (k := 1) (by decide +kernel) rfl rfl) (fx244 (s1 c1 M1 hR1) (s2 c1 M1 hR1) ?_)
    refine b_stk [uI (v244 M1)] rfl ?_
    refine b_iload_n (d285 (j := 31) rfl) rfl ?_
    refine b_icmp_gt (d285 (j := 32) rfl) (fun c2 => ?_) (fun c2 => ?_)
    ·
      refine b_aload_n (d285 (j := 34) rfl) rfl ?_
      refine b_callV (d285 (j := 35) rfl) rfl rfl (Or.inl rfl) rfl (bCk_mk (n := 0) (k := 1) (by decide +kernel) rfl rfl) (fx244 (s1 c1 M1 hR1) (s2 c1 M1 hR1) ?_)
      refine b_stk [uI (v244 M1)] rfl ?_
      refine b_istore_n [uR 11 84, uI (v244 M1), uI x2, uI x3] (d285 (j := 36) rfl) (by decide) rfl ?_
      refine b_iload_n (d285 (j := 37) rfl) rfl ?_
      refine b_istore_n [uR 11 84, uI (v244 M1), uI x3, uI x3] (d285 (j := 38) rfl) (by decide) rfl ?_
      refine b_iinc [uR 11 84, uI (v244 M1), uI x3, uI (x3 + 1)] (d285 (j := 39) rfl) rfl (by decide) (s3 c1 M1 hR1 c2) rfl ?_
      refine b_goto (d285 (j := 40) rfl) ?_
      exact (k2 c1 M1 hR1 c2)
    ·
      refine b_goto (d285 (j := 33) rfl) ?_
      refine b_iinc [uR 11 84, uI x1, uI x2, uI (x3 + 1)] (d285 (j := 39) rfl) rfl (by decide) (s4 c1 M1 hR1 c2) rfl ?_
      refine b_goto (d285 (j := 40) rfl) ?_
      exact (k3 c1 M1 hR1 c2)
def L286 : List (Nat × Instr × Nat × Nat) := [(0, .aload_n 0, 1, 0), (1, .invokevirtual 364, 4, 0), (4, .ifCond .ne 6, 7, 10), (7, .bipush (-2), 9, 0), (9, .ireturn, 10, 0), (10, .aload_n 0, 11, 0), (11, .invokevirtual 408, 14, 0), (14, .istore_n 1, 15, 0), (15, .iconst (-1), 16, 0), (16, .istore_n 2, 17, 0), (17, .iconst 0, 18, 0), (18, .istore_n 3, 19, 0), (19, .iload_n 3, 20, 0), (20, .aload_n 0, 21, 0), (21, .getfield 9, 24, 0), (24, .bipush 6, 26, 0), (26, .iaload, 27, 0), (27, .if_icmp .ge 43, 30, 70), (30, .aload_n 0, 31, 0), (31, .bipush 63, 33, 0), (33, .iconst 1, 34, 0), (34, .iload_n 3, 35, 0), (35, .ishl, 36, 0), (36, .iconst (-1), 37, 0), (37, .ixor, 38, 0), (38, .iand, 39, 0), (39, .putfield 283, 42, 0), (42, .aload_n 0, 43, 0), (43, .invokevirtual 361, 46, 0), (46, .aload_n 0, 47, 0), (47, .invokevirtual 408, 50, 0), (50, .iload_n 1, 51, 0), (51, .if_icmp .lt 6, 54, 57), (54, .goto 10, 57, 64), (57, .aload_n 0, 58, 0), (58, .invokevirtual 408, 61, 0), (61, .istore_n 1, 62, 0), (62, .iload_n 3, 63, 0), (63, .istore_n 2, 64, 0), (64, .iinc 3 1, 67, 0), (67, .goto (-48), 70, 19), (70, .iload_n 2, 71, 0), (71, .ireturn, 72, 0)]
set_option maxRecDepth 100000 in
theorem L286_ok : L286.all (dck 286) = true := by decide +kernel
theorem d286 {j pc nx tg : Nat} {ins : Instr} (hj : L286[j]? = some (pc, ins, nx, tg)) : dcd 286 pc ins nx tg := dcl_ok L286_ok hj
set_option maxRecDepth 100000 in
set_option maxHeartbeats 4000000 in
theorem r286_0  {R1 : dsMem → Prop} {g1 : dsMem → Int} {M : dsMem} {Q : bQT} (hA1 : bCt 235 [uR 11 84] M (fun M1 => [uI (g1 M1)]) R1) (s1 : ∀ M1 : dsMem, R1 M1 → (¬ (g1 M1) = 0) → 0 ≤ (M1 85 0) ∧ (M1 85 0) < 13 := by intros; omega) (s2 : ∀ M1 : dsMem, R1 M1 → (¬ (g1 M1) = 0) → ∀ i178_1 : Int, ∀ a178_1 : Int, 0 ≤ i178_1 → i178_1 < 16 → -2147483648 ≤ i178_1 + 1 ∧ i178_1 + 1 < 2147483648 := by intros; omega) (k1 : ∀ M1 : dsMem, R1 M1 → (¬ (g1 M1) = 0) → bB 286 19 [uR 11 84, uI (v244 M1), uI (-1), uI 0] [] M1 Q) (k2 : ∀ M1 : dsMem, R1 M1 → ((g1 M1) = 0) → Q [uI (-2)] M1) :
    bB 286 0 [uR 11 84, uX 0, uX 0, uX 0] [] M Q := by
  refine b_aload_n (d286 (j := 0) rfl) rfl ?_
  refine b_callV (d286 (j := 1) rfl) rfl rfl (Or.inl rfl) rfl (bCk_mk (n := 0) (k := 1) (by decide +kernel) rfl rfl) ((hA1) _ (fun M1 hR1 => ?_))
  refine b_stk [uI (g1 M1)] rfl ?_
  refine b_if_ne (d286 (j := 2) rfl) (fun c1 => ?_) (fun c1 => ?_)
  ·
    refine b_aload_n (d286 (j := 5) rfl) rfl ?_
    refine b_callV (d286 (j := 6) rfl) rfl rfl (Or.inl rfl) rfl (bCk_mk (n := 0) (k := 1) (by decide +kernel) rfl rfl) (fx244 (s1 M1 hR1 c1) (s2 M1 hR1 c1) ?_)
    refine b_stk [uI (v244 M1)] rfl ?_
    refine b_istore_n [uR 11 84, uI (v244 M1), uX 0, uX 0] (d286 (j := 7) rfl) (by decide) rfl ?_
    refine b_iconst (d286 (j := 8) rfl) (by decide) ?_
    refine b_istore_n [uR 11 84, uI (v244 M1), uI (-1), uX 0] (d286 (j := 9) rfl) (by decide) rfl ?_
    refine b_iconst (d286 (j := 10) rfl) (by decide) ?_
    refine b_istore_n [uR 11 84, uI (v244 M1), uI (-1), uI 0] (d286 (j := 11) rfl) (by decide) rfl ?_
    exact (k1 M1 hR1 c1)
  ·
    refine b_bipush (d286 (j := 3) rfl) (by decide) ?_
    exact b_iret (d286 (j := 4) rfl) rfl (k2 M1 hR1 c1)
set_option maxRecDepth 100000 in
set_option maxHeartbeats 4000000 in
theorem r286_19 {x1 x2 x3 : Int} {R1 : dsMem → Prop} {M : dsMem} {Q : bQT} (k1 : ((M 85 6) ≤ x3) → Q [uI x2] M) (hA1 : (¬ (M 85 6) ≤ x3) → bCt 234 [uR 11 84, uX 0] (dsSet M 84 19 (dsAnd 63 (dsXor (dsShl 1 x3) (-1)))) (fun _ => []) R1) (s1 : (¬ (M 85 6) ≤ x3) → ∀ M1 : dsMem, R1 M1 → 0 ≤ (M1 85 0) ∧ (M1 85 0) < 13 := by intros; omega) (s2 : (¬ (M 85 6) ≤ x3) → ∀ M1 : dsMem, R1 M1 → ∀ i178_1 : Int, ∀ a178_1 : Int, 0 ≤ i178_1 → i178_1 < 16 → -2147483648 ≤ i178_1 + 1 ∧ i178_1 + 1 < 2147483648 := by intros; omega) (s3 : (¬ (M 85 6) ≤ x3) → ∀ M1 : dsMem, R1 M1 → ((v244 M1) < x1) → -2147483648 ≤ x3 + 1 ∧ x3 + 1 < 2147483648 := by intros; omega) (k2 : (¬ (M 85 6) ≤ x3) → ∀ M1 : dsMem, R1 M1 → ((v244 M1) < x1) → bB 286 19 [uR 11 84, uI (v244 M1), uI x3, uI (x3 + 1)] [] M1 Q) (s4 : (¬ (M 85 6) ≤ x3) → ∀ M1 : dsMem, R1 M1 → (¬ (v244 M1) < x1) → -2147483648 ≤ x3 + 1 ∧ x3 + 1 < 2147483648 := by intros; omega) (k3 : (¬ (M 85 6) ≤ x3) → ∀ M1 : dsMem, R1 M1 → (¬ (v244 M1) < x1) → bB 286 19 [uR 11 84, uI x1, uI x2, uI (x3 + 1)] [] M1 Q) :
    bB 286 19 [uR 11 84, uI x1, uI x2, uI x3] [] M Q := by
  refine b_iload_n (d286 (j := 12) rfl) rfl ?_
  refine b_aload_n (d286 (j := 13) rfl) rfl ?_
  refine b_getR (d286 (j := 14) rfl) rfl rfl rfl rfl ?_
  refine b_stk [uR 38 85, uI x3] rfl ?_
  refine b_bipush (d286 (j := 15) rfl) (by decide) ?_
  refine b_iaload (d286 (j := 16) rfl) rfl (by decide) ?_
  refine b_icmp_ge (d286 (j := 17) rfl) (fun c1 => ?_) (fun c1 => ?_)
  ·
    refine b_iload_n (d286 (j := 41) rfl) rfl ?_
    exact b_iret (d286 (j := 42) rfl) rfl (k1 c1)
  ·
    refine b_aload_n (d286 (j := 18) rfl) rfl ?_
    refine b_bipush (d286 (j := 19) rfl) (by decide) ?_
    refine b_iconst (d286 (j := 20) rfl) (by decide) ?_
    refine b_iload_n (d286 (j := 21) rfl) rfl ?_
    refine b_ishl (d286 (j := 22) rfl) ?_
    refine b_iconst (d286 (j := 23) rfl) (by decide) ?_
    refine b_ixor (d286 (j := 24) rfl) ?_
    refine b_iand (d286 (j := 25) rfl) ?_
    refine b_putI (d286 (j := 26) rfl) rfl ⟨rfl, rfl⟩ rfl rfl ?_
    refine b_aload_n (d286 (j := 27) rfl) rfl ?_
    refine b_callV (d286 (j := 28) rfl) rfl rfl (Or.inl rfl) rfl (bCk_mk (n := 0) (k := 1) (by decide +kernel) rfl rfl) ((hA1 c1) _ (fun M1 hR1 => ?_))
    refine b_stk [] rfl ?_
    refine b_aload_n (d286 (j := 29) rfl) rfl ?_
    refine b_callV (d286 (j := 30) rfl) rfl rfl (Or.inl rfl) rfl (bCk_mk (n := 0) (k := 1) (by decide +kernel) rfl rfl) (fx244 (s1 c1 M1 hR1) (s2 c1 M1 hR1) ?_)
    refine b_stk [uI (v244 M1)] rfl ?_
    refine b_iload_n (d286 (j := 31) rfl) rfl ?_
    refine b_icmp_lt (d286 (j := 32) rfl) (fun c2 => ?_) (fun c2 => ?_)
    ·
      refine b_aload_n (d286 (j := 34) rfl) rfl ?_
      refine b_callV (d286 (j := 35) rfl) rfl rfl (Or.inl rfl) rfl (bCk_mk (n := 0) (k := 1) (by decide +kernel) rfl rfl) (fx244 (s1 c1 M1 hR1) (s2 c1 M1 hR1) ?_)
      refine b_stk [uI (v244 M1)] rfl ?_
      refine b_istore_n [uR 11 84, uI (v244 M1), uI x2, uI x3] (d286 (j := 36) rfl) (by decide) rfl ?_
      refine b_iload_n (d286 (j := 37) rfl) rfl ?_
      refine b_istore_n [uR 11 84, uI (v244 M1), uI x3, uI x3] (d286 (j := 38) rfl) (by decide) rfl ?_
      refine b_iinc [uR 11 84, uI (v244 M1), uI x3, uI (x3 + 1)] (d286 (j := 39) rfl) rfl (by decide) (s3 c1 M1 hR1 c2) rfl ?_
      refine b_goto (d286 (j := 40) rfl) ?_
      exact (k2 c1 M1 hR1 c2)
    ·
      refine b_goto (d286 (j := 33) rfl) ?_
      refine b_iinc [uR 11 84, uI x1, uI x2, uI (x3 + 1)] (d286 (j := 39) rfl) rfl (by decide) (s4 c1 M1 hR1 c2) rfl ?_
      refine b_goto (d286 (j := 40) rfl) ?_
      exact (k3 c1 M1 hR1 c2)
def L287 : List (Nat × Instr × Nat × Nat) := [(0, .aload_n 0, 1, 0), (1, .iload_n 1, 2, 0), (2, .invokevirtual 398, 5, 0), (5, .ifCond .ne 6, 8, 11), (8, .bipush (-2), 10, 0), (10, .ireturn, 11, 0), (11, .iconst 0, 12, 0), (12, .istore_n 2, 13, 0), (13, .iload_n 2, 14, 0), (14, .sipush 300, 17, 0), (17, .if_icmp .gt 39, 20, 56), (20, .aload_n 0, 21, 0), (21, .getfield 37, 24, 0), (24, .iload_n 1, 25, 0), (25, .iload_n 2, 26, 0), (26, .iastore, 27, 0), (27, .aload_n 0, 28, 0), (28, .invokevirtual 361, 31, 0), (31, .aload_n 0, 32, 0), (32, .getfield 82, 35, 0), (35, .aload_n 0, 36, 0), (36, .invokevirtual 124, 39, 0), (39, .iaload, 40, 0), (40, .iload_n 1, 41, 0), (41, .invokestatic 304, 44, 0), (44, .iconst 1, 45, 0), (45, .if_icmp .ne 5, 48, 50), (48, .iload_n 2, 49, 0), (49, .ireturn, 50, 0), (50, .iinc 2 1, 53, 0), (53, .goto (-40), 56, 13), (56, .iconst (-1), 57, 0), (57, .ireturn, 58, 0)]
set_option maxRecDepth 100000 in
theorem L287_ok : L287.all (dck 287) = true := by decide +kernel
theorem d287 {j pc nx tg : Nat} {ins : Instr} (hj : L287[j]? = some (pc, ins, nx, tg)) : dcd 287 pc ins nx tg := dcl_ok L287_ok hj
set_option maxRecDepth 100000 in
set_option maxHeartbeats 4000000 in
theorem r287_0 {x1 : Int} {R1 : dsMem → Prop} {g1 : dsMem → Int} {M : dsMem} {Q : bQT} (hA1 : bCt 239 [uR 11 84, uI x1] M (fun M1 => [uI (g1 M1)]) R1) (k1 : ∀ M1 : dsMem, R1 M1 → (¬ (g1 M1) = 0) → bB 287 13 [uR 11 84, uI x1, uI 0] [] M1 Q) (k2 : ∀ M1 : dsMem, R1 M1 → ((g1 M1) = 0) → Q [uI (-2)] M1) :
    bB 287 0 [uR 11 84, uI x1, uX 0] [] M Q := by
  refine b_aload_n (d287 (j := 0) rfl) rfl ?_
  refine b_iload_n (d287 (j := 1) rfl) rfl ?_
  refine b_callV (d287 (j := 2) rfl) rfl rfl (Or.inl rfl) rfl (bCk_mk (n := 0) (k := 2) (by decide +kernel) rfl rfl) ((hA1) _ (fun M1 hR1 => ?_))
  refine b_stk [uI (g1 M1)] rfl ?_
  refine b_if_ne (d287 (j := 3) rfl) (fun c1 => ?_) (fun c1 => ?_)
  ·
    refine b_iconst (d287 (j := 6) rfl) (by decide) ?_
    refine b_istore_n [uR 11 84, uI x1, uI 0] (d287 (j := 7) rfl) (by decide) rfl ?_
    exact (k1 M1 hR1 c1)
  ·
    refine b_bipush (d287 (j := 4) rfl) (by decide) ?_
    exact b_iret (d287 (j := 5) rfl) rfl (k2 M1 hR1 c1)
set_option maxRecDepth 100000 in
set_option maxHeartbeats 4000000 in
theorem r287_13 {x1 x2 : Int} {R1 : dsMem → Prop} {M : dsMem} {Q : bQT} (k1 : (300 < x2) → Q [uI (-1)] M) (s1 : (¬ 300 < x2) → 0 ≤ x1 ∧ x1 < 3 := by intros; omega) (hA1 : (¬ 300 < x2) → bCt 234 [uR 11 84, uX 0] (dsSet M 92 x1 x2) (fun _ => []) R1) (s2 : (¬ 300 < x2) → ∀ M1 : dsMem, R1 M1 → 0 ≤ (M1 85 0) ∧ (M1 85 0) < 13 := by intros; omega) (s3 : (¬ 300 < x2) → ∀ M1 : dsMem, R1 M1 → (¬ (dsAnd (dsShr (M1 107 (M1 85 0)) x1) 1) = 1) → -2147483648 ≤ x2 + 1 ∧ x2 + 1 < 2147483648 := by intros; omega) (k2 : (¬ 300 < x2) → ∀ M1 : dsMem, R1 M1 → (¬ (dsAnd (dsShr (M1 107 (M1 85 0)) x1) 1) = 1) → bB 287 13 [uR 11 84, uI x1, uI (x2 + 1)] [] M1 Q) (k3 : (¬ 300 < x2) → ∀ M1 : dsMem, R1 M1 → ((dsAnd (dsShr (M1 107 (M1 85 0)) x1) 1) = 1) → Q [uI x2] M1) :
    bB 287 13 [uR 11 84, uI x1, uI x2] [] M Q := by
  refine b_iload_n (d287 (j := 8) rfl) rfl ?_
  refine b_sipush (d287 (j := 9) rfl) (by decide) ?_
  refine b_icmp_gt (d287 (j := 10) rfl) (fun c1 => ?_) (fun c1 => ?_)
  ·
    refine b_iconst (d287 (j := 31) rfl) (by decide) ?_
    exact b_iret (d287 (j := 32) rfl) rfl (k1 c1)
  ·
    refine b_aload_n (d287 (j := 11) rfl) rfl ?_
    refine b_getR (d287 (j := 12) rfl) rfl rfl rfl rfl ?_
    refine b_stk [uR 23 92] rfl ?_
    refine b_iload_n (d287 (j := 13) rfl) rfl ?_
    refine b_iload_n (d287 (j := 14) rfl) rfl ?_
    refine b_iastore (d287 (j := 15) rfl) rfl (s1 c1) ?_
    refine b_aload_n (d287 (j := 16) rfl) rfl ?_
    refine b_callV (d287 (j := 17) rfl) rfl rfl (Or.inl rfl) rfl (bCk_mk (n := 0) (k := 1) (by decide +kernel) rfl rfl) ((hA1 c1) _ (fun M1 hR1 => ?_))
    refine b_stk [] rfl ?_
    refine b_aload_n (d287 (j := 18) rfl) rfl ?_
    refine b_getR (d287 (j := 19) rfl) rfl rfl rfl rfl ?_
    refine b_stk [uR 27 107] rfl ?_
    refine b_aload_n (d287 (j := 20) rfl) rfl ?_
    refine b_callV (d287 (j := 21) rfl) rfl rfl (Or.inl rfl) rfl (bCk_mk (n := 1) (k := 1) (by decide +kernel) rfl rfl) (pu183  ?_)
    refine b_stk [uI (M1 85 0), uR 27 107] rfl ?_
    refine b_iaload (d287 (j := 22) rfl) rfl (s2 c1 M1 hR1) ?_
    refine b_iload_n (d287 (j := 23) rfl) rfl ?_
    refine b_callS (d287 (j := 24) rfl) (Or.inl rfl) rfl (bCk_mk (n := 0) (k := 2) (by decide +kernel) rfl rfl) (pu179  ?_)
    refine b_stk [uI (dsAnd (dsShr (M1 107 (M1 85 0)) x1) 1)] rfl ?_
    refine b_iconst (d287 (j := 25) rfl) (by decide) ?_
    refine b_icmp_ne (d287 (j := 26) rfl) (fun c2 => ?_) (fun c2 => ?_)
    ·
      refine b_iinc [uR 11 84, uI x1, uI (x2 + 1)] (d287 (j := 29) rfl) rfl (by decide) (s3 c1 M1 hR1 c2) rfl ?_
      refine b_goto (d287 (j := 30) rfl) ?_
      exact (k2 c1 M1 hR1 c2)
    ·
      refine b_iload_n (d287 (j := 27) rfl) rfl ?_
      exact b_iret (d287 (j := 28) rfl) rfl (k3 c1 M1 hR1 c2)
def L288 : List (Nat × Instr × Nat × Nat) := [(0, .aload_n 0, 1, 0), (1, .invokevirtual 364, 4, 0), (4, .ifCond .ne 6, 7, 10), (7, .bipush (-2), 9, 0), (9, .ireturn, 10, 0), (10, .aload_n 0, 11, 0), (11, .invokevirtual 414, 14, 0), (14, .istore_n 1, 15, 0), (15, .iconst (-1), 16, 0), (16, .istore_n 2, 17, 0), (17, .iconst 0, 18, 0), (18, .istore_n 3, 19, 0), (19, .iload_n 3, 20, 0), (20, .aload_n 0, 21, 0), (21, .invokevirtual 116, 24, 0), (24, .if_icmp .ge 38, 27, 62), (27, .aload_n 0, 28, 0), (28, .iconst 1, 29, 0), (29, .iload_n 3, 30, 0), (30, .ishl, 31, 0), (31, .putfield 292, 34, 0), (34, .aload_n 0, 35, 0), (35, .invokevirtual 361, 38, 0), (38, .aload_n 0, 39, 0), (39, .invokevirtual 414, 42, 0), (42, .iload_n 1, 43, 0), (43, .if_icmp .lt 6, 46, 49), (46, .goto 10, 49, 56), (49, .aload_n 0, 50, 0), (50, .invokevirtual 414, 53, 0), (53, .istore_n 1, 54, 0), (54, .iload_n 3, 55, 0), (55, .istore_n 2, 56, 0), (56, .iinc 3 1, 59, 0), (59, .goto (-40), 62, 19), (62, .iload_n 2, 63, 0), (63, .ireturn, 64, 0)]
set_option maxRecDepth 100000 in
theorem L288_ok : L288.all (dck 288) = true := by decide +kernel
theorem d288 {j pc nx tg : Nat} {ins : Instr} (hj : L288[j]? = some (pc, ins, nx, tg)) : dcd 288 pc ins nx tg := dcl_ok L288_ok hj
set_option maxRecDepth 100000 in
set_option maxHeartbeats 4000000 in
theorem r288_0  {R1 : dsMem → Prop} {g1 : dsMem → Int} {M : dsMem} {Q : bQT} (hA1 : bCt 235 [uR 11 84] M (fun M1 => [uI (g1 M1)]) R1) (s1 : ∀ M1 : dsMem, R1 M1 → (¬ (g1 M1) = 0) → ∀ i242_1 : Int, ∀ a242_1 : Int, 0 ≤ i242_1 → i242_1 < (M1 85 4) → 0 ≤ ((6 * (M1 85 0)) + i242_1) ∧ ((6 * (M1 85 0)) + i242_1) < 78 := by intros; omega) (s2 : ∀ M1 : dsMem, R1 M1 → (¬ (g1 M1) = 0) → ∀ i242_1 : Int, ∀ a242_1 : Int, 0 ≤ i242_1 → i242_1 < (M1 85 4) → -2147483648 ≤ i242_1 + 1 ∧ i242_1 + 1 < 2147483648 := by intros; omega) (k1 : ∀ M1 : dsMem, R1 M1 → (¬ (g1 M1) = 0) → bB 288 19 [uR 11 84, uI (v243 M1), uI (-1), uI 0] [] M1 Q) (k2 : ∀ M1 : dsMem, R1 M1 → ((g1 M1) = 0) → Q [uI (-2)] M1) :
    bB 288 0 [uR 11 84, uX 0, uX 0, uX 0] [] M Q := by
  refine b_aload_n (d288 (j := 0) rfl) rfl ?_
  refine b_callV (d288 (j := 1) rfl) rfl rfl (Or.inl rfl) rfl (bCk_mk (n := 0) (k := 1) (by decide +kernel) rfl rfl) ((hA1) _ (fun M1 hR1 => ?_))
  refine b_stk [uI (g1 M1)] rfl ?_
  refine b_if_ne (d288 (j := 2) rfl) (fun c1 => ?_) (fun c1 => ?_)
  ·
    refine b_aload_n (d288 (j := 5) rfl) rfl ?_
    refine b_callV (d288 (j := 6) rfl) rfl rfl (Or.inl rfl) rfl (bCk_mk (n := 0) (k := 1) (by decide +kernel) rfl rfl) (fx243 (s1 M1 hR1 c1) (s2 M1 hR1 c1) ?_)
    refine b_stk [uI (v243 M1)] rfl ?_
    refine b_istore_n [uR 11 84, uI (v243 M1), uX 0, uX 0] (d288 (j := 7) rfl) (by decide) rfl ?_
    refine b_iconst (d288 (j := 8) rfl) (by decide) ?_
    refine b_istore_n [uR 11 84, uI (v243 M1), uI (-1), uX 0] (d288 (j := 9) rfl) (by decide) rfl ?_
    refine b_iconst (d288 (j := 10) rfl) (by decide) ?_
    refine b_istore_n [uR 11 84, uI (v243 M1), uI (-1), uI 0] (d288 (j := 11) rfl) (by decide) rfl ?_
    exact (k1 M1 hR1 c1)
  ·
    refine b_bipush (d288 (j := 3) rfl) (by decide) ?_
    exact b_iret (d288 (j := 4) rfl) rfl (k2 M1 hR1 c1)
set_option maxRecDepth 100000 in
set_option maxHeartbeats 4000000 in
theorem r288_19 {x1 x2 x3 : Int} {R1 : dsMem → Prop} {M : dsMem} {Q : bQT} (k1 : ((M 85 4) ≤ x3) → Q [uI x2] M) (hA1 : (¬ (M 85 4) ≤ x3) → bCt 234 [uR 11 84, uX 0] (dsSet M 84 21 (dsShl 1 x3)) (fun _ => []) R1) (s1 : (¬ (M 85 4) ≤ x3) → ∀ M1 : dsMem, R1 M1 → ∀ i242_1 : Int, ∀ a242_1 : Int, 0 ≤ i242_1 → i242_1 < (M1 85 4) → 0 ≤ ((6 * (M1 85 0)) + i242_1) ∧ ((6 * (M1 85 0)) + i242_1) < 78 := by intros; omega) (s2 : (¬ (M 85 4) ≤ x3) → ∀ M1 : dsMem, R1 M1 → ∀ i242_1 : Int, ∀ a242_1 : Int, 0 ≤ i242_1 → i242_1 < (M1 85 4) → -2147483648 ≤ i242_1 + 1 ∧ i242_1 + 1 < 2147483648 := by intros; omega) (s3 : (¬ (M 85 4) ≤ x3) → ∀ M1 : dsMem, R1 M1 → ((v243 M1) < x1) → -2147483648 ≤ x3 + 1 ∧ x3 + 1 < 2147483648 := by intros; omega) (k2 : (¬ (M 85 4) ≤ x3) → ∀ M1 : dsMem, R1 M1 → ((v243 M1) < x1) → bB 288 19 [uR 11 84, uI (v243 M1), uI x3, uI (x3 + 1)] [] M1 Q) (s4 : (¬ (M 85 4) ≤ x3) → ∀ M1 : dsMem, R1 M1 → (¬ (v243 M1) < x1) → -2147483648 ≤ x3 + 1 ∧ x3 + 1 < 2147483648 := by intros; omega) (k3 : (¬ (M 85 4) ≤ x3) → ∀ M1 : dsMem, R1 M1 → (¬ (v243 M1) < x1) → bB 288 19 [uR 11 84, uI x1, uI x2, uI (x3 + 1)] [] M1 Q) :
    bB 288 19 [uR 11 84, uI x1, uI x2, uI x3] [] M Q := by
  refine b_iload_n (d288 (j := 12) rfl) rfl ?_
  refine b_aload_n (d288 (j := 13) rfl) rfl ?_
  refine b_callV (d288 (j := 14) rfl) rfl rfl (Or.inl rfl) rfl (bCk_mk (n := 1) (k := 1) (by decide +kernel) rfl rfl) (pu185  ?_)
  refine b_stk [uI (M 85 4), uI x3] rfl ?_
  refine b_icmp_ge (d288 (j := 15) rfl) (fun c1 => ?_) (fun c1 => ?_)
  ·
    refine b_iload_n (d288 (j := 35) rfl) rfl ?_
    exact b_iret (d288 (j := 36) rfl) rfl (k1 c1)
  ·
    refine b_aload_n (d288 (j := 16) rfl) rfl ?_
    refine b_iconst (d288 (j := 17) rfl) (by decide) ?_
    refine b_iload_n (d288 (j := 18) rfl) rfl ?_
    refine b_ishl (d288 (j := 19) rfl) ?_
    refine b_putI (d288 (j := 20) rfl) rfl ⟨rfl, rfl⟩ rfl rfl ?_
    refine b_aload_n (d288 (j := 21) rfl) rfl ?_
    refine b_callV (d288 (j := 22) rfl) rfl rfl (Or.inl rfl) rfl (bCk_mk (n := 0) (k := 1) (by decide +kernel) rfl rfl) ((hA1 c1) _ (fun M1 hR1 => ?_))
    refine b_stk [] rfl ?_
    refine b_aload_n (d288 (j := 23) rfl) rfl ?_
    refine b_callV (d288 (j := 24) rfl) rfl rfl (Or.inl rfl) rfl (bCk_mk (n := 0) (k := 1) (by decide +kernel) rfl rfl) (fx243 (s1 c1 M1 hR1) (s2 c1 M1 hR1) ?_)
    refine b_stk [uI (v243 M1)] rfl ?_
    refine b_iload_n (d288 (j := 25) rfl) rfl ?_
    refine b_icmp_lt (d288 (j := 26) rfl) (fun c2 => ?_) (fun c2 => ?_)
    ·
      refine b_aload_n (d288 (j := 28) rfl) rfl ?_
      refine b_callV (d288 (j := 29) rfl) rfl rfl (Or.inl rfl) rfl (bCk_mk (n := 0) (k := 1) (by decide +kernel) rfl rfl) (fx243 (s1 c1 M1 hR1) (s2 c1 M1 hR1) ?_)
      refine b_stk [uI (v243 M1)] rfl ?_
      refine b_istore_n [uR 11 84, uI (v243 M1), uI x2, uI x3] (d288 (j := 30) rfl) (by decide) rfl ?_
      refine b_iload_n (d288 (j := 31) rfl) rfl ?_
      refine b_istore_n [uR 11 84, uI (v243 M1), uI x3, uI x3] (d288 (j := 32) rfl) (by decide) rfl ?_
      refine b_iinc [uR 11 84, uI (v243 M1), uI x3, uI (x3 + 1)] (d288 (j := 33) rfl) rfl (by decide) (s3 c1 M1 hR1 c2) rfl ?_
      refine b_goto (d288 (j := 34) rfl) ?_
      exact (k2 c1 M1 hR1 c2)
    ·
      refine b_goto (d288 (j := 27) rfl) ?_
      refine b_iinc [uR 11 84, uI x1, uI x2, uI (x3 + 1)] (d288 (j := 33) rfl) rfl (by decide) (s4 c1 M1 hR1 c2) rfl ?_
      refine b_goto (d288 (j := 34) rfl) ?_
      exact (k3 c1 M1 hR1 c2)
def L290 : List (Nat × Instr × Nat × Nat) := [(0, .iload_n 1, 1, 0), (1, .invokestatic 417, 4, 0), (4, .ifCond .eq 10, 7, 14), (7, .aload_n 0, 8, 0), (8, .invokevirtual 120, 11, 0), (11, .ifCond .ne 6, 14, 17), (14, .bipush (-2), 16, 0), (16, .ireturn, 17, 0), (17, .aload_n 0, 18, 0), (18, .getfield 94, 21, 0), (21, .iload_n 1, 22, 0), (22, .iaload, 23, 0), (23, .iconst (-1), 24, 0), (24, .if_icmp .ne 6, 27, 30), (27, .bipush (-6), 29, 0), (29, .ireturn, 30, 0), (30, .aload_n 0, 31, 0), (31, .getfield 94, 34, 0), (34, .iload_n 1, 35, 0), (35, .iaload, 36, 0), (36, .iconst 3, 37, 0), (37, .irem, 38, 0), (38, .ifCond .eq 6, 41, 44), (41, .bipush (-2), 43, 0), (43, .ireturn, 44, 0), (44, .iconst 0, 45, 0), (45, .istore_n 2, 46, 0), (46, .iload_n 2, 47, 0), (47, .aload_n 0, 48, 0), (48, .getfield 94, 51, 0), (51, .iload_n 1, 52, 0), (52, .iaload, 53, 0), (53, .if_icmp .ge 58, 56, 111), (56, .aload_n 0, 57, 0), (57, .aload_n 0, 58, 0), (58, .iload_n 1, 59, 0), (59, .iload_n 2, 60, 0), (60, .invokevirtual 420, 63, 0), (63, .invokevirtual 268, 66, 0), (66, .ifCond .eq 36, 69, 102), (69, .aload_n 0, 70, 0), (70, .aload_n 0, 71, 0), (71, .iload_n 1, 72, 0), (72, .iload_n 2, 73, 0), (73, .iconst 1, 74, 0), (74, .iadd, 75, 0), (75, .invokevirtual 420, 78, 0), (78, .invokevirtual 367, 81, 0), (81, .ifCond .eq 21, 84, 102), (84, .aload_n 0, 85, 0), (85, .iload_n 1, 86, 0), (86, .iload_n 2, 87, 0), (87, .iconst 2, 88, 0), (88, .iadd, 89, 0), (89, .invokevirtual 420, 92, 0), (92, .lconst 0, 93, 0), (93, .ldc2_w 424, 96, 0), (96, .invokestatic 112, 99, 0), (99, .ifCond .ne 6, 102, 105), (102, .bipush (-2), 104, 0), (104, .ireturn, 105, 0), (105, .iinc 2 3, 108, 0), (108, .goto (-62), 111, 46), (111, .aload_n 0, 112, 0), (112, .invokevirtual 358, 115, 0), (115, .iconst 0, 116, 0), (116, .ireturn, 117, 0)]
set_option maxRecDepth 100000 in
theorem L290_ok : L290.all (dck 290) = true := by decide +kernel
theorem d290 {j pc nx tg : Nat} {ins : Instr} (hj : L290[j]? = some (pc, ins, nx, tg)) : dcd 290 pc ins nx tg := dcl_ok L290_ok hj
set_option maxRecDepth 100000 in
set_option maxHeartbeats 4000000 in
theorem r290_0 {x1 : Int}  {M : dsMem} {Q : bQT} (k1 : (¬ (0 ≤ x1 ∧ x1 ≤ 3)) → Q [uI (-2)] M) (s1 : ((0 ≤ x1 ∧ x1 ≤ 3)) → ((0 < (M 85 8))) → 0 ≤ x1 ∧ x1 < 4 := by intros; omega) (s2 : ((0 ≤ x1 ∧ x1 ≤ 3)) → ((0 < (M 85 8))) → (¬ (M 111 x1) = -1) → 0 ≤ (M 111 x1) ∧ (0 : Int) < 3 := by intros; omega) (k2 : ((0 ≤ x1 ∧ x1 ≤ 3)) → ((0 < (M 85 8))) → (¬ (M 111 x1) = -1) → (((M 111 x1) % 3) = 0) → bB 290 46 [uR 11 84, uI x1, uI 0] [] M Q) (k3 : ((0 ≤ x1 ∧ x1 ≤ 3)) → ((0 < (M 85 8))) → (¬ (M 111 x1) = -1) → (¬ ((M 111 x1) % 3) = 0) → Q [uI (-2)] M) (k4 : ((0 ≤ x1 ∧ x1 ≤ 3)) → ((0 < (M 85 8))) → ((M 111 x1) = -1) → Q [uI (-6)] M) (k5 : ((0 ≤ x1 ∧ x1 ≤ 3)) → (¬ (0 < (M 85 8))) → Q [uI (-2)] M) :
    bB 290 0 [uR 11 84, uI x1, uX 0] [] M Q := by
  refine b_iload_n (d290 (j := 0) rfl) rfl ?_
  refine b_callS (d290 (j := 1) rfl) (Or.inl rfl) rfl (bCk_mk (n := 0) (k := 1) (by decide +kernel) rfl rfl) (pu328  ?_)
  refine b_stk [uI (if (0 ≤ x1 ∧ x1 ≤ 3) then 1 else 0)] rfl ?_
  refine b_ifeqP (d290 (j := 2) rfl) (fun c1 => ?_) (fun c1 => ?_)
  ·
    refine b_bipush (d290 (j := 6) rfl) (by decide) ?_
    exact b_iret (d290 (j := 7) rfl) rfl (k1 c1)
  ·
    refine b_aload_n (d290 (j := 3) rfl) rfl ?_
    refine b_callV (d290 (j := 4) rfl) rfl rfl (Or.inl rfl) rfl (bCk_mk (n := 0) (k := 1) (by decide +kernel) rfl rfl) (pu182  ?_)
    refine b_stk [uI (if (0 < (M 85 8)) then 1 else 0)] rfl ?_
    refine b_ifneP (d290 (j := 5) rfl) (fun c2 => ?_) (fun c2 => ?_)
    ·
      refine b_aload_n (d290 (j := 8) rfl) rfl ?_
      refine b_getR (d290 (j := 9) rfl) rfl rfl rfl rfl ?_
      refine b_stk [uR 44 111] rfl ?_
      refine b_iload_n (d290 (j := 10) rfl) rfl ?_
      refine b_iaload (d290 (j := 11) rfl) rfl (s1 c1 c2) ?_
      refine b_iconst (d290 (j := 12) rfl) (by decide) ?_
      refine b_icmp_ne (d290 (j := 13) rfl) (fun c3 => ?_) (fun c3 => ?_)
      ·
        refine b_aload_n (d290 (j := 16) rfl) rfl ?_
        refine b_getR (d290 (j := 17) rfl) rfl rfl rfl rfl ?_
        refine b_stk [uR 44 111] rfl ?_
        refine b_iload_n (d290 (j := 18) rfl) rfl ?_
        refine b_iaload (d290 (j := 19) rfl) rfl (s1 c1 c2) ?_
        refine b_iconst (d290 (j := 20) rfl) (by decide) ?_
        refine b_iremP (d290 (j := 21) rfl) (s2 c1 c2 c3) ?_
        refine b_if_eq (d290 (j := 22) rfl) (fun c4 => ?_) (fun c4 => ?_)
        ·
          refine b_iconst (d290 (j := 25) rfl) (by decide) ?_
          refine b_istore_n [uR 11 84, uI x1, uI 0] (d290 (j := 26) rfl) (by decide) rfl ?_
          exact (k2 c1 c2 c3 c4)
        ·
          refine b_bipush (d290 (j := 23) rfl) (by decide) ?_
          exact b_iret (d290 (j := 24) rfl) rfl (k3 c1 c2 c3 c4)
      ·
        refine b_bipush (d290 (j := 14) rfl) (by decide) ?_
        exact b_iret (d290 (j := 15) rfl) rfl (k4 c1 c2 c3)
    ·
      refine b_bipush (d290 (j := 6) rfl) (by decide) ?_
      exact b_iret (d290 (j := 7) rfl) rfl (k5 c1 c2)
set_option maxRecDepth 100000 in
set_option maxHeartbeats 4000000 in
theorem r290_46 {x1 x2 : Int} {R1 : dsMem → Prop} {M : dsMem} {Q : bQT} (s1 : 0 ≤ x1 ∧ x1 < 4 := by intros; omega) (hA1 : ((M 111 x1) ≤ x2) → bCt 220 [uR 11 84, uX 0] M (fun _ => []) R1) (k1 : ((M 111 x1) ≤ x2) → ∀ M1 : dsMem, R1 M1 → Q [uI 0] M1) (s2 : (¬ (M 111 x1) ≤ x2) → 0 ≤ ((60 * x1) + x2) ∧ ((60 * x1) + x2) < 240 := by intros; omega) (s3 : (¬ (M 111 x1) ≤ x2) → -2147483648 ≤ ((M 85 4) - 1) ∧ ((M 85 4) - 1) < 2147483648 := by intros; omega) (k2 : (¬ (M 111 x1) ≤ x2) → (¬ (0 ≤ (M 113 ((60 * x1) + x2)) ∧ (M 113 ((60 * x1) + x2)) ≤ (M 85 4) - 1)) → Q [uI (-2)] M) (s4 : (¬ (M 111 x1) ≤ x2) → ((0 ≤ (M 113 ((60 * x1) + x2)) ∧ (M 113 ((60 * x1) + x2)) ≤ (M 85 4) - 1)) → -2147483648 ≤ (x2 + 1) ∧ (x2 + 1) < 2147483648 := by intros; omega) (s5 : (¬ (M 111 x1) ≤ x2) → ((0 ≤ (M 113 ((60 * x1) + x2)) ∧ (M 113 ((60 * x1) + x2)) ≤ (M 85 4) - 1)) → 0 ≤ ((60 * x1) + (x2 + 1)) ∧ ((60 * x1) + (x2 + 1)) < 240 := by intros; omega) (k3 : (¬ (M 111 x1) ≤ x2) → ((0 ≤ (M 113 ((60 * x1) + x2)) ∧ (M 113 ((60 * x1) + x2)) ≤ (M 85 4) - 1)) → (¬ (0 < (M 85 8) ∧ 0 ≤ (M 113 ((60 * x1) + (x2 + 1))) ∧ (M 113 ((60 * x1) + (x2 + 1))) ≤ (M 85 0))) → Q [uI (-2)] M) (s6 : (¬ (M 111 x1) ≤ x2) → ((0 ≤ (M 113 ((60 * x1) + x2)) ∧ (M 113 ((60 * x1) + x2)) ≤ (M 85 4) - 1)) → ((0 < (M 85 8) ∧ 0 ≤ (M 113 ((60 * x1) + (x2 + 1))) ∧ (M 113 ((60 * x1) + (x2 + 1))) ≤ (M 85 0))) → -2147483648 ≤ (x2 + 2) ∧ (x2 + 2) < 2147483648 := by intros; omega) (s7 : (¬ (M 111 x1) ≤ x2) → ((0 ≤ (M 113 ((60 * x1) + x2)) ∧ (M 113 ((60 * x1) + x2)) ≤ (M 85 4) - 1)) → ((0 < (M 85 8) ∧ 0 ≤ (M 113 ((60 * x1) + (x2 + 1))) ∧ (M 113 ((60 * x1) + (x2 + 1))) ≤ (M 85 0))) → 0 ≤ ((60 * x1) + (x2 + 2)) ∧ ((60 * x1) + (x2 + 2)) < 240 := by intros; omega) (s8 : (¬ (M 111 x1) ≤ x2) → ((0 ≤ (M 113 ((60 * x1) + x2)) ∧ (M 113 ((60 * x1) + x2)) ≤ (M 85 4) - 1)) → ((0 < (M 85 8) ∧ 0 ≤ (M 113 ((60 * x1) + (x2 + 1))) ∧ (M 113 ((60 * x1) + (x2 + 1))) ≤ (M 85 0))) → ((0 ≤ (M 113 ((60 * x1) + (x2 + 2))) ∧ (M 113 ((60 * x1) + (x2 + 2))) ≤ 60)) → -2147483648 ≤ x2 + 3 ∧ x2 + 3 < 2147483648 := by intros; omega) (k4 : (¬ (M 111 x1) ≤ x2) → ((0 ≤ (M 113 ((60 * x1) + x2)) ∧ (M 113 ((60 * x1) + x2)) ≤ (M 85 4) - 1)) → ((0 < (M 85 8) ∧ 0 ≤ (M 113 ((60 * x1) + (x2 + 1))) ∧ (M 113 ((60 * x1) + (x2 + 1))) ≤ (M 85 0))) → ((0 ≤ (M 113 ((60 * x1) + (x2 + 2))) ∧ (M 113 ((60 * x1) + (x2 + 2))) ≤ 60)) → bB 290 46 [uR 11 84, uI x1, uI (x2 + 3)] [] M Q) (k5 : (¬ (M 111 x1) ≤ x2) → ((0 ≤ (M 113 ((60 * x1) + x2)) ∧ (M 113 ((60 * x1) + x2)) ≤ (M 85 4) - 1)) → ((0 < (M 85 8) ∧ 0 ≤ (M 113 ((60 * x1) + (x2 + 1))) ∧ (M 113 ((60 * x1) + (x2 + 1))) ≤ (M 85 0))) → (¬ (0 ≤ (M 113 ((60 * x1) + (x2 + 2))) ∧ (M 113 ((60 * x1) + (x2 + 2))) ≤ 60)) → Q [uI (-2)] M) :
    bB 290 46 [uR 11 84, uI x1, uI x2] [] M Q := by
  refine b_iload_n (d290 (j := 27) rfl) rfl ?_
  refine b_aload_n (d290 (j := 28) rfl) rfl ?_
  refine b_getR (d290 (j := 29) rfl) rfl rfl rfl rfl ?_
  refine b_stk [uR 44 111, uI x2] rfl ?_
  refine b_iload_n (d290 (j := 30) rfl) rfl ?_
  refine b_iaload (d290 (j := 31) rfl) rfl s1 ?_
  refine b_icmp_ge (d290 (j := 32) rfl) (fun c1 => ?_) (fun c1 => ?_)
  ·
    refine b_aload_n (d290 (j := 63) rfl) rfl ?_
    refine b_callV (d290 (j := 64) rfl) rfl rfl (Or.inl rfl) rfl (bCk_mk (n := 0) (k := 1) (by decide +kernel) rfl rfl) ((hA1 c1) _ (fun M1 hR1 => ?_))
    refine b_stk [] rfl ?_
    refine b_iconst (d290 (j := 65) rfl) (by decide) ?_
    exact b_iret (d290 (j := 66) rfl) rfl (k1 c1 M1 hR1)
  ·
    refine b_aload_n (d290 (j := 33) rfl) rfl ?_
    refine b_aload_n (d290 (j := 34) rfl) rfl ?_
    refine b_iload_n (d290 (j := 35) rfl) rfl ?_
    refine b_iload_n (d290 (j := 36) rfl) rfl ?_
    refine b_callV (d290 (j := 37) rfl) rfl rfl (Or.inl rfl) rfl (bCk_mk (n := 1) (k := 3) (by decide +kernel) rfl rfl) (pu289 (s2 c1) ?_)
    refine b_stk [uJ (M 113 ((60 * x1) + x2)), uR 11 84] rfl ?_
    refine b_callV (d290 (j := 38) rfl) rfl rfl (Or.inl rfl) rfl (bCk_mk (n := 0) (k := 3) (by decide +kernel) rfl rfl) (pu190 (s3 c1) ?_)
    refine b_stk [uI (if (0 ≤ (M 113 ((60 * x1) + x2)) ∧ (M 113 ((60 * x1) + x2)) ≤ (M 85 4) - 1) then 1 else 0)] rfl ?_
    refine b_ifeqP (d290 (j := 39) rfl) (fun c2 => ?_) (fun c2 => ?_)
    ·
      refine b_bipush (d290 (j := 59) rfl) (by decide) ?_
      exact b_iret (d290 (j := 60) rfl) rfl (k2 c1 c2)
    ·
      refine b_aload_n (d290 (j := 40) rfl) rfl ?_
      refine b_aload_n (d290 (j := 41) rfl) rfl ?_
      refine b_iload_n (d290 (j := 42) rfl) rfl ?_
      refine b_iload_n (d290 (j := 43) rfl) rfl ?_
      refine b_iconst (d290 (j := 44) rfl) (by decide) ?_
      refine b_iadd (d290 (j := 45) rfl) rfl rfl ?_
      refine b_stk [uI (x2 + 1), uI x1, uR 11 84, uR 11 84] (by rw [dsw_r (s4 c1 c2)]) ?_
      refine b_callV (d290 (j := 46) rfl) rfl rfl (Or.inl rfl) rfl (bCk_mk (n := 1) (k := 3) (by decide +kernel) rfl rfl) (pu289 (s5 c1 c2) ?_)
      refine b_stk [uJ (M 113 ((60 * x1) + (x2 + 1))), uR 11 84] rfl ?_
      refine b_callV (d290 (j := 47) rfl) rfl rfl (Or.inl rfl) rfl (bCk_mk (n := 0) (k := 3) (by decide +kernel) rfl rfl) (pu187  ?_)
      refine b_stk [uI (if (0 < (M 85 8) ∧ 0 ≤ (M 113 ((60 * x1) + (x2 + 1))) ∧ (M 113 ((60 * x1) + (x2 + 1))) ≤ (M 85 0)) then 1 else 0)] rfl ?_
      refine b_ifeqP (d290 (j := 48) rfl) (fun c3 => ?_) (fun c3 => ?_)
      ·
        refine b_bipush (d290 (j := 59) rfl) (by decide) ?_
        exact b_iret (d290 (j := 60) rfl) rfl (k3 c1 c2 c3)
      ·
        refine b_aload_n (d290 (j := 49) rfl) rfl ?_
        refine b_iload_n (d290 (j := 50) rfl) rfl ?_
        refine b_iload_n (d290 (j := 51) rfl) rfl ?_
        refine b_iconst (d290 (j := 52) rfl) (by decide) ?_
        refine b_iadd (d290 (j := 53) rfl) rfl rfl ?_
        refine b_stk [uI (x2 + 2), uI x1, uR 11 84] (by rw [dsw_r (s6 c1 c2 c3)]) ?_
        refine b_callV (d290 (j := 54) rfl) rfl rfl (Or.inl rfl) rfl (bCk_mk (n := 0) (k := 3) (by decide +kernel) rfl rfl) (pu289 (s7 c1 c2 c3) ?_)
        refine b_stk [uJ (M 113 ((60 * x1) + (x2 + 2)))] rfl ?_
        refine b_lconst (d290 (j := 55) rfl) ?_
        refine b_stk [uJ 0, uJ (M 113 ((60 * x1) + (x2 + 2)))] rfl ?_
        refine b_ldc2 (d290 (j := 56) rfl) rfl ?_
        refine b_callS (d290 (j := 57) rfl) (Or.inl rfl) rfl (bCk_mk (n := 0) (k := 6) (by decide +kernel) rfl rfl) (pu177  ?_)
        refine b_stk [uI (if (0 ≤ (M 113 ((60 * x1) + (x2 + 2))) ∧ (M 113 ((60 * x1) + (x2 + 2))) ≤ 60) then 1 else 0)] rfl ?_
        refine b_ifneP (d290 (j := 58) rfl) (fun c4 => ?_) (fun c4 => ?_)
        ·
          refine b_iinc [uR 11 84, uI x1, uI (x2 + 3)] (d290 (j := 61) rfl) rfl (by decide) (s8 c1 c2 c3 c4) rfl ?_
          refine b_goto (d290 (j := 62) rfl) ?_
          exact (k4 c1 c2 c3 c4)
        ·
          refine b_bipush (d290 (j := 59) rfl) (by decide) ?_
          exact b_iret (d290 (j := 60) rfl) rfl (k5 c1 c2 c3 c4)
def L291 : List (Nat × Instr × Nat × Nat) := [(0, .aload_n 0, 1, 0), (1, .invokevirtual 361, 4, 0), (4, .iconst 0, 5, 0), (5, .istore_n 2, 6, 0), (6, .iload_n 2, 7, 0), (7, .aload_n 0, 8, 0), (8, .getfield 94, 11, 0), (11, .iload_n 1, 12, 0), (12, .iaload, 13, 0), (13, .if_icmp .ge 44, 16, 57), (16, .aload_n 0, 17, 0), (17, .aload_n 0, 18, 0), (18, .iload_n 1, 19, 0), (19, .iload_n 2, 20, 0), (20, .invokevirtual 420, 23, 0), (23, .l2i, 24, 0), (24, .aload_n 0, 25, 0), (25, .iload_n 1, 26, 0), (26, .iload_n 2, 27, 0), (27, .iconst 1, 28, 0), (28, .iadd, 29, 0), (29, .invokevirtual 420, 32, 0), (32, .l2i, 33, 0), (33, .invokevirtual 373, 36, 0), (36, .i2l, 37, 0), (37, .aload_n 0, 38, 0), (38, .iload_n 1, 39, 0), (39, .iload_n 2, 40, 0), (40, .iconst 2, 41, 0), (41, .iadd, 42, 0), (42, .invokevirtual 420, 45, 0), (45, .lcmp, 46, 0), (46, .ifCond .eq 5, 49, 51), (49, .iconst 0, 50, 0), (50, .ireturn, 51, 0), (51, .iinc 2 3, 54, 0), (54, .goto (-48), 57, 6), (57, .iconst 1, 58, 0), (58, .ireturn, 59, 0)]
set_option maxRecDepth 100000 in
theorem L291_ok : L291.all (dck 291) = true := by decide +kernel
theorem d291 {j pc nx tg : Nat} {ins : Instr} (hj : L291[j]? = some (pc, ins, nx, tg)) : dcd 291 pc ins nx tg := dcl_ok L291_ok hj
set_option maxRecDepth 100000 in
set_option maxHeartbeats 4000000 in
theorem r291_0 {x1 : Int} {R1 : dsMem → Prop} {M : dsMem} {Q : bQT} (hA1 : bCt 234 [uR 11 84, uX 0] M (fun _ => []) R1) (k1 : ∀ M1 : dsMem, R1 M1 → bB 291 6 [uR 11 84, uI x1, uI 0] [] M1 Q) :
    bB 291 0 [uR 11 84, uI x1, uX 0] [] M Q := by
  refine b_aload_n (d291 (j := 0) rfl) rfl ?_
  refine b_callV (d291 (j := 1) rfl) rfl rfl (Or.inl rfl) rfl (bCk_mk (n := 0) (k := 1) (by decide +kernel) rfl rfl) ((hA1) _ (fun M1 hR1 => ?_))
  refine b_stk [] rfl ?_
  refine b_iconst (d291 (j := 2) rfl) (by decide) ?_
  refine b_istore_n [uR 11 84, uI x1, uI 0] (d291 (j := 3) rfl) (by decide) rfl ?_
  exact (k1 M1 hR1)
set_option maxRecDepth 100000 in
set_option maxHeartbeats 4000000 in
theorem r291_6 {x1 x2 : Int}  {M : dsMem} {Q : bQT} (s1 : 0 ≤ x1 ∧ x1 < 4 := by intros; omega) (k1 : ((M 111 x1) ≤ x2) → Q [uI 1] M) (s2 : (¬ (M 111 x1) ≤ x2) → 0 ≤ ((60 * x1) + x2) ∧ ((60 * x1) + x2) < 240 := by intros; omega) (s3 : (¬ (M 111 x1) ≤ x2) → -2147483648 ≤ (x2 + 1) ∧ (x2 + 1) < 2147483648 := by intros; omega) (s4 : (¬ (M 111 x1) ≤ x2) → 0 ≤ ((60 * x1) + (x2 + 1)) ∧ ((60 * x1) + (x2 + 1)) < 240 := by intros; omega) (s5 : (¬ (M 111 x1) ≤ x2) → -2147483648 ≤ (M 113 ((60 * x1) + (x2 + 1))) ∧ (M 113 ((60 * x1) + (x2 + 1))) < 2147483648 := by intros; omega) (s6 : (¬ (M 111 x1) ≤ x2) → -2147483648 ≤ (M 113 ((60 * x1) + x2)) ∧ (M 113 ((60 * x1) + x2)) < 2147483648 := by intros; omega) (s7 : (¬ (M 111 x1) ≤ x2) → 0 ≤ ((6 * (M 113 ((60 * x1) + (x2 + 1)))) + (M 113 ((60 * x1) + x2))) ∧ ((6 * (M 113 ((60 * x1) + (x2 + 1)))) + (M 113 ((60 * x1) + x2))) < 78 := by intros; omega) (s8 : (¬ (M 111 x1) ≤ x2) → -2147483648 ≤ (x2 + 2) ∧ (x2 + 2) < 2147483648 := by intros; omega) (s9 : (¬ (M 111 x1) ≤ x2) → 0 ≤ ((60 * x1) + (x2 + 2)) ∧ ((60 * x1) + (x2 + 2)) < 240 := by intros; omega) (s10 : (¬ (M 111 x1) ≤ x2) → ((M 102 ((6 * (M 113 ((60 * x1) + (x2 + 1)))) + (M 113 ((60 * x1) + x2)))) = (M 113 ((60 * x1) + (x2 + 2)))) → -2147483648 ≤ x2 + 3 ∧ x2 + 3 < 2147483648 := by intros; omega) (k2 : (¬ (M 111 x1) ≤ x2) → ((M 102 ((6 * (M 113 ((60 * x1) + (x2 + 1)))) + (M 113 ((60 * x1) + x2)))) = (M 113 ((60 * x1) + (x2 + 2)))) → bB 291 6 [uR 11 84, uI x1, uI (x2 + 3)] [] M Q) (k3 : (¬ (M 111 x1) ≤ x2) → (¬ (M 102 ((6 * (M 113 ((60 * x1) + (x2 + 1)))) + (M 113 ((60 * x1) + x2)))) = (M 113 ((60 * x1) + (x2 + 2)))) → Q [uI 0] M) :
    bB 291 6 [uR 11 84, uI x1, uI x2] [] M Q := by
  refine b_iload_n (d291 (j := 4) rfl) rfl ?_
  refine b_aload_n (d291 (j := 5) rfl) rfl ?_
  refine b_getR (d291 (j := 6) rfl) rfl rfl rfl rfl ?_
  refine b_stk [uR 44 111, uI x2] rfl ?_
  refine b_iload_n (d291 (j := 7) rfl) rfl ?_
  refine b_iaload (d291 (j := 8) rfl) rfl s1 ?_
  refine b_icmp_ge (d291 (j := 9) rfl) (fun c1 => ?_) (fun c1 => ?_)
  ·
    refine b_iconst (d291 (j := 37) rfl) (by decide) ?_
    exact b_zret (d291 (j := 38) rfl) rfl (by decide) (k1 c1)
  ·
    refine b_aload_n (d291 (j := 10) rfl) rfl ?_
    refine b_aload_n (d291 (j := 11) rfl) rfl ?_
    refine b_iload_n (d291 (j := 12) rfl) rfl ?_
    refine b_iload_n (d291 (j := 13) rfl) rfl ?_
    refine b_callV (d291 (j := 14) rfl) rfl rfl (Or.inl rfl) rfl (bCk_mk (n := 1) (k := 3) (by decide +kernel) rfl rfl) (pu289 (s2 c1) ?_)
    refine b_stk [uJ (M 113 ((60 * x1) + x2)), uR 11 84] rfl ?_
    refine b_l2i (d291 (j := 15) rfl) rfl ?_
    refine b_aload_n (d291 (j := 16) rfl) rfl ?_
    refine b_iload_n (d291 (j := 17) rfl) rfl ?_
    refine b_iload_n (d291 (j := 18) rfl) rfl ?_
    refine b_iconst (d291 (j := 19) rfl) (by decide) ?_
    refine b_iadd (d291 (j := 20) rfl) rfl rfl ?_
    refine b_stk [uI (x2 + 1), uI x1, uR 11 84, uI (dsw ((M 113 ((60 * x1) + x2)))), uR 11 84] (by rw [dsw_r (s3 c1)]) ?_
    refine b_callV (d291 (j := 21) rfl) rfl rfl (Or.inl rfl) rfl (bCk_mk (n := 2) (k := 3) (by decide +kernel) rfl rfl) (pu289 (s4 c1) ?_)
    refine b_stk [uJ (M 113 ((60 * x1) + (x2 + 1))), uI (dsw ((M 113 ((60 * x1) + x2)))), uR 11 84] rfl ?_
    refine b_l2i (d291 (j := 22) rfl) rfl ?_
    refine b_stk [uI (M 113 ((60 * x1) + (x2 + 1))), uI (dsw ((M 113 ((60 * x1) + x2)))), uR 11 84] (by rw [dsw_r (s5 c1)]) ?_
    refine b_stk [uI (M 113 ((60 * x1) + (x2 + 1))), uI (M 113 ((60 * x1) + x2)), uR 11 84] (by rw [dsw_r (s6 c1)]) ?_
    refine b_callV (d291 (j := 23) rfl) rfl rfl (Or.inl rfl) rfl (bCk_mk (n := 0) (k := 3) (by decide +kernel) rfl rfl) (pu240 (s7 c1) ?_)
    refine b_stk [uI (M 102 ((6 * (M 113 ((60 * x1) + (x2 + 1)))) + (M 113 ((60 * x1) + x2))))] rfl ?_
    refine b_i2l (d291 (j := 24) rfl) ?_
    refine b_aload_n (d291 (j := 25) rfl) rfl ?_
    refine b_iload_n (d291 (j := 26) rfl) rfl ?_
    refine b_iload_n (d291 (j := 27) rfl) rfl ?_
    refine b_iconst (d291 (j := 28) rfl) (by decide) ?_
    refine b_iadd (d291 (j := 29) rfl) rfl rfl ?_
    refine b_stk [uI (x2 + 2), uI x1, uR 11 84, uJ (M 102 ((6 * (M 113 ((60 * x1) + (x2 + 1)))) + (M 113 ((60 * x1) + x2))))] (by rw [dsw_r (s8 c1)]) ?_
    refine b_callV (d291 (j := 30) rfl) rfl rfl (Or.inl rfl) rfl (bCk_mk (n := 2) (k := 3) (by decide +kernel) rfl rfl) (pu289 (s9 c1) ?_)
    refine b_stk [uJ (M 113 ((60 * x1) + (x2 + 2))), uJ (M 102 ((6 * (M 113 ((60 * x1) + (x2 + 1)))) + (M 113 ((60 * x1) + x2))))] rfl ?_
    refine b_lcmp (d291 (j := 31) rfl) ?_
    refine b_lif_eq (d291 (j := 32) rfl) (fun c2 => ?_) (fun c2 => ?_)
    ·
      refine b_iinc [uR 11 84, uI x1, uI (x2 + 3)] (d291 (j := 35) rfl) rfl (by decide) (s10 c1 c2) rfl ?_
      refine b_goto (d291 (j := 36) rfl) ?_
      exact (k2 c1 c2)
    ·
      refine b_iconst (d291 (j := 33) rfl) (by decide) ?_
      exact b_zret (d291 (j := 34) rfl) rfl (by decide) (k3 c1 c2)
def L292 : List (Nat × Instr × Nat × Nat) := [(0, .aload_n 0, 1, 0), (1, .iload_n 2, 2, 0), (2, .i2l, 3, 0), (3, .invokevirtual 268, 6, 0), (6, .ifCond .ne 6, 9, 12), (9, .bipush (-2), 11, 0), (11, .ireturn, 12, 0), (12, .aload_n 0, 13, 0), (13, .iload_n 1, 14, 0), (14, .invokevirtual 426, 17, 0), (17, .istore_n 3, 18, 0), (18, .iload_n 3, 19, 0), (19, .ifCond .ge 5, 22, 24), (22, .iload_n 3, 23, 0), (23, .ireturn, 24, 0), (24, .aload_n 0, 25, 0), (25, .iconst 0, 26, 0), (26, .putfield 429, 29, 0), (29, .iconst 1, 30, 0), (30, .istore 4, 32, 0), (32, .iload 4, 34, 0), (34, .bipush 60, 36, 0), (36, .if_icmp .gt 89, 39, 125), (39, .aload_n 0, 40, 0), (40, .getfield 34, 43, 0), (43, .iload_n 2, 44, 0), (44, .iload 4, 46, 0), (46, .iastore, 47, 0), (47, .aload_n 0, 48, 0), (48, .iload_n 1, 49, 0), (49, .invokevirtual 432, 52, 0), (52, .ifCond .ne 6, 55, 58), (55, .goto 64, 58, 119), (58, .aload_n 0, 59, 0), (59, .getfield 85, 62, 0), (62, .aload_n 0, 63, 0), (63, .getfield 429, 66, 0), (66, .iload 4, 68, 0), (68, .iastore, 69, 0), (69, .iconst 0, 70, 0), (70, .istore 5, 72, 0), (72, .iload 5, 74, 0), (74, .aload_n 0, 75, 0), (75, .invokevirtual 124, 78, 0), (78, .if_icmp .gt 31, 81, 109), (81, .aload_n 0, 82, 0), (82, .getfield 88, 85, 0), (85, .bipush 13, 87, 0), (87, .aload_n 0, 88, 0), (88, .getfield 429, 91, 0), (91, .imul, 92, 0), (92, .iload 5, 94, 0), (94, .iadd, 95, 0), (95, .aload_n 0, 96, 0), (96, .iload_n 2, 97, 0), (97, .iload 5, 99, 0), (99, .invokevirtual 373, 102, 0), (102, .iastore, 103, 0), (103, .iinc 5 1, 106, 0), (106, .goto (-34), 109, 72), (109, .aload_n 0, 110, 0), (110, .dup, 111, 0), (111, .getfield 429, 114, 0), (114, .iconst 1, 115, 0), (115, .iadd, 116, 0), (116, .putfield 429, 119, 0), (119, .iinc 4 1, 122, 0), (122, .goto (-90), 125, 32), (125, .iconst 0, 126, 0), (126, .ireturn, 127, 0)]
set_option maxRecDepth 100000 in
theorem L292_ok : L292.all (dck 292) = true := by decide +kernel
theorem d292 {j pc nx tg : Nat} {ins : Instr} (hj : L292[j]? = some (pc, ins, nx, tg)) : dcd 292 pc ins nx tg := dcl_ok L292_ok hj
set_option maxRecDepth 100000 in
set_option maxHeartbeats 4000000 in
theorem r292_0 {x1 x2 : Int} {R1 : dsMem → Prop} {g1 : dsMem → Int} {M : dsMem} {Q : bQT} (s1 : -2147483648 ≤ ((M 85 4) - 1) ∧ ((M 85 4) - 1) < 2147483648 := by intros; omega) (hA1 : ((0 ≤ x2 ∧ x2 ≤ (M 85 4) - 1)) → bCt 290 [uR 11 84, uI x1, uX 0] M (fun M1 => [uI (g1 M1)]) R1) (k1 : ((0 ≤ x2 ∧ x2 ≤ (M 85 4) - 1)) → ∀ M1 : dsMem, R1 M1 → (0 ≤ (g1 M1)) → bB 292 32 [uR 11 84, uI x1, uI x2, uX 0, uI 1, uX 0] [] (dsSet M1 84 43 0) Q) (k2 : ((0 ≤ x2 ∧ x2 ≤ (M 85 4) - 1)) → ∀ M1 : dsMem, R1 M1 → (¬ 0 ≤ (g1 M1)) → Q [uI (g1 M1)] M1) (k3 : (¬ (0 ≤ x2 ∧ x2 ≤ (M 85 4) - 1)) → Q [uI (-2)] M) :
    bB 292 0 [uR 11 84, uI x1, uI x2, uX 0, uX 0, uX 0] [] M Q := by
  refine b_aload_n (d292 (j := 0) rfl) rfl ?_
  refine b_iload_n (d292 (j := 1) rfl) rfl ?_
  refine b_i2l (d292 (j := 2) rfl) ?_
  refine b_callV (d292 (j := 3) rfl) rfl rfl (Or.inl rfl) rfl (bCk_mk (n := 0) (k := 3) (by decide +kernel) rfl rfl) (pu190 s1 ?_)
  refine b_stk [uI (if (0 ≤ x2 ∧ x2 ≤ (M 85 4) - 1) then 1 else 0)] rfl ?_
  refine b_ifneP (d292 (j := 4) rfl) (fun c1 => ?_) (fun c1 => ?_)
  ·
    refine b_aload_n (d292 (j := 7) rfl) rfl ?_
    refine b_iload_n (d292 (j := 8) rfl) rfl ?_
    refine b_callV (d292 (j := 9) rfl) rfl rfl (Or.inl rfl) rfl (bCk_mk (n := 0) (k := 2) (by decide +kernel) rfl rfl) ((hA1 c1) _ (fun M1 hR1 => ?_))
    refine b_stk [uI (g1 M1)] rfl ?_
    refine b_istore_n [uR 11 84, uI x1, uI x2, uI (g1 M1), uX 0, uX 0] (d292 (j := 10) rfl) (by decide) rfl ?_
    refine b_iload_n (d292 (j := 11) rfl) rfl ?_
    refine b_if_ge (d292 (j := 12) rfl) (fun c2 => ?_) (fun c2 => ?_)
    ·
      refine b_aload_n (d292 (j := 15) rfl) rfl ?_
      refine b_iconst (d292 (j := 16) rfl) (by decide) ?_
      refine b_putI (d292 (j := 17) rfl) rfl ⟨rfl, rfl⟩ rfl rfl ?_
      refine b_iconst (d292 (j := 18) rfl) (by decide) ?_
      refine b_istore [uR 11 84, uI x1, uI x2, uI (g1 M1), uI 1, uX 0] (d292 (j := 19) rfl) (by decide) rfl ?_
      exact bB_le _ (bLe_s (bLe_s (bLe_s (bLe_x (bLe_s (bLe_s bLe_nil)))))) (k1 c1 M1 hR1 c2)
    ·
      refine b_iload_n (d292 (j := 13) rfl) rfl ?_
      exact b_iret (d292 (j := 14) rfl) rfl (k2 c1 M1 hR1 c2)
  ·
    refine b_bipush (d292 (j := 5) rfl) (by decide) ?_
    exact b_iret (d292 (j := 6) rfl) rfl (k3 c1)
set_option maxRecDepth 100000 in
set_option maxHeartbeats 4000000 in
theorem r292_32 {x1 x2 x4 : Int} {R1 : dsMem → Prop} {g1 : dsMem → Int} {M : dsMem} {Q : bQT} (k1 : (60 < x4) → Q [uI 0] M) (s1 : (¬ 60 < x4) → 0 ≤ x2 ∧ x2 < 6 := by intros; omega) (hA1 : (¬ 60 < x4) → bCt 291 [uR 11 84, uI x1, uX 0] (dsSet M 91 x2 x4) (fun M1 => [uI (g1 M1)]) R1) (s2 : (¬ 60 < x4) → ∀ M1 : dsMem, R1 M1 → (¬ (g1 M1) = 0) → 0 ≤ (M1 84 43) ∧ (M1 84 43) < 60 := by intros; omega) (k2 : (¬ 60 < x4) → ∀ M1 : dsMem, R1 M1 → (¬ (g1 M1) = 0) → bB 292 72 [uR 11 84, uI x1, uI x2, uX 0, uI x4, uI 0] [] (dsSet M1 108 (M1 84 43) x4) Q) (s3 : (¬ 60 < x4) → ∀ M1 : dsMem, R1 M1 → ((g1 M1) = 0) → -2147483648 ≤ x4 + 1 ∧ x4 + 1 < 2147483648 := by intros; omega) (k3 : (¬ 60 < x4) → ∀ M1 : dsMem, R1 M1 → ((g1 M1) = 0) → bB 292 32 [uR 11 84, uI x1, uI x2, uX 0, uI (x4 + 1), uX 0] [] M1 Q) :
    bB 292 32 [uR 11 84, uI x1, uI x2, uX 0, uI x4, uX 0] [] M Q := by
  refine b_iload (d292 (j := 20) rfl) rfl ?_
  refine b_bipush (d292 (j := 21) rfl) (by decide) ?_
  refine b_icmp_gt (d292 (j := 22) rfl) (fun c1 => ?_) (fun c1 => ?_)
  ·
    refine b_iconst (d292 (j := 68) rfl) (by decide) ?_
    exact b_iret (d292 (j := 69) rfl) rfl (k1 c1)
  ·
    refine b_aload_n (d292 (j := 23) rfl) rfl ?_
    refine b_getR (d292 (j := 24) rfl) rfl rfl rfl rfl ?_
    refine b_stk [uR 21 91] rfl ?_
    refine b_iload_n (d292 (j := 25) rfl) rfl ?_
    refine b_iload (d292 (j := 26) rfl) rfl ?_
    refine b_iastore (d292 (j := 27) rfl) rfl (s1 c1) ?_
    refine b_aload_n (d292 (j := 28) rfl) rfl ?_
    refine b_iload_n (d292 (j := 29) rfl) rfl ?_
    refine b_callV (d292 (j := 30) rfl) rfl rfl (Or.inl rfl) rfl (bCk_mk (n := 0) (k := 2) (by decide +kernel) rfl rfl) ((hA1 c1) _ (fun M1 hR1 => ?_))
    refine b_stk [uI (g1 M1)] rfl ?_
    refine b_if_ne (d292 (j := 31) rfl) (fun c2 => ?_) (fun c2 => ?_)
    ·
      refine b_aload_n (d292 (j := 33) rfl) rfl ?_
      refine b_getR (d292 (j := 34) rfl) rfl rfl rfl rfl ?_
      refine b_stk [uR 30 108] rfl ?_
      refine b_aload_n (d292 (j := 35) rfl) rfl ?_
      refine b_getI (d292 (j := 36) rfl) rfl rfl rfl rfl (Or.inl rfl) ?_
      refine b_stk [uI (M1 84 43), uR 30 108] rfl ?_
      refine b_iload (d292 (j := 37) rfl) rfl ?_
      refine b_iastore (d292 (j := 38) rfl) rfl (s2 c1 M1 hR1 c2) ?_
      refine b_iconst (d292 (j := 39) rfl) (by decide) ?_
      refine b_istore [uR 11 84, uI x1, uI x2, uX 0, uI x4, uI 0] (d292 (j := 40) rfl) (by decide) rfl ?_
      exact (k2 c1 M1 hR1 c2)
    ·
      refine b_goto (d292 (j := 32) rfl) ?_
      refine b_iinc [uR 11 84, uI x1, uI x2, uX 0, uI (x4 + 1), uX 0] (d292 (j := 66) rfl) rfl (by decide) (s3 c1 M1 hR1 c2) rfl ?_
      refine b_goto (d292 (j := 67) rfl) ?_
      exact (k3 c1 M1 hR1 c2)
set_option maxRecDepth 100000 in
set_option maxHeartbeats 4000000 in
theorem r292_72 {x1 x2 x4 x5 : Int}  {M : dsMem} {Q : bQT} (s1 : ((M 85 0) < x5) → -2147483648 ≤ ((M 84 43) + 1) ∧ ((M 84 43) + 1) < 2147483648 := by intros; omega) (s2 : ((M 85 0) < x5) → -2147483648 ≤ x4 + 1 ∧ x4 + 1 < 2147483648 := by intros; omega) (k1 : ((M 85 0) < x5) → bB 292 32 [uR 11 84, uI x1, uI x2, uX 0, uI (x4 + 1), uX 0] [] (dsSet M 84 43 ((M 84 43) + 1)) Q) (s3 : (¬ (M 85 0) < x5) → 0 ≤ ((6 * x5) + x2) ∧ ((6 * x5) + x2) < 78 := by intros; omega) (s4 : (¬ (M 85 0) < x5) → 0 ≤ ((13 * (M 84 43)) + x5) ∧ ((13 * (M 84 43)) + x5) < 780 := by intros; omega) (s5 : (¬ (M 85 0) < x5) → -2147483648 ≤ x5 + 1 ∧ x5 + 1 < 2147483648 := by intros; omega) (k2 : (¬ (M 85 0) < x5) → bB 292 72 [uR 11 84, uI x1, uI x2, uX 0, uI x4, uI (x5 + 1)] [] (dsSet M 109 ((13 * (M 84 43)) + x5) (M 102 ((6 * x5) + x2))) Q) :
    bB 292 72 [uR 11 84, uI x1, uI x2, uX 0, uI x4, uI x5] [] M Q := by
  refine b_iload (d292 (j := 41) rfl) rfl ?_
  refine b_aload_n (d292 (j := 42) rfl) rfl ?_
  refine b_callV (d292 (j := 43) rfl) rfl rfl (Or.inl rfl) rfl (bCk_mk (n := 1) (k := 1) (by decide +kernel) rfl rfl) (pu183  ?_)
  refine b_stk [uI (M 85 0), uI x5] rfl ?_
  refine b_icmp_gt (d292 (j := 44) rfl) (fun c1 => ?_) (fun c1 => ?_)
  ·
    refine b_aload_n (d292 (j := 60) rfl) rfl ?_
    refine b_dup (d292 (j := 61) rfl) rfl ?_
    refine b_getI (d292 (j := 62) rfl) rfl rfl rfl rfl (Or.inl rfl) ?_
    refine b_stk [uI (M 84 43), uR 11 84] rfl ?_
    refine b_iconst (d292 (j := 63) rfl) (by decide) ?_
    refine b_iadd (d292 (j := 64) rfl) rfl rfl ?_
    refine b_stk [uI ((M 84 43) + 1), uR 11 84] (by rw [dsw_r (s1 c1)]) ?_
    refine b_putI (d292 (j := 65) rfl) rfl ⟨rfl, rfl⟩ rfl rfl ?_
    refine b_iinc [uR 11 84, uI x1, uI x2, uX 0, uI (x4 + 1), uI x5] (d292 (j := 66) rfl) rfl (by decide) (s2 c1) rfl ?_
    refine b_goto (d292 (j := 67) rfl) ?_
    exact bB_le _ (bLe_s (bLe_s (bLe_s (bLe_s (bLe_s (bLe_x bLe_nil)))))) (k1 c1)
  ·
    refine b_aload_n (d292 (j := 45) rfl) rfl ?_
    refine b_getR (d292 (j := 46) rfl) rfl rfl rfl rfl ?_
    refine b_stk [uR 31 109] rfl ?_
    refine b_bipush (d292 (j := 47) rfl) (by decide) ?_
    refine b_aload_n (d292 (j := 48) rfl) rfl ?_
    refine b_getI (d292 (j := 49) rfl) rfl rfl rfl rfl (Or.inl rfl) ?_
    refine b_stk [uI (M 84 43), uI 13, uR 31 109] rfl ?_
    refine b_imul (d292 (j := 50) rfl) rfl rfl ?_
    refine b_iload (d292 (j := 51) rfl) rfl ?_
    refine b_iadd (d292 (j := 52) rfl) (dsw_dsw _) rfl ?_
    refine b_aload_n (d292 (j := 53) rfl) rfl ?_
    refine b_iload_n (d292 (j := 54) rfl) rfl ?_
    refine b_iload (d292 (j := 55) rfl) rfl ?_
    refine b_callV (d292 (j := 56) rfl) rfl rfl (Or.inl rfl) rfl (bCk_mk (n := 2) (k := 3) (by decide +kernel) rfl rfl) (pu240 (s3 c1) ?_)
    refine b_stk [uI (M 102 ((6 * x5) + x2)), uI (dsw (((13 * (M 84 43)) + x5))), uR 31 109] rfl ?_
    refine b_stk [uI (M 102 ((6 * x5) + x2)), uI ((13 * (M 84 43)) + x5), uR 31 109] (by rw [dsw_b (s4 c1) (by decide)]) ?_
    refine b_iastore (d292 (j := 57) rfl) rfl (s4 c1) ?_
    refine b_iinc [uR 11 84, uI x1, uI x2, uX 0, uI x4, uI (x5 + 1)] (d292 (j := 58) rfl) rfl (by decide) (s5 c1) rfl ?_
    refine b_goto (d292 (j := 59) rfl) ?_
    exact (k2 c1)
def L293 : List (Nat × Instr × Nat × Nat) := [(0, .aload_n 0, 1, 0), (1, .iload_n 1, 2, 0), (2, .iload_n 2, 3, 0), (3, .invokevirtual 435, 6, 0), (6, .istore_n 3, 7, 0), (7, .iload_n 3, 8, 0), (8, .ifCond .ge 7, 11, 15), (11, .iload_n 3, 12, 0), (12, .goto 7, 15, 19), (15, .aload_n 0, 16, 0), (16, .getfield 429, 19, 0), (19, .ireturn, 20, 0)]
set_option maxRecDepth 100000 in
theorem L293_ok : L293.all (dck 293) = true := by decide +kernel
theorem d293 {j pc nx tg : Nat} {ins : Instr} (hj : L293[j]? = some (pc, ins, nx, tg)) : dcd 293 pc ins nx tg := dcl_ok L293_ok hj
set_option maxRecDepth 100000 in
set_option maxHeartbeats 4000000 in
theorem r293_0 {x1 x2 : Int} {R1 : dsMem → Prop} {g1 : dsMem → Int} {M : dsMem} {Q : bQT} (hA1 : bCt 292 [uR 11 84, uI x1, uI x2, uX 0, uX 0, uX 0] M (fun M1 => [uI (g1 M1)]) R1) (k1 : ∀ M1 : dsMem, R1 M1 → (0 ≤ (g1 M1)) → Q [uI (M1 84 43)] M1) (k2 : ∀ M1 : dsMem, R1 M1 → (¬ 0 ≤ (g1 M1)) → Q [uI (g1 M1)] M1) :
    bB 293 0 [uR 11 84, uI x1, uI x2, uX 0] [] M Q := by
  refine b_aload_n (d293 (j := 0) rfl) rfl ?_
  refine b_iload_n (d293 (j := 1) rfl) rfl ?_
  refine b_iload_n (d293 (j := 2) rfl) rfl ?_
  refine b_callV (d293 (j := 3) rfl) rfl rfl (Or.inl rfl) rfl (bCk_mk (n := 0) (k := 3) (by decide +kernel) rfl rfl) ((hA1) _ (fun M1 hR1 => ?_))
  refine b_stk [uI (g1 M1)] rfl ?_
  refine b_istore_n [uR 11 84, uI x1, uI x2, uI (g1 M1)] (d293 (j := 4) rfl) (by decide) rfl ?_
  refine b_iload_n (d293 (j := 5) rfl) rfl ?_
  refine b_if_ge (d293 (j := 6) rfl) (fun c1 => ?_) (fun c1 => ?_)
  ·
    refine b_aload_n (d293 (j := 9) rfl) rfl ?_
    refine b_getI (d293 (j := 10) rfl) rfl rfl rfl rfl (Or.inl rfl) ?_
    refine b_stk [uI (M1 84 43)] rfl ?_
    exact b_iret (d293 (j := 11) rfl) rfl (k1 M1 hR1 c1)
  ·
    refine b_iload_n (d293 (j := 7) rfl) rfl ?_
    refine b_goto (d293 (j := 8) rfl) ?_
    exact b_iret (d293 (j := 11) rfl) rfl (k2 M1 hR1 c1)
def L294 : List (Nat × Instr × Nat × Nat) := [(0, .aload_n 0, 1, 0), (1, .iload_n 1, 2, 0), (2, .iload_n 2, 3, 0), (3, .invokevirtual 435, 6, 0), (6, .istore_n 3, 7, 0), (7, .iload_n 3, 8, 0), (8, .ifCond .ge 7, 11, 15), (11, .iload_n 3, 12, 0), (12, .goto 20, 15, 32), (15, .aload_n 0, 16, 0), (16, .getfield 429, 19, 0), (19, .ifCond .ne 7, 22, 26), (22, .iconst (-1), 23, 0), (23, .goto 9, 26, 32), (26, .aload_n 0, 27, 0), (27, .getfield 85, 30, 0), (30, .iconst 0, 31, 0), (31, .iaload, 32, 0), (32, .ireturn, 33, 0)]
set_option maxRecDepth 100000 in
theorem L294_ok : L294.all (dck 294) = true := by decide +kernel
theorem d294 {j pc nx tg : Nat} {ins : Instr} (hj : L294[j]? = some (pc, ins, nx, tg)) : dcd 294 pc ins nx tg := dcl_ok L294_ok hj
set_option maxRecDepth 100000 in
set_option maxHeartbeats 4000000 in
theorem r294_0 {x1 x2 : Int} {R1 : dsMem → Prop} {g1 : dsMem → Int} {M : dsMem} {Q : bQT} (hA1 : bCt 292 [uR 11 84, uI x1, uI x2, uX 0, uX 0, uX 0] M (fun M1 => [uI (g1 M1)]) R1) (k1 : ∀ M1 : dsMem, R1 M1 → (0 ≤ (g1 M1)) → (¬ (M1 84 43) = 0) → Q [uI (M1 108 0)] M1) (k2 : ∀ M1 : dsMem, R1 M1 → (0 ≤ (g1 M1)) → ((M1 84 43) = 0) → Q [uI (-1)] M1) (k3 : ∀ M1 : dsMem, R1 M1 → (¬ 0 ≤ (g1 M1)) → Q [uI (g1 M1)] M1) :
    bB 294 0 [uR 11 84, uI x1, uI x2, uX 0] [] M Q := by
  refine b_aload_n (d294 (j := 0) rfl) rfl ?_
  refine b_iload_n (d294 (j := 1) rfl) rfl ?_
  refine b_iload_n (d294 (j := 2) rfl) rfl ?_
  refine b_callV (d294 (j := 3) rfl) rfl rfl (Or.inl rfl) rfl (bCk_mk (n := 0) (k := 3) (by decide +kernel) rfl rfl) ((hA1) _ (fun M1 hR1 => ?_))
  refine b_stk [uI (g1 M1)] rfl ?_
  refine b_istore_n [uR 11 84, uI x1, uI x2, uI (g1 M1)] (d294 (j := 4) rfl) (by decide) rfl ?_
  refine b_iload_n (d294 (j := 5) rfl) rfl ?_
  refine b_if_ge (d294 (j := 6) rfl) (fun c1 => ?_) (fun c1 => ?_)
  ·
    refine b_aload_n (d294 (j := 9) rfl) rfl ?_
    refine b_getI (d294 (j := 10) rfl) rfl rfl rfl rfl (Or.inl rfl) ?_
    refine b_stk [uI (M1 84 43)] rfl ?_
    refine b_if_ne (d294 (j := 11) rfl) (fun c2 => ?_) (fun c2 => ?_)
    ·
      refine b_aload_n (d294 (j := 14) rfl) rfl ?_
      refine b_getR (d294 (j := 15) rfl) rfl rfl rfl rfl ?_
      refine b_stk [uR 30 108] rfl ?_
      refine b_iconst (d294 (j := 16) rfl) (by decide) ?_
      refine b_iaload (d294 (j := 17) rfl) rfl (by decide) ?_
      exact b_iret (d294 (j := 18) rfl) rfl (k1 M1 hR1 c1 c2)
    ·
      refine b_iconst (d294 (j := 12) rfl) (by decide) ?_
      refine b_goto (d294 (j := 13) rfl) ?_
      exact b_iret (d294 (j := 18) rfl) rfl (k2 M1 hR1 c1 c2)
  ·
    refine b_iload_n (d294 (j := 7) rfl) rfl ?_
    refine b_goto (d294 (j := 8) rfl) ?_
    exact b_iret (d294 (j := 18) rfl) rfl (k3 M1 hR1 c1)
def L295 : List (Nat × Instr × Nat × Nat) := [(0, .aload_n 0, 1, 0), (1, .iload_n 1, 2, 0), (2, .iload_n 2, 3, 0), (3, .invokevirtual 435, 6, 0), (6, .istore_n 3, 7, 0), (7, .iload_n 3, 8, 0), (8, .ifCond .ge 7, 11, 15), (11, .iload_n 3, 12, 0), (12, .goto 25, 15, 37), (15, .aload_n 0, 16, 0), (16, .getfield 429, 19, 0), (19, .ifCond .ne 7, 22, 26), (22, .iconst (-1), 23, 0), (23, .goto 14, 26, 37), (26, .aload_n 0, 27, 0), (27, .getfield 85, 30, 0), (30, .aload_n 0, 31, 0), (31, .getfield 429, 34, 0), (34, .iconst 1, 35, 0), (35, .isub, 36, 0), (36, .iaload, 37, 0), (37, .ireturn, 38, 0)]
set_option maxRecDepth 100000 in
theorem L295_ok : L295.all (dck 295) = true := by decide +kernel
theorem d295 {j pc nx tg : Nat} {ins : Instr} (hj : L295[j]? = some (pc, ins, nx, tg)) : dcd 295 pc ins nx tg := dcl_ok L295_ok hj
set_option maxRecDepth 100000 in
set_option maxHeartbeats 4000000 in
theorem r295_0 {x1 x2 : Int} {R1 : dsMem → Prop} {g1 : dsMem → Int} {M : dsMem} {Q : bQT} (hA1 : bCt 292 [uR 11 84, uI x1, uI x2, uX 0, uX 0, uX 0] M (fun M1 => [uI (g1 M1)]) R1) (s1 : ∀ M1 : dsMem, R1 M1 → (0 ≤ (g1 M1)) → (¬ (M1 84 43) = 0) → 0 ≤ ((M1 84 43) - 1) ∧ ((M1 84 43) - 1) < 60 := by intros; omega) (k1 : ∀ M1 : dsMem, R1 M1 → (0 ≤ (g1 M1)) → (¬ (M1 84 43) = 0) → Q [uI (M1 108 ((M1 84 43) - 1))] M1) (k2 : ∀ M1 : dsMem, R1 M1 → (0 ≤ (g1 M1)) → ((M1 84 43) = 0) → Q [uI (-1)] M1) (k3 : ∀ M1 : dsMem, R1 M1 → (¬ 0 ≤ (g1 M1)) → Q [uI (g1 M1)] M1) :
    bB 295 0 [uR 11 84, uI x1, uI x2, uX 0] [] M Q := by
  refine b_aload_n (d295 (j := 0) rfl) rfl ?_
  refine b_iload_n (d295 (j := 1) rfl) rfl ?_
  refine b_iload_n (d295 (j := 2) rfl) rfl ?_
  refine b_callV (d295 (j := 3) rfl) rfl rfl (Or.inl rfl) rfl (bCk_mk (n := 0) (k := 3) (by decide +kernel) rfl rfl) ((hA1) _ (fun M1 hR1 => ?_))
  refine b_stk [uI (g1 M1)] rfl ?_
  refine b_istore_n [uR 11 84, uI x1, uI x2, uI (g1 M1)] (d295 (j := 4) rfl) (by decide) rfl ?_
  refine b_iload_n (d295 (j := 5) rfl) rfl ?_
  refine b_if_ge (d295 (j := 6) rfl) (fun c1 => ?_) (fun c1 => ?_)
  ·
    refine b_aload_n (d295 (j := 9) rfl) rfl ?_
    refine b_getI (d295 (j := 10) rfl) rfl rfl rfl rfl (Or.inl rfl) ?_
    refine b_stk [uI (M1 84 43)] rfl ?_
    refine b_if_ne (d295 (j := 11) rfl) (fun c2 => ?_) (fun c2 => ?_)
    ·
      refine b_aload_n (d295 (j := 14) rfl) rfl ?_
      refine b_getR (d295 (j := 15) rfl) rfl rfl rfl rfl ?_
      refine b_stk [uR 30 108] rfl ?_
      refine b_aload_n (d295 (j := 16) rfl) rfl ?_
      refine b_getI (d295 (j := 17) rfl) rfl rfl rfl rfl (Or.inl rfl) ?_
      refine b_stk [uI (M1 84 43), uR 30 108] rfl ?_
      refine b_iconst (d295 (j := 18) rfl) (by decide) ?_
      refine b_isub (d295 (j := 19) rfl) rfl rfl ?_
      refine b_stk [uI ((M1 84 43) - 1), uR 30 108] (by rw [dsw_b (s1 M1 hR1 c1 c2) (by decide)]) ?_
      refine b_iaload (d295 (j := 20) rfl) rfl (s1 M1 hR1 c1 c2) ?_
      exact b_iret (d295 (j := 21) rfl) rfl (k1 M1 hR1 c1 c2)
    ·
      refine b_iconst (d295 (j := 12) rfl) (by decide) ?_
      refine b_goto (d295 (j := 13) rfl) ?_
      exact b_iret (d295 (j := 21) rfl) rfl (k2 M1 hR1 c1 c2)
  ·
    refine b_iload_n (d295 (j := 7) rfl) rfl ?_
    refine b_goto (d295 (j := 8) rfl) ?_
    exact b_iret (d295 (j := 21) rfl) rfl (k3 M1 hR1 c1)
def L297 : List (Nat × Instr × Nat × Nat) := [(0, .aload_n 0, 1, 0), (1, .aload_n 0, 2, 0), (2, .getfield 429, 5, 0), (5, .putfield 438, 8, 0), (8, .iconst (-1), 9, 0), (9, .istore_n 1, 10, 0), (10, .iconst 0, 11, 0), (11, .istore_n 2, 12, 0), (12, .iload_n 2, 13, 0), (13, .aload_n 0, 14, 0), (14, .invokevirtual 124, 17, 0), (17, .if_icmp .gt 33, 20, 50), (20, .aload_n 0, 21, 0), (21, .iload_n 2, 22, 0), (22, .invokevirtual 441, 25, 0), (25, .istore_n 3, 26, 0), (26, .iload_n 3, 27, 0), (27, .aload_n 0, 28, 0), (28, .getfield 438, 31, 0), (31, .if_icmp .lt 6, 34, 37), (34, .goto 10, 37, 44), (37, .aload_n 0, 38, 0), (38, .iload_n 3, 39, 0), (39, .putfield 438, 42, 0), (42, .iload_n 2, 43, 0), (43, .istore_n 1, 44, 0), (44, .iinc 2 1, 47, 0), (47, .goto (-35), 50, 12), (50, .iload_n 1, 51, 0), (51, .ireturn, 52, 0)]
set_option maxRecDepth 100000 in
theorem L297_ok : L297.all (dck 297) = true := by decide +kernel
theorem d297 {j pc nx tg : Nat} {ins : Instr} (hj : L297[j]? = some (pc, ins, nx, tg)) : dcd 297 pc ins nx tg := dcl_ok L297_ok hj
set_option maxRecDepth 100000 in
set_option maxHeartbeats 4000000 in
theorem r297_0   {M : dsMem} {Q : bQT} (k1 : bB 297 12 [uR 11 84, uI (-1), uI 0, uX 0] [] (dsSet M 84 44 (M 84 43)) Q) :
    bB 297 0 [uR 11 84, uX 0, uX 0, uX 0] [] M Q := by
  refine b_aload_n (d297 (j := 0) rfl) rfl ?_
  refine b_aload_n (d297 (j := 1) rfl) rfl ?_
  refine b_getI (d297 (j := 2) rfl) rfl rfl rfl rfl (Or.inl rfl) ?_
  refine b_stk [uI (M 84 43), uR 11 84] rfl ?_
  refine b_putI (d297 (j := 3) rfl) rfl ⟨rfl, rfl⟩ rfl rfl ?_
  refine b_iconst (d297 (j := 4) rfl) (by decide) ?_
  refine b_istore_n [uR 11 84, uI (-1), uX 0, uX 0] (d297 (j := 5) rfl) (by decide) rfl ?_
  refine b_iconst (d297 (j := 6) rfl) (by decide) ?_
  refine b_istore_n [uR 11 84, uI (-1), uI 0, uX 0] (d297 (j := 7) rfl) (by decide) rfl ?_
  exact k1
set_option maxRecDepth 100000 in
set_option maxHeartbeats 4000000 in
theorem r297_12 {x1 x2 : Int}  {M : dsMem} {Q : bQT} (k1 : ((M 85 0) < x2) → Q [uI x1] M) (s1 : (¬ (M 85 0) < x2) → ∀ i296_1 : Int, ∀ a296_1 : Int, 0 ≤ i296_1 → i296_1 < 61 → ∀ i296_2 : Int, ∀ a296_2 : Int, 0 ≤ i296_2 → i296_2 < (M 84 43) → 0 ≤ ((13 * i296_2) + x2) ∧ ((13 * i296_2) + x2) < 780 := by intros; omega) (s2 : (¬ (M 85 0) < x2) → ∀ i296_1 : Int, ∀ a296_1 : Int, 0 ≤ i296_1 → i296_1 < 61 → ∀ i296_2 : Int, ∀ a296_2 : Int, 0 ≤ i296_2 → i296_2 < (M 84 43) → -2147483648 ≤ i296_2 + 1 ∧ i296_2 + 1 < 2147483648 := by intros; omega) (s3 : (¬ (M 85 0) < x2) → ∀ i296_1 : Int, ∀ a296_1 : Int, 0 ≤ i296_1 → i296_1 < 61 → -2147483648 ≤ i296_1 + 1 ∧ i296_1 + 1 < 2147483648 := by intros; omega) (s4 : (¬ (M 85 0) < x2) → ((v296 M x2) < (M 84 44)) → -2147483648 ≤ x2 + 1 ∧ x2 + 1 < 2147483648 := by intros; omega) (k2 : (¬ (M 85 0) < x2) → ((v296 M x2) < (M 84 44)) → bB 297 12 [uR 11 84, uI x2, uI (x2 + 1), uX 0] [] (dsSet M 84 44 (v296 M x2)) Q) (s5 : (¬ (M 85 0) < x2) → (¬ (v296 M x2) < (M 84 44)) → -2147483648 ≤ x2 + 1 ∧ x2 + 1 < 2147483648 := by intros; omega) (k3 : (¬ (M 85 0) < x2) → (¬ (v296 M x2) < (M 84 44)) → bB 297 12 [uR 11 84, uI x1, uI (x2 + 1), uX 0] [] M Q) :
    bB 297 12 [uR 11 84, uI x1, uI x2, uX 0] [] M Q := by
  refine b_iload_n (d297 (j := 8) rfl) rfl ?_
  refine b_aload_n (d297 (j := 9) rfl) rfl ?_
  refine b_callV (d297 (j := 10) rfl) rfl rfl (Or.inl rfl) rfl (bCk_mk (n := 1) (k := 1) (by decide +kernel) rfl rfl) (pu183  ?_)
  refine b_stk [uI (M 85 0), uI x2] rfl ?_
  refine b_icmp_gt (d297 (j := 11) rfl) (fun c1 => ?_) (fun c1 => ?_)
  ·
    refine b_iload_n (d297 (j := 28) rfl) rfl ?_
    exact b_iret (d297 (j := 29) rfl) rfl (k1 c1)
  ·
    refine b_aload_n (d297 (j := 12) rfl) rfl ?_
    refine b_iload_n (d297 (j := 13) rfl) rfl ?_
    refine b_callV (d297 (j := 14) rfl) rfl rfl (Or.inl rfl) rfl (bCk_mk (n := 0) (k := 2) (by decide +kernel) rfl rfl) (fx296 (s1 c1) (s2 c1) (s3 c1) ?_)
    refine b_stk [uI (v296 M x2)] rfl ?_
    refine b_istore_n [uR 11 84, uI x1, uI x2, uI (v296 M x2)] (d297 (j := 15) rfl) (by decide) rfl ?_
    refine b_iload_n (d297 (j := 16) rfl) rfl ?_
    refine b_aload_n (d297 (j := 17) rfl) rfl ?_
    refine b_getI (d297 (j := 18) rfl) rfl rfl rfl rfl (Or.inl rfl) ?_
    refine b_stk [uI (M 84 44), uI (v296 M x2)] rfl ?_
    refine b_icmp_lt (d297 (j := 19) rfl) (fun c2 => ?_) (fun c2 => ?_)
    ·
      refine b_aload_n (d297 (j := 21) rfl) rfl ?_
      refine b_iload_n (d297 (j := 22) rfl) rfl ?_
      refine b_putI (d297 (j := 23) rfl) rfl ⟨rfl, rfl⟩ rfl rfl ?_
      refine b_iload_n (d297 (j := 24) rfl) rfl ?_
      refine b_istore_n [uR 11 84, uI x2, uI x2, uI (v296 M x2)] (d297 (j := 25) rfl) (by decide) rfl ?_
      refine b_iinc [uR 11 84, uI x2, uI (x2 + 1), uI (v296 M x2)] (d297 (j := 26) rfl) rfl (by decide) (s4 c1 c2) rfl ?_
      refine b_goto (d297 (j := 27) rfl) ?_
      exact bB_le _ (bLe_s (bLe_s (bLe_s (bLe_x bLe_nil)))) (k2 c1 c2)
    ·
      refine b_goto (d297 (j := 20) rfl) ?_
      refine b_iinc [uR 11 84, uI x1, uI (x2 + 1), uI (v296 M x2)] (d297 (j := 26) rfl) rfl (by decide) (s5 c1 c2) rfl ?_
      refine b_goto (d297 (j := 27) rfl) ?_
      exact bB_le _ (bLe_s (bLe_s (bLe_s (bLe_x bLe_nil)))) (k3 c1 c2)
def L298 : List (Nat × Instr × Nat × Nat) := [(0, .aload_n 0, 1, 0), (1, .iload_n 1, 2, 0), (2, .iload_n 2, 3, 0), (3, .invokevirtual 435, 6, 0), (6, .istore_n 3, 7, 0), (7, .iload_n 3, 8, 0), (8, .ifCond .ge 7, 11, 15), (11, .iload_n 3, 12, 0), (12, .goto 7, 15, 19), (15, .aload_n 0, 16, 0), (16, .invokevirtual 444, 19, 0), (19, .ireturn, 20, 0)]
set_option maxRecDepth 100000 in
theorem L298_ok : L298.all (dck 298) = true := by decide +kernel
theorem d298 {j pc nx tg : Nat} {ins : Instr} (hj : L298[j]? = some (pc, ins, nx, tg)) : dcd 298 pc ins nx tg := dcl_ok L298_ok hj
set_option maxRecDepth 100000 in
set_option maxHeartbeats 4000000 in
theorem r298_0 {x1 x2 : Int} {R1 : dsMem → Prop} {g1 : dsMem → Int} {R2 : dsMem → dsMem → Prop} {g2 : dsMem → dsMem → Int} {M : dsMem} {Q : bQT} (hA1 : bCt 292 [uR 11 84, uI x1, uI x2, uX 0, uX 0, uX 0] M (fun M1 => [uI (g1 M1)]) R1) (hA2 : ∀ M1 : dsMem, R1 M1 → (0 ≤ (g1 M1)) → bCt 297 [uR 11 84, uX 0, uX 0, uX 0] M1 (fun M2 => [uI (g2 M1 M2)]) (R2 M1)) (k1 : ∀ M1 : dsMem, R1 M1 → (0 ≤ (g1 M1)) → ∀ M2 : dsMem, R2 M1 M2 → Q [uI (g2 M1 M2)] M2) (k2 : ∀ M1 : dsMem, R1 M1 → (¬ 0 ≤ (g1 M1)) → Q [uI (g1 M1)] M1) :
    bB 298 0 [uR 11 84, uI x1, uI x2, uX 0] [] M Q := by
  refine b_aload_n (d298 (j := 0) rfl) rfl ?_
  refine b_iload_n (d298 (j := 1) rfl) rfl ?_
  refine b_iload_n (d298 (j := 2) rfl) rfl ?_
  refine b_callV (d298 (j := 3) rfl) rfl rfl (Or.inl rfl) rfl (bCk_mk (n := 0) (k := 3) (by decide +kernel) rfl rfl) ((hA1) _ (fun M1 hR1 => ?_))
  refine b_stk [uI (g1 M1)] rfl ?_
  refine b_istore_n [uR 11 84, uI x1, uI x2, uI (g1 M1)] (d298 (j := 4) rfl) (by decide) rfl ?_
  refine b_iload_n (d298 (j := 5) rfl) rfl ?_
  refine b_if_ge (d298 (j := 6) rfl) (fun c1 => ?_) (fun c1 => ?_)
  ·
    refine b_aload_n (d298 (j := 9) rfl) rfl ?_
    refine b_callV (d298 (j := 10) rfl) rfl rfl (Or.inl rfl) rfl (bCk_mk (n := 0) (k := 1) (by decide +kernel) rfl rfl) ((hA2 M1 hR1 c1) _ (fun M2 hR2 => ?_))
    refine b_stk [uI (g2 M1 M2)] rfl ?_
    exact b_iret (d298 (j := 11) rfl) rfl (k1 M1 hR1 c1 M2 hR2)
  ·
    refine b_iload_n (d298 (j := 7) rfl) rfl ?_
    refine b_goto (d298 (j := 8) rfl) ?_
    exact b_iret (d298 (j := 11) rfl) rfl (k2 M1 hR1 c1)
def L299 : List (Nat × Instr × Nat × Nat) := [(0, .aload_n 0, 1, 0), (1, .iload_n 1, 2, 0), (2, .iload_n 2, 3, 0), (3, .invokevirtual 435, 6, 0), (6, .istore_n 3, 7, 0), (7, .iload_n 3, 8, 0), (8, .ifCond .ge 5, 11, 13), (11, .iload_n 3, 12, 0), (12, .ireturn, 13, 0), (13, .aload_n 0, 14, 0), (14, .invokevirtual 444, 17, 0), (17, .pop, 18, 0), (18, .aload_n 0, 19, 0), (19, .getfield 438, 22, 0), (22, .ireturn, 23, 0)]
set_option maxRecDepth 100000 in
theorem L299_ok : L299.all (dck 299) = true := by decide +kernel
theorem d299 {j pc nx tg : Nat} {ins : Instr} (hj : L299[j]? = some (pc, ins, nx, tg)) : dcd 299 pc ins nx tg := dcl_ok L299_ok hj
set_option maxRecDepth 100000 in
set_option maxHeartbeats 4000000 in
theorem r299_0 {x1 x2 : Int} {R1 : dsMem → Prop} {g1 : dsMem → Int} {R2 : dsMem → dsMem → Prop} {g2 : dsMem → dsMem → Int} {M : dsMem} {Q : bQT} (hA1 : bCt 292 [uR 11 84, uI x1, uI x2, uX 0, uX 0, uX 0] M (fun M1 => [uI (g1 M1)]) R1) (hA2 : ∀ M1 : dsMem, R1 M1 → (0 ≤ (g1 M1)) → bCt 297 [uR 11 84, uX 0, uX 0, uX 0] M1 (fun M2 => [uI (g2 M1 M2)]) (R2 M1)) (k1 : ∀ M1 : dsMem, R1 M1 → (0 ≤ (g1 M1)) → ∀ M2 : dsMem, R2 M1 M2 → Q [uI (M2 84 44)] M2) (k2 : ∀ M1 : dsMem, R1 M1 → (¬ 0 ≤ (g1 M1)) → Q [uI (g1 M1)] M1) :
    bB 299 0 [uR 11 84, uI x1, uI x2, uX 0] [] M Q := by
  refine b_aload_n (d299 (j := 0) rfl) rfl ?_
  refine b_iload_n (d299 (j := 1) rfl) rfl ?_
  refine b_iload_n (d299 (j := 2) rfl) rfl ?_
  refine b_callV (d299 (j := 3) rfl) rfl rfl (Or.inl rfl) rfl (bCk_mk (n := 0) (k := 3) (by decide +kernel) rfl rfl) ((hA1) _ (fun M1 hR1 => ?_))
  refine b_stk [uI (g1 M1)] rfl ?_
  refine b_istore_n [uR 11 84, uI x1, uI x2, uI (g1 M1)] (d299 (j := 4) rfl) (by decide) rfl ?_
  refine b_iload_n (d299 (j := 5) rfl) rfl ?_
  refine b_if_ge (d299 (j := 6) rfl) (fun c1 => ?_) (fun c1 => ?_)
  ·
    refine b_aload_n (d299 (j := 9) rfl) rfl ?_
    refine b_callV (d299 (j := 10) rfl) rfl rfl (Or.inl rfl) rfl (bCk_mk (n := 0) (k := 1) (by decide +kernel) rfl rfl) ((hA2 M1 hR1 c1) _ (fun M2 hR2 => ?_))
    refine b_stk [uI (g2 M1 M2)] rfl ?_
    refine b_pop (d299 (j := 11) rfl) rfl ?_
    refine b_aload_n (d299 (j := 12) rfl) rfl ?_
    refine b_getI (d299 (j := 13) rfl) rfl rfl rfl rfl (Or.inl rfl) ?_
    refine b_stk [uI (M2 84 44)] rfl ?_
    exact b_iret (d299 (j := 14) rfl) rfl (k1 M1 hR1 c1 M2 hR2)
  ·
    refine b_iload_n (d299 (j := 7) rfl) rfl ?_
    exact b_iret (d299 (j := 8) rfl) rfl (k2 M1 hR1 c1)
def L300 : List (Nat × Instr × Nat × Nat) := [(0, .aload_n 0, 1, 0), (1, .iload_n 1, 2, 0), (2, .invokevirtual 426, 5, 0), (5, .istore_n 2, 6, 0), (6, .iload_n 2, 7, 0), (7, .ifCond .ge 5, 10, 12), (10, .iload_n 2, 11, 0), (11, .ireturn, 12, 0), (12, .iconst 0, 13, 0), (13, .istore_n 3, 14, 0), (14, .aload_n 0, 15, 0), (15, .iconst 0, 16, 0), (16, .putfield 277, 19, 0), (19, .aload_n 0, 20, 0), (20, .getfield 277, 23, 0), (23, .iconst 4, 24, 0), (24, .if_icmp .ge 37, 27, 61), (27, .iload_n 3, 28, 0), (28, .aload_n 0, 29, 0), (29, .iload_n 1, 30, 0), (30, .invokevirtual 432, 33, 0), (33, .ifCond .eq 12, 36, 45), (36, .iconst 1, 37, 0), (37, .aload_n 0, 38, 0), (38, .getfield 277, 41, 0), (41, .ishl, 42, 0), (42, .goto 4, 45, 46), (45, .iconst 0, 46, 0), (46, .ior, 47, 0), (47, .istore_n 3, 48, 0), (48, .aload_n 0, 49, 0), (49, .dup, 50, 0), (50, .getfield 277, 53, 0), (53, .iconst 1, 54, 0), (54, .iadd, 55, 0), (55, .putfield 277, 58, 0), (58, .goto (-39), 61, 19), (61, .iload_n 3, 62, 0), (62, .ireturn, 63, 0)]
set_option maxRecDepth 100000 in
theorem L300_ok : L300.all (dck 300) = true := by decide +kernel
theorem d300 {j pc nx tg : Nat} {ins : Instr} (hj : L300[j]? = some (pc, ins, nx, tg)) : dcd 300 pc ins nx tg := dcl_ok L300_ok hj
set_option maxRecDepth 100000 in
set_option maxHeartbeats 4000000 in
theorem r300_0 {x1 : Int} {R1 : dsMem → Prop} {g1 : dsMem → Int} {M : dsMem} {Q : bQT} (hA1 : bCt 290 [uR 11 84, uI x1, uX 0] M (fun M1 => [uI (g1 M1)]) R1) (k1 : ∀ M1 : dsMem, R1 M1 → (0 ≤ (g1 M1)) → bB 300 19 [uR 11 84, uI x1, uX 0, uI 0] [] (dsSet M1 84 17 0) Q) (k2 : ∀ M1 : dsMem, R1 M1 → (¬ 0 ≤ (g1 M1)) → Q [uI (g1 M1)] M1) :
    bB 300 0 [uR 11 84, uI x1, uX 0, uX 0] [] M Q := by
  refine b_aload_n (d300 (j := 0) rfl) rfl ?_
  refine b_iload_n (d300 (j := 1) rfl) rfl ?_
  refine b_callV (d300 (j := 2) rfl) rfl rfl (Or.inl rfl) rfl (bCk_mk (n := 0) (k := 2) (by decide +kernel) rfl rfl) ((hA1) _ (fun M1 hR1 => ?_))
  refine b_stk [uI (g1 M1)] rfl ?_
  refine b_istore_n [uR 11 84, uI x1, uI (g1 M1), uX 0] (d300 (j := 3) rfl) (by decide) rfl ?_
  refine b_iload_n (d300 (j := 4) rfl) rfl ?_
  refine b_if_ge (d300 (j := 5) rfl) (fun c1 => ?_) (fun c1 => ?_)
  ·
    refine b_iconst (d300 (j := 8) rfl) (by decide) ?_
    refine b_istore_n [uR 11 84, uI x1, uI (g1 M1), uI 0] (d300 (j := 9) rfl) (by decide) rfl ?_
    refine b_aload_n (d300 (j := 10) rfl) rfl ?_
    refine b_iconst (d300 (j := 11) rfl) (by decide) ?_
    refine b_putI (d300 (j := 12) rfl) rfl ⟨rfl, rfl⟩ rfl rfl ?_
    exact bB_le _ (bLe_s (bLe_s (bLe_x (bLe_s bLe_nil)))) (k1 M1 hR1 c1)
  ·
    refine b_iload_n (d300 (j := 6) rfl) rfl ?_
    exact b_iret (d300 (j := 7) rfl) rfl (k2 M1 hR1 c1)
set_option maxRecDepth 100000 in
set_option maxHeartbeats 4000000 in
theorem r300_19 {x1 x3 : Int} {R1 : dsMem → Prop} {g1 : dsMem → Int} {M : dsMem} {Q : bQT} (k1 : (4 ≤ (M 84 17)) → Q [uI x3] M) (hA1 : (¬ 4 ≤ (M 84 17)) → bCt 291 [uR 11 84, uI x1, uX 0] M (fun M1 => [uI (g1 M1)]) R1) (s1 : (¬ 4 ≤ (M 84 17)) → ∀ M1 : dsMem, R1 M1 → ((g1 M1) = 0) → -2147483648 ≤ ((M1 84 17) + 1) ∧ ((M1 84 17) + 1) < 2147483648 := by intros; omega) (k2 : (¬ 4 ≤ (M 84 17)) → ∀ M1 : dsMem, R1 M1 → ((g1 M1) = 0) → bB 300 19 [uR 11 84, uI x1, uX 0, uI (dsOr x3 0)] [] (dsSet M1 84 17 ((M1 84 17) + 1)) Q) (s2 : (¬ 4 ≤ (M 84 17)) → ∀ M1 : dsMem, R1 M1 → (¬ (g1 M1) = 0) → -2147483648 ≤ ((M1 84 17) + 1) ∧ ((M1 84 17) + 1) < 2147483648 := by intros; omega) (k3 : (¬ 4 ≤ (M 84 17)) → ∀ M1 : dsMem, R1 M1 → (¬ (g1 M1) = 0) → bB 300 19 [uR 11 84, uI x1, uX 0, uI (dsOr x3 (dsShl 1 (M1 84 17)))] [] (dsSet M1 84 17 ((M1 84 17) + 1)) Q) :
    bB 300 19 [uR 11 84, uI x1, uX 0, uI x3] [] M Q := by
  refine b_aload_n (d300 (j := 13) rfl) rfl ?_
  refine b_getI (d300 (j := 14) rfl) rfl rfl rfl rfl (Or.inl rfl) ?_
  refine b_stk [uI (M 84 17)] rfl ?_
  refine b_iconst (d300 (j := 15) rfl) (by decide) ?_
  refine b_icmp_ge (d300 (j := 16) rfl) (fun c1 => ?_) (fun c1 => ?_)
  ·
    refine b_iload_n (d300 (j := 37) rfl) rfl ?_
    exact b_iret (d300 (j := 38) rfl) rfl (k1 c1)
  ·
    refine b_iload_n (d300 (j := 17) rfl) rfl ?_
    refine b_aload_n (d300 (j := 18) rfl) rfl ?_
    refine b_iload_n (d300 (j := 19) rfl) rfl ?_
    refine b_callV (d300 (j := 20) rfl) rfl rfl (Or.inl rfl) rfl (bCk_mk (n := 1) (k := 2) (by decide +kernel) rfl rfl) ((hA1 c1) _ (fun M1 hR1 => ?_))
    refine b_stk [uI (g1 M1), uI x3] rfl ?_
    refine b_if_eq (d300 (j := 21) rfl) (fun c2 => ?_) (fun c2 => ?_)
    ·
      refine b_iconst (d300 (j := 27) rfl) (by decide) ?_
      refine b_ior (d300 (j := 28) rfl) ?_
      refine b_istore_n [uR 11 84, uI x1, uX 0, uI (dsOr x3 0)] (d300 (j := 29) rfl) (by decide) rfl ?_
      refine b_aload_n (d300 (j := 30) rfl) rfl ?_
      refine b_dup (d300 (j := 31) rfl) rfl ?_
      refine b_getI (d300 (j := 32) rfl) rfl rfl rfl rfl (Or.inl rfl) ?_
      refine b_stk [uI (M1 84 17), uR 11 84] rfl ?_
      refine b_iconst (d300 (j := 33) rfl) (by decide) ?_
      refine b_iadd (d300 (j := 34) rfl) rfl rfl ?_
      refine b_stk [uI ((M1 84 17) + 1), uR 11 84] (by rw [dsw_r (s1 c1 M1 hR1 c2)]) ?_
      refine b_putI (d300 (j := 35) rfl) rfl ⟨rfl, rfl⟩ rfl rfl ?_
      refine b_goto (d300 (j := 36) rfl) ?_
      exact (k2 c1 M1 hR1 c2)
    ·
      refine b_iconst (d300 (j := 22) rfl) (by decide) ?_
      refine b_aload_n (d300 (j := 23) rfl) rfl ?_
      refine b_getI (d300 (j := 24) rfl) rfl rfl rfl rfl (Or.inl rfl) ?_
      refine b_stk [uI (M1 84 17), uI 1, uI x3] rfl ?_
      refine b_ishl (d300 (j := 25) rfl) ?_
      refine b_goto (d300 (j := 26) rfl) ?_
      refine b_ior (d300 (j := 28) rfl) ?_
      refine b_istore_n [uR 11 84, uI x1, uX 0, uI (dsOr x3 (dsShl 1 (M1 84 17)))] (d300 (j := 29) rfl) (by decide) rfl ?_
      refine b_aload_n (d300 (j := 30) rfl) rfl ?_
      refine b_dup (d300 (j := 31) rfl) rfl ?_
      refine b_getI (d300 (j := 32) rfl) rfl rfl rfl rfl (Or.inl rfl) ?_
      refine b_stk [uI (M1 84 17), uR 11 84] rfl ?_
      refine b_iconst (d300 (j := 33) rfl) (by decide) ?_
      refine b_iadd (d300 (j := 34) rfl) rfl rfl ?_
      refine b_stk [uI ((M1 84 17) + 1), uR 11 84] (by rw [dsw_r (s2 c1 M1 hR1 c2)]) ?_
      refine b_putI (d300 (j := 35) rfl) rfl ⟨rfl, rfl⟩ rfl rfl ?_
      refine b_goto (d300 (j := 36) rfl) ?_
      exact (k3 c1 M1 hR1 c2)
def L301 : List (Nat × Instr × Nat × Nat) := [(0, .aload_n 0, 1, 0), (1, .iload_n 1, 2, 0), (2, .putfield 277, 5, 0), (5, .aload_n 0, 6, 0), (6, .invokevirtual 361, 9, 0), (9, .return_, 10, 0)]
set_option maxRecDepth 100000 in
theorem L301_ok : L301.all (dck 301) = true := by decide +kernel
theorem d301 {j pc nx tg : Nat} {ins : Instr} (hj : L301[j]? = some (pc, ins, nx, tg)) : dcd 301 pc ins nx tg := dcl_ok L301_ok hj
set_option maxRecDepth 100000 in
set_option maxHeartbeats 4000000 in
theorem r301_0 {x1 : Int} {R1 : dsMem → Prop} {M : dsMem} {Q : bQT} (hA1 : bCt 234 [uR 11 84, uX 0] (dsSet M 84 17 x1) (fun _ => []) R1) (k1 : ∀ M1 : dsMem, R1 M1 → Q [] M1) :
    bB 301 0 [uR 11 84, uI x1] [] M Q := by
  refine b_aload_n (d301 (j := 0) rfl) rfl ?_
  refine b_iload_n (d301 (j := 1) rfl) rfl ?_
  refine b_putI (d301 (j := 2) rfl) rfl ⟨rfl, rfl⟩ rfl rfl ?_
  refine b_aload_n (d301 (j := 3) rfl) rfl ?_
  refine b_callV (d301 (j := 4) rfl) rfl rfl (Or.inl rfl) rfl (bCk_mk (n := 0) (k := 1) (by decide +kernel) rfl rfl) ((hA1) _ (fun M1 hR1 => ?_))
  refine b_stk [] rfl ?_
  exact b_vret (d301 (j := 5) rfl) rfl (k1 M1 hR1)
def L302 : List (Nat × Instr × Nat × Nat) := [(0, .aload_n 0, 1, 0), (1, .invokevirtual 364, 4, 0), (4, .ifCond .eq 15, 7, 19), (7, .iload_n 1, 8, 0), (8, .i2l, 9, 0), (9, .lconst 0, 10, 0), (10, .ldc2_w 447, 13, 0), (13, .invokestatic 112, 16, 0), (16, .ifCond .ne 6, 19, 22), (19, .bipush (-2), 21, 0), (21, .ireturn, 22, 0), (22, .aload_n 0, 23, 0), (23, .iload_n 1, 24, 0), (24, .invokevirtual 449, 27, 0), (27, .aload_n 0, 28, 0), (28, .invokevirtual 414, 31, 0), (31, .ireturn, 32, 0)]
set_option maxRecDepth 100000 in
theorem L302_ok : L302.all (dck 302) = true := by decide +kernel
theorem d302 {j pc nx tg : Nat} {ins : Instr} (hj : L302[j]? = some (pc, ins, nx, tg)) : dcd 302 pc ins nx tg := dcl_ok L302_ok hj
set_option maxRecDepth 100000 in
set_option maxHeartbeats 4000000 in
theorem r302_0 {x1 : Int} {R1 : dsMem → Prop} {g1 : dsMem → Int} {R2 : dsMem → dsMem → Prop} {M : dsMem} {Q : bQT} (hA1 : bCt 235 [uR 11 84] M (fun M1 => [uI (g1 M1)]) R1) (k1 : ∀ M1 : dsMem, R1 M1 → ((g1 M1) = 0) → Q [uI (-2)] M1) (hA2 : ∀ M1 : dsMem, R1 M1 → (¬ (g1 M1) = 0) → ((0 ≤ x1 ∧ x1 ≤ 3)) → bCt 301 [uR 11 84, uI x1] M1 (fun _ => []) (R2 M1)) (s1 : ∀ M1 : dsMem, R1 M1 → (¬ (g1 M1) = 0) → ((0 ≤ x1 ∧ x1 ≤ 3)) → ∀ M2 : dsMem, R2 M1 M2 → ∀ i242_1 : Int, ∀ a242_1 : Int, 0 ≤ i242_1 → i242_1 < (M2 85 4) → 0 ≤ ((6 * (M2 85 0)) + i242_1) ∧ ((6 * (M2 85 0)) + i242_1) < 78 := by intros; omega) (s2 : ∀ M1 : dsMem, R1 M1 → (¬ (g1 M1) = 0) → ((0 ≤ x1 ∧ x1 ≤ 3)) → ∀ M2 : dsMem, R2 M1 M2 → ∀ i242_1 : Int, ∀ a242_1 : Int, 0 ≤ i242_1 → i242_1 < (M2 85 4) → -2147483648 ≤ i242_1 + 1 ∧ i242_1 + 1 < 2147483648 := by intros; omega) (k2 : ∀ M1 : dsMem, R1 M1 → (¬ (g1 M1) = 0) → ((0 ≤ x1 ∧ x1 ≤ 3)) → ∀ M2 : dsMem, R2 M1 M2 → Q [uI (v243 M2)] M2) (k3 : ∀ M1 : dsMem, R1 M1 → (¬ (g1 M1) = 0) → (¬ (0 ≤ x1 ∧ x1 ≤ 3)) → Q [uI (-2)] M1) :
    bB 302 0 [uR 11 84, uI x1] [] M Q := by
  refine b_aload_n (d302 (j := 0) rfl) rfl ?_
  refine b_callV (d302 (j := 1) rfl) rfl rfl (Or.inl rfl) rfl (bCk_mk (n := 0) (k := 1) (by decide +kernel) rfl rfl) ((hA1) _ (fun M1 hR1 => ?_))
  refine b_stk [uI (g1 M1)] rfl ?_
  refine b_if_eq (d302 (j := 2) rfl) (fun c1 => ?_) (fun c1 => ?_)
  ·
    refine b_bipush (d302 (j := 9) rfl) (by decide) ?_
    exact b_iret (d302 (j := 10) rfl) rfl (k1 M1 hR1 c1)
  ·
    refine b_iload_n (d302 (j := 3) rfl) rfl ?_
    refine b_i2l (d302 (j := 4) rfl) ?_
    refine b_lconst (d302 (j := 5) rfl) ?_
    refine b_stk [uJ 0, uJ x1] rfl ?_
    refine b_ldc2 (d302 (j := 6) rfl) rfl ?_
    refine b_callS (d302 (j := 7) rfl) (Or.inl rfl) rfl (bCk_mk (n := 0) (k := 6) (by decide +kernel) rfl rfl) (pu177  ?_)
    refine b_stk [uI (if (0 ≤ x1 ∧ x1 ≤ 3) then 1 else 0)] rfl ?_
    refine b_ifneP (d302 (j := 8) rfl) (fun c2 => ?_) (fun c2 => ?_)
    ·
      refine b_aload_n (d302 (j := 11) rfl) rfl ?_
      refine b_iload_n (d302 (j := 12) rfl) rfl ?_
      refine b_callV (d302 (j := 13) rfl) rfl rfl (Or.inl rfl) rfl (bCk_mk (n := 0) (k := 2) (by decide +kernel) rfl rfl) ((hA2 M1 hR1 c1 c2) _ (fun M2 hR2 => ?_))
      refine b_stk [] rfl ?_
      refine b_aload_n (d302 (j := 14) rfl) rfl ?_
      refine b_callV (d302 (j := 15) rfl) rfl rfl (Or.inl rfl) rfl (bCk_mk (n := 0) (k := 1) (by decide +kernel) rfl rfl) (fx243 (s1 M1 hR1 c1 c2 M2 hR2) (s2 M1 hR1 c1 c2 M2 hR2) ?_)
      refine b_stk [uI (v243 M2)] rfl ?_
      exact b_iret (d302 (j := 16) rfl) rfl (k2 M1 hR1 c1 c2 M2 hR2)
    ·
      refine b_bipush (d302 (j := 9) rfl) (by decide) ?_
      exact b_iret (d302 (j := 10) rfl) rfl (k3 M1 hR1 c1 c2)
def L303 : List (Nat × Instr × Nat × Nat) := [(0, .aload_n 0, 1, 0), (1, .invokevirtual 364, 4, 0), (4, .ifCond .ne 6, 7, 10), (7, .bipush (-2), 9, 0), (9, .ireturn, 10, 0), (10, .iconst 0, 11, 0), (11, .istore_n 1, 12, 0), (12, .iconst (-1), 13, 0), (13, .istore_n 2, 14, 0), (14, .iconst 0, 15, 0), (15, .istore_n 3, 16, 0), (16, .iload_n 3, 17, 0), (17, .iconst 4, 18, 0), (18, .if_icmp .ge 32, 21, 50), (21, .aload_n 0, 22, 0), (22, .iload_n 3, 23, 0), (23, .invokevirtual 449, 26, 0), (26, .aload_n 0, 27, 0), (27, .invokevirtual 408, 30, 0), (30, .iload_n 2, 31, 0), (31, .if_icmp .gt 6, 34, 37), (34, .goto 10, 37, 44), (37, .aload_n 0, 38, 0), (38, .invokevirtual 408, 41, 0), (41, .istore_n 2, 42, 0), (42, .iload_n 3, 43, 0), (43, .istore_n 1, 44, 0), (44, .iinc 3 1, 47, 0), (47, .goto (-31), 50, 16), (50, .iload_n 1, 51, 0), (51, .ireturn, 52, 0)]
set_option maxRecDepth 100000 in
theorem L303_ok : L303.all (dck 303) = true := by decide +kernel
theorem d303 {j pc nx tg : Nat} {ins : Instr} (hj : L303[j]? = some (pc, ins, nx, tg)) : dcd 303 pc ins nx tg := dcl_ok L303_ok hj
set_option maxRecDepth 100000 in
set_option maxHeartbeats 4000000 in
theorem r303_0  {R1 : dsMem → Prop} {g1 : dsMem → Int} {M : dsMem} {Q : bQT} (hA1 : bCt 235 [uR 11 84] M (fun M1 => [uI (g1 M1)]) R1) (k1 : ∀ M1 : dsMem, R1 M1 → (¬ (g1 M1) = 0) → bB 303 16 [uR 11 84, uI 0, uI (-1), uI 0] [] M1 Q) (k2 : ∀ M1 : dsMem, R1 M1 → ((g1 M1) = 0) → Q [uI (-2)] M1) :
    bB 303 0 [uR 11 84, uX 0, uX 0, uX 0] [] M Q := by
  refine b_aload_n (d303 (j := 0) rfl) rfl ?_
  refine b_callV (d303 (j := 1) rfl) rfl rfl (Or.inl rfl) rfl (bCk_mk (n := 0) (k := 1) (by decide +kernel) rfl rfl) ((hA1) _ (fun M1 hR1 => ?_))
  refine b_stk [uI (g1 M1)] rfl ?_
  refine b_if_ne (d303 (j := 2) rfl) (fun c1 => ?_) (fun c1 => ?_)
  ·
    refine b_iconst (d303 (j := 5) rfl) (by decide) ?_
    refine b_istore_n [uR 11 84, uI 0, uX 0, uX 0] (d303 (j := 6) rfl) (by decide) rfl ?_
    refine b_iconst (d303 (j := 7) rfl) (by decide) ?_
    refine b_istore_n [uR 11 84, uI 0, uI (-1), uX 0] (d303 (j := 8) rfl) (by decide) rfl ?_
    refine b_iconst (d303 (j := 9) rfl) (by decide) ?_
    refine b_istore_n [uR 11 84, uI 0, uI (-1), uI 0] (d303 (j := 10) rfl) (by decide) rfl ?_
    exact (k1 M1 hR1 c1)
  ·
    refine b_bipush (d303 (j := 3) rfl) (by decide) ?_
    exact b_iret (d303 (j := 4) rfl) rfl (k2 M1 hR1 c1)
set_option maxRecDepth 100000 in
set_option maxHeartbeats 4000000 in
theorem r303_16 {x1 x2 x3 : Int} {R1 : dsMem → Prop} {M : dsMem} {Q : bQT} (k1 : (4 ≤ x3) → Q [uI x1] M) (hA1 : (¬ 4 ≤ x3) → bCt 301 [uR 11 84, uI x3] M (fun _ => []) R1) (s1 : (¬ 4 ≤ x3) → ∀ M1 : dsMem, R1 M1 → 0 ≤ (M1 85 0) ∧ (M1 85 0) < 13 := by intros; omega) (s2 : (¬ 4 ≤ x3) → ∀ M1 : dsMem, R1 M1 → ∀ i178_1 : Int, ∀ a178_1 : Int, 0 ≤ i178_1 → i178_1 < 16 → -2147483648 ≤ i178_1 + 1 ∧ i178_1 + 1 < 2147483648 := by intros; omega) (s3 : (¬ 4 ≤ x3) → ∀ M1 : dsMem, R1 M1 → (x2 < (v244 M1)) → -2147483648 ≤ x3 + 1 ∧ x3 + 1 < 2147483648 := by intros; omega) (k2 : (¬ 4 ≤ x3) → ∀ M1 : dsMem, R1 M1 → (x2 < (v244 M1)) → bB 303 16 [uR 11 84, uI x3, uI (v244 M1), uI (x3 + 1)] [] M1 Q) (s4 : (¬ 4 ≤ x3) → ∀ M1 : dsMem, R1 M1 → (¬ x2 < (v244 M1)) → -2147483648 ≤ x3 + 1 ∧ x3 + 1 < 2147483648 := by intros; omega) (k3 : (¬ 4 ≤ x3) → ∀ M1 : dsMem, R1 M1 → (¬ x2 < (v244 M1)) → bB 303 16 [uR 11 84, uI x1, uI x2, uI (x3 + 1)] [] M1 Q) :
    bB 303 16 [uR 11 84, uI x1, uI x2, uI x3] [] M Q := by
  refine b_iload_n (d303 (j := 11) rfl) rfl ?_
  refine b_iconst (d303 (j := 12) rfl) (by decide) ?_
  refine b_icmp_ge (d303 (j := 13) rfl) (fun c1 => ?_) (fun c1 => ?_)
  ·
    refine b_iload_n (d303 (j := 29) rfl) rfl ?_
    exact b_iret (d303 (j := 30) rfl) rfl (k1 c1)
  ·
    refine b_aload_n (d303 (j := 14) rfl) rfl ?_
    refine b_iload_n (d303 (j := 15) rfl) rfl ?_
    refine b_callV (d303 (j := 16) rfl) rfl rfl (Or.inl rfl) rfl (bCk_mk (n := 0) (k := 2) (by decide +kernel) rfl rfl) ((hA1 c1) _ (fun M1 hR1 => ?_))
    refine b_stk [] rfl ?_
    refine b_aload_n (d303 (j := 17) rfl) rfl ?_
    refine b_callV (d303 (j := 18) rfl) rfl rfl (Or.inl rfl) rfl (bCk_mk (n := 0) (k := 1) (by decide +kernel) rfl rfl) (fx244 (s1 c1 M1 hR1) (s2 c1 M1 hR1) ?_)
    refine b_stk [uI (v244 M1)] rfl ?_
    refine b_iload_n (d303 (j := 19) rfl) rfl ?_
    refine b_icmp_gt (d303 (j := 20) rfl) (fun c2 => ?_) (fun c2 => ?_)
    ·
      refine b_aload_n (d303 (j := 22) rfl) rfl ?_
      refine b_callV (d303 (j := 23) rfl) rfl rfl (Or.inl rfl) rfl (bCk_mk (n := 0) (k := 1) (by decide +kernel) rfl rfl) (fx244 (s1 c1 M1 hR1) (s2 c1 M1 hR1) ?_)
      refine b_stk [uI (v244 M1)] rfl ?_
      refine b_istore_n [uR 11 84, uI x1, uI (v244 M1), uI x3] (d303 (j := 24) rfl) (by decide) rfl ?_
      refine b_iload_n (d303 (j := 25) rfl) rfl ?_
      refine b_istore_n [uR 11 84, uI x3, uI (v244 M1), uI x3] (d303 (j := 26) rfl) (by decide) rfl ?_
      refine b_iinc [uR 11 84, uI x3, uI (v244 M1), uI (x3 + 1)] (d303 (j := 27) rfl) rfl (by decide) (s3 c1 M1 hR1 c2) rfl ?_
      refine b_goto (d303 (j := 28) rfl) ?_
      exact (k2 c1 M1 hR1 c2)
    ·
      refine b_goto (d303 (j := 21) rfl) ?_
      refine b_iinc [uR 11 84, uI x1, uI x2, uI (x3 + 1)] (d303 (j := 27) rfl) rfl (by decide) (s4 c1 M1 hR1 c2) rfl ?_
      refine b_goto (d303 (j := 28) rfl) ?_
      exact (k3 c1 M1 hR1 c2)
def L304 : List (Nat × Instr × Nat × Nat) := [(0, .aload_n 0, 1, 0), (1, .iload_n 1, 2, 0), (2, .putfield 289, 5, 0), (5, .aload_n 0, 6, 0), (6, .invokevirtual 361, 9, 0), (9, .aload_n 0, 10, 0), (10, .invokevirtual 414, 13, 0), (13, .ireturn, 14, 0)]
set_option maxRecDepth 100000 in
theorem L304_ok : L304.all (dck 304) = true := by decide +kernel
theorem d304 {j pc nx tg : Nat} {ins : Instr} (hj : L304[j]? = some (pc, ins, nx, tg)) : dcd 304 pc ins nx tg := dcl_ok L304_ok hj
set_option maxRecDepth 100000 in
set_option maxHeartbeats 4000000 in
theorem r304_0 {x1 : Int} {R1 : dsMem → Prop} {M : dsMem} {Q : bQT} (hA1 : bCt 234 [uR 11 84, uX 0] (dsSet M 84 20 x1) (fun _ => []) R1) (s1 : ∀ M1 : dsMem, R1 M1 → ∀ i242_1 : Int, ∀ a242_1 : Int, 0 ≤ i242_1 → i242_1 < (M1 85 4) → 0 ≤ ((6 * (M1 85 0)) + i242_1) ∧ ((6 * (M1 85 0)) + i242_1) < 78 := by intros; omega) (s2 : ∀ M1 : dsMem, R1 M1 → ∀ i242_1 : Int, ∀ a242_1 : Int, 0 ≤ i242_1 → i242_1 < (M1 85 4) → -2147483648 ≤ i242_1 + 1 ∧ i242_1 + 1 < 2147483648 := by intros; omega) (k1 : ∀ M1 : dsMem, R1 M1 → Q [uI (v243 M1)] M1) :
    bB 304 0 [uR 11 84, uI x1] [] M Q := by
  refine b_aload_n (d304 (j := 0) rfl) rfl ?_
  refine b_iload_n (d304 (j := 1) rfl) rfl ?_
  refine b_putI (d304 (j := 2) rfl) rfl ⟨rfl, rfl⟩ rfl rfl ?_
  refine b_aload_n (d304 (j := 3) rfl) rfl ?_
  refine b_callV (d304 (j := 4) rfl) rfl rfl (Or.inl rfl) rfl (bCk_mk (n := 0) (k := 1) (by decide +kernel) rfl rfl) ((hA1) _ (fun M1 hR1 => ?_))
  refine b_stk [] rfl ?_
  refine b_aload_n (d304 (j := 5) rfl) rfl ?_
  refine b_callV (d304 (j := 6) rfl) rfl rfl (Or.inl rfl) rfl (bCk_mk (n := 0) (k := 1) (by decide +kernel) rfl rfl) (fx243 (s1 M1 hR1) (s2 M1 hR1) ?_)
  refine b_stk [uI (v243 M1)] rfl ?_
  exact b_iret (d304 (j := 7) rfl) rfl (k1 M1 hR1)
def L305 : List (Nat × Instr × Nat × Nat) := [(0, .aload_n 0, 1, 0), (1, .invokevirtual 358, 4, 0), (4, .aload_n 0, 5, 0), (5, .invokevirtual 120, 8, 0), (8, .ifCond .eq 25, 11, 33), (11, .iload_n 1, 12, 0), (12, .i2l, 13, 0), (13, .lconst 0, 14, 0), (14, .aload_n 0, 15, 0), (15, .invokevirtual 286, 18, 0), (18, .i2l, 19, 0), (19, .invokestatic 112, 22, 0), (22, .ifCond .eq 11, 25, 33), (25, .aload_n 0, 26, 0), (26, .iload_n 1, 27, 0), (27, .invokevirtual 452, 30, 0), (30, .goto 5, 33, 35), (33, .bipush (-2), 35, 0), (35, .ireturn, 36, 0)]
set_option maxRecDepth 100000 in
theorem L305_ok : L305.all (dck 305) = true := by decide +kernel
theorem d305 {j pc nx tg : Nat} {ins : Instr} (hj : L305[j]? = some (pc, ins, nx, tg)) : dcd 305 pc ins nx tg := dcl_ok L305_ok hj
set_option maxRecDepth 100000 in
set_option maxHeartbeats 4000000 in
theorem r305_0 {x1 : Int} {R1 : dsMem → Prop} {R2 : dsMem → dsMem → Prop} {g2 : dsMem → dsMem → Int} {M : dsMem} {Q : bQT} (hA1 : bCt 220 [uR 11 84, uX 0] M (fun _ => []) R1) (k1 : ∀ M1 : dsMem, R1 M1 → (¬ (0 < (M1 85 8))) → Q [uI (-2)] M1) (s1 : ∀ M1 : dsMem, R1 M1 → ((0 < (M1 85 8))) → -2147483648 ≤ ((dsShl 1 (M1 85 4)) - 1) ∧ ((dsShl 1 (M1 85 4)) - 1) < 2147483648 := by intros; omega) (k2 : ∀ M1 : dsMem, R1 M1 → ((0 < (M1 85 8))) → (¬ (0 ≤ x1 ∧ x1 ≤ ((dsShl 1 (M1 85 4)) - 1))) → Q [uI (-2)] M1) (hA2 : ∀ M1 : dsMem, R1 M1 → ((0 < (M1 85 8))) → ((0 ≤ x1 ∧ x1 ≤ ((dsShl 1 (M1 85 4)) - 1))) → bCt 304 [uR 11 84, uI x1] M1 (fun M2 => [uI (g2 M1 M2)]) (R2 M1)) (k3 : ∀ M1 : dsMem, R1 M1 → ((0 < (M1 85 8))) → ((0 ≤ x1 ∧ x1 ≤ ((dsShl 1 (M1 85 4)) - 1))) → ∀ M2 : dsMem, R2 M1 M2 → Q [uI (g2 M1 M2)] M2) :
    bB 305 0 [uR 11 84, uI x1] [] M Q := by
  refine b_aload_n (d305 (j := 0) rfl) rfl ?_
  refine b_callV (d305 (j := 1) rfl) rfl rfl (Or.inl rfl) rfl (bCk_mk (n := 0) (k := 1) (by decide +kernel) rfl rfl) ((hA1) _ (fun M1 hR1 => ?_))
  refine b_stk [] rfl ?_
  refine b_aload_n (d305 (j := 2) rfl) rfl ?_
  refine b_callV (d305 (j := 3) rfl) rfl rfl (Or.inl rfl) rfl (bCk_mk (n := 0) (k := 1) (by decide +kernel) rfl rfl) (pu182  ?_)
  refine b_stk [uI (if (0 < (M1 85 8)) then 1 else 0)] rfl ?_
  refine b_ifeqP (d305 (j := 4) rfl) (fun c1 => ?_) (fun c1 => ?_)
  ·
    refine b_bipush (d305 (j := 17) rfl) (by decide) ?_
    exact b_iret (d305 (j := 18) rfl) rfl (k1 M1 hR1 c1)
  ·
    refine b_iload_n (d305 (j := 5) rfl) rfl ?_
    refine b_i2l (d305 (j := 6) rfl) ?_
    refine b_lconst (d305 (j := 7) rfl) ?_
    refine b_stk [uJ 0, uJ x1] rfl ?_
    refine b_aload_n (d305 (j := 8) rfl) rfl ?_
    refine b_callV (d305 (j := 9) rfl) rfl rfl (Or.inl rfl) rfl (bCk_mk (n := 4) (k := 1) (by decide +kernel) rfl rfl) (pu186 (s1 M1 hR1 c1) ?_)
    refine b_stk [uI ((dsShl 1 (M1 85 4)) - 1), uJ 0, uJ x1] rfl ?_
    refine b_i2l (d305 (j := 10) rfl) ?_
    refine b_callS (d305 (j := 11) rfl) (Or.inl rfl) rfl (bCk_mk (n := 0) (k := 6) (by decide +kernel) rfl rfl) (pu177  ?_)
    refine b_stk [uI (if (0 ≤ x1 ∧ x1 ≤ ((dsShl 1 (M1 85 4)) - 1)) then 1 else 0)] rfl ?_
    refine b_ifeqP (d305 (j := 12) rfl) (fun c2 => ?_) (fun c2 => ?_)
    ·
      refine b_bipush (d305 (j := 17) rfl) (by decide) ?_
      exact b_iret (d305 (j := 18) rfl) rfl (k2 M1 hR1 c1 c2)
    ·
      refine b_aload_n (d305 (j := 13) rfl) rfl ?_
      refine b_iload_n (d305 (j := 14) rfl) rfl ?_
      refine b_callV (d305 (j := 15) rfl) rfl rfl (Or.inl rfl) rfl (bCk_mk (n := 0) (k := 2) (by decide +kernel) rfl rfl) ((hA2 M1 hR1 c1 c2) _ (fun M2 hR2 => ?_))
      refine b_stk [uI (g2 M1 M2)] rfl ?_
      refine b_goto (d305 (j := 16) rfl) ?_
      exact b_iret (d305 (j := 18) rfl) rfl (k3 M1 hR1 c1 c2 M2 hR2)
def L307 : List (Nat × Instr × Nat × Nat) := [(0, .lload_n 0, 1, 0), (1, .invokestatic 455, 4, 0), (4, .lstore 4, 6, 0), (6, .lload_n 2, 7, 0), (7, .lstore 6, 9, 0), (9, .lload 6, 11, 0), (11, .lconst 0, 12, 0), (12, .lcmp, 13, 0), (13, .ifCond .eq 21, 16, 34), (16, .lload 4, 18, 0), (18, .lload 6, 20, 0), (20, .lrem, 21, 0), (21, .lstore 8, 23, 0), (23, .lload 6, 25, 0), (25, .lstore 4, 27, 0), (27, .lload 8, 29, 0), (29, .lstore 6, 31, 0), (31, .goto (-22), 34, 9), (34, .lload 4, 36, 0), (36, .lreturn, 37, 0)]
set_option maxRecDepth 100000 in
theorem L307_ok : L307.all (dck 307) = true := by decide +kernel
theorem d307 {j pc nx tg : Nat} {ins : Instr} (hj : L307[j]? = some (pc, ins, nx, tg)) : dcd 307 pc ins nx tg := dcl_ok L307_ok hj
set_option maxRecDepth 100000 in
set_option maxHeartbeats 4000000 in
theorem r307_0 {x0 x2 : Int}  {M : dsMem} {Q : bQT} (k1 : bB 307 9 [uX 0, uX 0, uX 0, uX 0, uJ (if 0 < x0 then x0 else dsw64 (-x0)), uX 0, uJ x2, uX 0, uX 0, uX 0] [] M Q) :
    bB 307 0 [uJ x0, uX 0, uJ x2, uX 0, uX 0, uX 0, uX 0, uX 0, uX 0, uX 0] [] M Q := by
  refine b_lload_n (d307 (j := 0) rfl) rfl ?_
  refine b_abs (d307 (j := 1) rfl) rfl ⟨by decide, Nat.le_of_ble_eq_true rfl⟩ ?_
  refine b_lstore [uJ x0, uX 0, uJ x2, uX 0, uJ (if 0 < x0 then x0 else dsw64 (-x0)), uX 0, uX 0, uX 0, uX 0, uX 0] (d307 (j := 2) rfl) (by decide) rfl ?_
  refine b_lload_n (d307 (j := 3) rfl) rfl ?_
  refine b_lstore [uJ x0, uX 0, uJ x2, uX 0, uJ (if 0 < x0 then x0 else dsw64 (-x0)), uX 0, uJ x2, uX 0, uX 0, uX 0] (d307 (j := 4) rfl) (by decide) rfl ?_
  exact bB_le _ (bLe_x (bLe_s (bLe_x (bLe_s (bLe_s (bLe_s (bLe_s (bLe_s (bLe_s (bLe_s bLe_nil)))))))))) k1
set_option maxRecDepth 100000 in
set_option maxHeartbeats 4000000 in
theorem r307_9 {x4 x6 : Int}  {M : dsMem} {Q : bQT} (k1 : (x6 = 0) → Q [uJ x4] M) (s1 : (¬ x6 = 0) → 0 ≤ x4 ∧ (0 : Int) < x6 := by intros; omega) (k2 : (¬ x6 = 0) → bB 307 9 [uX 0, uX 0, uX 0, uX 0, uJ x6, uX 0, uJ (x4 % x6), uX 0, uX 0, uX 0] [] M Q) :
    bB 307 9 [uX 0, uX 0, uX 0, uX 0, uJ x4, uX 0, uJ x6, uX 0, uX 0, uX 0] [] M Q := by
  refine b_lload (d307 (j := 5) rfl) rfl ?_
  refine b_lconst (d307 (j := 6) rfl) ?_
  refine b_stk [uJ 0, uJ x6] rfl ?_
  refine b_lcmp (d307 (j := 7) rfl) ?_
  refine b_lif_eq (d307 (j := 8) rfl) (fun c1 => ?_) (fun c1 => ?_)
  ·
    refine b_lload (d307 (j := 18) rfl) rfl ?_
    exact b_lret (d307 (j := 19) rfl) rfl (k1 c1)
  ·
    refine b_lload (d307 (j := 9) rfl) rfl ?_
    refine b_lload (d307 (j := 10) rfl) rfl ?_
    refine b_lremP (d307 (j := 11) rfl) (s1 c1) ?_
    refine b_lstore [uX 0, uX 0, uX 0, uX 0, uJ x4, uX 0, uJ x6, uX 0, uJ (x4 % x6), uX 0] (d307 (j := 12) rfl) (by decide) rfl ?_
    refine b_lload (d307 (j := 13) rfl) rfl ?_
    refine b_lstore [uX 0, uX 0, uX 0, uX 0, uJ x6, uX 0, uJ x6, uX 0, uJ (x4 % x6), uX 0] (d307 (j := 14) rfl) (by decide) rfl ?_
    refine b_lload (d307 (j := 15) rfl) rfl ?_
    refine b_lstore [uX 0, uX 0, uX 0, uX 0, uJ x6, uX 0, uJ (x4 % x6), uX 0, uJ (x4 % x6), uX 0] (d307 (j := 16) rfl) (by decide) rfl ?_
    refine b_goto (d307 (j := 17) rfl) ?_
    exact bB_le _ (bLe_s (bLe_s (bLe_s (bLe_s (bLe_s (bLe_s (bLe_s (bLe_s (bLe_x (bLe_s bLe_nil)))))))))) (k2 c1)
def L308 : List (Nat × Instr × Nat × Nat) := [(0, .iload 4, 2, 0), (2, .ifCond .ne 7, 5, 9), (5, .lload_n 0, 6, 0), (6, .goto 4, 9, 10), (9, .lload_n 2, 10, 0), (10, .lload_n 0, 11, 0), (11, .lload_n 2, 12, 0), (12, .invokestatic 459, 15, 0), (15, .ldiv, 16, 0), (16, .lreturn, 17, 0)]
set_option maxRecDepth 100000 in
theorem L308_ok : L308.all (dck 308) = true := by decide +kernel
theorem d308 {j pc nx tg : Nat} {ins : Instr} (hj : L308[j]? = some (pc, ins, nx, tg)) : dcd 308 pc ins nx tg := dcl_ok L308_ok hj
set_option maxRecDepth 100000 in
set_option maxHeartbeats 4000000 in
theorem r308_0 {x0 x2 x4 : Int} {R1 : dsMem → Prop} {g1 : dsMem → Int} {R2 : dsMem → Prop} {g2 : dsMem → Int} {M : dsMem} {Q : bQT} (hA1 : (¬ x4 = 0) → bCt 307 [uJ x0, uX 0, uJ x2, uX 0, uX 0, uX 0, uX 0, uX 0, uX 0, uX 0] M (fun M1 => [uJ (g1 M1)]) R1) (s1 : (¬ x4 = 0) → ∀ M1 : dsMem, R1 M1 → (0 ≤ x2 ∧ x2 < 9223372036854775808) ∧ (0 : Int) < (g1 M1) := by intros; omega) (k1 : (¬ x4 = 0) → ∀ M1 : dsMem, R1 M1 → Q [uJ (x2 / (g1 M1))] M1) (hA2 : (x4 = 0) → bCt 307 [uJ x0, uX 0, uJ x2, uX 0, uX 0, uX 0, uX 0, uX 0, uX 0, uX 0] M (fun M2 => [uJ (g2 M2)]) R2) (s2 : (x4 = 0) → ∀ M2 : dsMem, R2 M2 → (0 ≤ x0 ∧ x0 < 9223372036854775808) ∧ (0 : Int) < (g2 M2) := by intros; omega) (k2 : (x4 = 0) → ∀ M2 : dsMem, R2 M2 → Q [uJ (x0 / (g2 M2))] M2) :
    bB 308 0 [uJ x0, uX 0, uJ x2, uX 0, uI x4] [] M Q := by
  refine b_iload (d308 (j := 0) rfl) rfl ?_
  refine b_if_ne (d308 (j := 1) rfl) (fun c1 => ?_) (fun c1 => ?_)
  ·
    refine b_lload_n (d308 (j := 4) rfl) rfl ?_
    refine b_lload_n (d308 (j := 5) rfl) rfl ?_
    refine b_lload_n (d308 (j := 6) rfl) rfl ?_
    refine b_callS (d308 (j := 7) rfl) (Or.inl rfl) rfl (bCk_mk (n := 2) (k := 4) (by decide +kernel) rfl rfl) ((hA1 c1) _ (fun M1 hR1 => ?_))
    refine b_stk [uJ (g1 M1), uJ x2] rfl ?_
    refine b_ldivP (d308 (j := 8) rfl) (s1 c1 M1 hR1) ?_
    exact b_lret (d308 (j := 9) rfl) rfl (k1 c1 M1 hR1)
  ·
    refine b_lload_n (d308 (j := 2) rfl) rfl ?_
    refine b_goto (d308 (j := 3) rfl) ?_
    refine b_lload_n (d308 (j := 5) rfl) rfl ?_
    refine b_lload_n (d308 (j := 6) rfl) rfl ?_
    refine b_callS (d308 (j := 7) rfl) (Or.inl rfl) rfl (bCk_mk (n := 2) (k := 4) (by decide +kernel) rfl rfl) ((hA2 c1) _ (fun M2 hR2 => ?_))
    refine b_stk [uJ (g2 M2), uJ x0] rfl ?_
    refine b_ldivP (d308 (j := 8) rfl) (s2 c1 M2 hR2) ?_
    exact b_lret (d308 (j := 9) rfl) rfl (k2 c1 M2 hR2)
def L309 : List (Nat × Instr × Nat × Nat) := [(0, .aload_n 0, 1, 0), (1, .invokevirtual 358, 4, 0), (4, .aload_n 0, 5, 0), (5, .iload_n 1, 6, 0), (6, .i2l, 7, 0), (7, .invokevirtual 268, 10, 0), (10, .ifCond .eq 13, 13, 23), (13, .iload_n 2, 14, 0), (14, .i2l, 15, 0), (15, .lconst 0, 16, 0), (16, .lconst 1, 17, 0), (17, .invokestatic 112, 20, 0), (20, .ifCond .ne 7, 23, 27), (23, .ldc_w 463, 26, 0), (26, .ireturn, 27, 0), (27, .aload_n 0, 28, 0), (28, .invokevirtual 116, 31, 0), (31, .istore_n 3, 32, 0), (32, .iconst 0, 33, 0), (33, .istore 4, 35, 0), (35, .iload 4, 37, 0), (37, .iconst 1, 38, 0), (38, .iload_n 3, 39, 0), (39, .ishl, 40, 0), (40, .if_icmp .ge 22, 43, 62), (43, .aload_n 0, 44, 0), (44, .getfield 91, 47, 0), (47, .iload 4, 49, 0), (49, .aload_n 0, 50, 0), (50, .iload 4, 52, 0), (52, .invokevirtual 452, 55, 0), (55, .iastore, 56, 0), (56, .iinc 4 1, 59, 0), (59, .goto (-24), 62, 35), (62, .lconst 0, 63, 0), (63, .lstore 4, 65, 0), (65, .iconst 0, 66, 0), (66, .istore 6, 68, 0), (68, .iload 6, 70, 0), (70, .iconst 1, 71, 0), (71, .iload_n 3, 72, 0), (72, .ishl, 73, 0), (73, .if_icmp .ge 67, 76, 140), (76, .iload 6, 78, 0), (78, .iload_n 1, 79, 0), (79, .invokestatic 304, 82, 0), (82, .ifCond .ne 52, 85, 134), (85, .lload 4, 87, 0), (87, .iload 6, 89, 0), (89, .invokestatic 379, 92, 0), (92, .invokestatic 464, 95, 0), (95, .i2l, 96, 0), (96, .iload_n 3, 97, 0), (97, .iconst 1, 98, 0), (98, .isub, 99, 0), (99, .iload 6, 101, 0), (101, .invokestatic 379, 104, 0), (104, .isub, 105, 0), (105, .invokestatic 464, 108, 0), (108, .i2l, 109, 0), (109, .lmul, 110, 0), (110, .aload_n 0, 111, 0), (111, .getfield 91, 114, 0), (114, .iload 6, 116, 0), (116, .iconst 1, 117, 0), (117, .iload_n 1, 118, 0), (118, .ishl, 119, 0), (119, .ior, 120, 0), (120, .iaload, 121, 0), (121, .aload_n 0, 122, 0), (122, .getfield 91, 125, 0), (125, .iload 6, 127, 0), (127, .iaload, 128, 0), (128, .isub, 129, 0), (129, .i2l, 130, 0), (130, .lmul, 131, 0), (131, .ladd, 132, 0), (132, .lstore 4, 134, 0), (134, .iinc 6 1, 137, 0), (137, .goto (-69), 140, 68), (140, .lload 4, 142, 0), (142, .iload_n 3, 143, 0), (143, .invokestatic 464, 146, 0), (146, .i2l, 147, 0), (147, .iload_n 2, 148, 0), (148, .invokestatic 467, 151, 0), (151, .l2i, 152, 0), (152, .ireturn, 153, 0)]
set_option maxRecDepth 100000 in
theorem L309_ok : L309.all (dck 309) = true := by decide +kernel
theorem d309 {j pc nx tg : Nat} {ins : Instr} (hj : L309[j]? = some (pc, ins, nx, tg)) : dcd 309 pc ins nx tg := dcl_ok L309_ok hj
set_option maxRecDepth 100000 in
set_option maxHeartbeats 4000000 in
theorem r309_0 {x1 x2 : Int} {R1 : dsMem → Prop} {M : dsMem} {Q : bQT} (hA1 : bCt 220 [uR 11 84, uX 0] M (fun _ => []) R1) (s1 : ∀ M1 : dsMem, R1 M1 → -2147483648 ≤ ((M1 85 4) - 1) ∧ ((M1 85 4) - 1) < 2147483648 := by intros; omega) (k1 : ∀ M1 : dsMem, R1 M1 → (¬ (0 ≤ x1 ∧ x1 ≤ (M1 85 4) - 1)) → Q [uI (-1000000)] M1) (k2 : ∀ M1 : dsMem, R1 M1 → ((0 ≤ x1 ∧ x1 ≤ (M1 85 4) - 1)) → ((0 ≤ x2 ∧ x2 ≤ 1)) → bB 309 35 [uR 11 84, uI x1, uI x2, uI (M1 85 4), uI 0, uX 0, uX 0] [] M1 Q) (k3 : ∀ M1 : dsMem, R1 M1 → ((0 ≤ x1 ∧ x1 ≤ (M1 85 4) - 1)) → (¬ (0 ≤ x2 ∧ x2 ≤ 1)) → Q [uI (-1000000)] M1) :
    bB 309 0 [uR 11 84, uI x1, uI x2, uX 0, uX 0, uX 0, uX 0] [] M Q := by
  refine b_aload_n (d309 (j := 0) rfl) rfl ?_
  refine b_callV (d309 (j := 1) rfl) rfl rfl (Or.inl rfl) rfl (bCk_mk (n := 0) (k := 1) (by decide +kernel) rfl rfl) ((hA1) _ (fun M1 hR1 => ?_))
  refine b_stk [] rfl ?_
  refine b_aload_n (d309 (j := 2) rfl) rfl ?_
  refine b_iload_n (d309 (j := 3) rfl) rfl ?_
  refine b_i2l (d309 (j := 4) rfl) ?_
  refine b_callV (d309 (j := 5) rfl) rfl rfl (Or.inl rfl) rfl (bCk_mk (n := 0) (k := 3) (by decide +kernel) rfl rfl) (pu190 (s1 M1 hR1) ?_)
  refine b_stk [uI (if (0 ≤ x1 ∧ x1 ≤ (M1 85 4) - 1) then 1 else 0)] rfl ?_
  refine b_ifeqP (d309 (j := 6) rfl) (fun c1 => ?_) (fun c1 => ?_)
  ·
    refine b_ldcw (d309 (j := 13) rfl) rfl ?_
    exact b_iret (d309 (j := 14) rfl) rfl (k1 M1 hR1 c1)
  ·
    refine b_iload_n (d309 (j := 7) rfl) rfl ?_
    refine b_i2l (d309 (j := 8) rfl) ?_
    refine b_lconst (d309 (j := 9) rfl) ?_
    refine b_stk [uJ 0, uJ x2] rfl ?_
    refine b_lconst (d309 (j := 10) rfl) ?_
    refine b_stk [uJ 1, uJ 0, uJ x2] rfl ?_
    refine b_callS (d309 (j := 11) rfl) (Or.inl rfl) rfl (bCk_mk (n := 0) (k := 6) (by decide +kernel) rfl rfl) (pu177  ?_)
    refine b_stk [uI (if (0 ≤ x2 ∧ x2 ≤ 1) then 1 else 0)] rfl ?_
    refine b_ifneP (d309 (j := 12) rfl) (fun c2 => ?_) (fun c2 => ?_)
    ·
      refine b_aload_n (d309 (j := 15) rfl) rfl ?_
      refine b_callV (d309 (j := 16) rfl) rfl rfl (Or.inl rfl) rfl (bCk_mk (n := 0) (k := 1) (by decide +kernel) rfl rfl) (pu185  ?_)
      refine b_stk [uI (M1 85 4)] rfl ?_
      refine b_istore_n [uR 11 84, uI x1, uI x2, uI (M1 85 4), uX 0, uX 0, uX 0] (d309 (j := 17) rfl) (by decide) rfl ?_
      refine b_iconst (d309 (j := 18) rfl) (by decide) ?_
      refine b_istore [uR 11 84, uI x1, uI x2, uI (M1 85 4), uI 0, uX 0, uX 0] (d309 (j := 19) rfl) (by decide) rfl ?_
      exact (k2 M1 hR1 c1 c2)
    ·
      refine b_ldcw (d309 (j := 13) rfl) rfl ?_
      exact b_iret (d309 (j := 14) rfl) rfl (k3 M1 hR1 c1 c2)
set_option maxRecDepth 100000 in
set_option maxHeartbeats 4000000 in
theorem r309_35 {x1 x2 x3 x4 : Int} {R1 : dsMem → Prop} {g1 : dsMem → Int} {R2 : dsMem → Prop} {g2 : dsMem → Int} {M : dsMem} {Q : bQT} (s1 : ((dsShl 1 x3) ≤ x4) → ∀ i309_1 : Int, ∀ a309_1 : Int, 0 ≤ i309_1 → i309_1 < (dsShl 1 x3) → -2147483648 ≤ i309_1 + 1 ∧ i309_1 + 1 < 2147483648 := by intros; omega) (s2 : ((dsShl 1 x3) ≤ x4) → ∀ i309_1 : Int, ∀ a309_1 : Int, 0 ≤ i309_1 → i309_1 < (dsShl 1 x3) → ((dsAnd (dsShr i309_1 x1) 1) = 0) → ∀ i178_1 : Int, ∀ a178_1 : Int, 0 ≤ i178_1 → i178_1 < 16 → -2147483648 ≤ i178_1 + 1 ∧ i178_1 + 1 < 2147483648 := by intros; omega) (s3 : ((dsShl 1 x3) ≤ x4) → ∀ i309_1 : Int, ∀ a309_1 : Int, 0 ≤ i309_1 → i309_1 < (dsShl 1 x3) → ((dsAnd (dsShr i309_1 x1) 1) = 0) → ∀ i306_1 : Int, ∀ a306_1 : Int, 2 ≤ i306_1 → i306_1 < ((v178 M i309_1) + 1) → -2147483648 ≤ i306_1 + 1 ∧ i306_1 + 1 < 2147483648 := by intros; omega) (s4 : ((dsShl 1 x3) ≤ x4) → ∀ i309_1 : Int, ∀ a309_1 : Int, 0 ≤ i309_1 → i309_1 < (dsShl 1 x3) → ((dsAnd (dsShr i309_1 x1) 1) = 0) → ∀ i306_1 : Int, ∀ a306_1 : Int, 2 ≤ i306_1 → i306_1 < ((dsw (((x3 - 1) - (v178 M i309_1)))) + 1) → -2147483648 ≤ i306_1 + 1 ∧ i306_1 + 1 < 2147483648 := by intros; omega) (s5 : ((dsShl 1 x3) ≤ x4) → ∀ i309_1 : Int, ∀ a309_1 : Int, 0 ≤ i309_1 → i309_1 < (dsShl 1 x3) → ((dsAnd (dsShr i309_1 x1) 1) = 0) → 0 ≤ (dsOr i309_1 (dsShl 1 x1)) ∧ (dsOr i309_1 (dsShl 1 x1)) < 64 := by intros; omega) (s6 : ((dsShl 1 x3) ≤ x4) → ∀ i309_1 : Int, ∀ a309_1 : Int, 0 ≤ i309_1 → i309_1 < (dsShl 1 x3) → ((dsAnd (dsShr i309_1 x1) 1) = 0) → 0 ≤ i309_1 ∧ i309_1 < 64 := by intros; omega) (s7 : ((dsShl 1 x3) ≤ x4) → ∀ i309_1 : Int, ∀ a309_1 : Int, 0 ≤ i309_1 → i309_1 < (dsShl 1 x3) → ((dsAnd (dsShr i309_1 x1) 1) = 0) → -2147483648 ≤ ((M 110 (dsOr i309_1 (dsShl 1 x1))) - (M 110 i309_1)) ∧ ((M 110 (dsOr i309_1 (dsShl 1 x1))) - (M 110 i309_1)) < 2147483648 := by intros; omega) (s8 : ((dsShl 1 x3) ≤ x4) → ∀ i306_1 : Int, ∀ a306_1 : Int, 2 ≤ i306_1 → i306_1 < (x3 + 1) → -2147483648 ≤ i306_1 + 1 ∧ i306_1 + 1 < 2147483648 := by intros; omega) (hA1 : ((dsShl 1 x3) ≤ x4) → bCt 308 [uJ (dsIter (fun (i309_1 : Int) (a309_1 : Int) => (if (dsAnd (dsShr i309_1 x1) 1) = 0 then (dsw64 ((a309_1 + (((v306 M (v178 M i309_1)) * (v306 M (dsw (((x3 - 1) - (v178 M i309_1)))))) * ((M 110 (dsOr i309_1 (dsShl 1 x1))) - (M 110 i309_1)))))) else a309_1)) 0 (dsShl 1 x3) 0), uX 0, uJ (v306 M x3), uX 0, uI x2] M (fun M1 => [uJ (g1 M1)]) R1) (s9 : ((dsShl 1 x3) ≤ x4) → ∀ M1 : dsMem, R1 M1 → -2147483648 ≤ (g1 M1) ∧ (g1 M1) < 2147483648 := by intros; omega) (k1 : ((dsShl 1 x3) ≤ x4) → ∀ M1 : dsMem, R1 M1 → Q [uI (g1 M1)] M1) (hA2 : (¬ (dsShl 1 x3) ≤ x4) → bCt 304 [uR 11 84, uI x4] M (fun M2 => [uI (g2 M2)]) R2) (s10 : (¬ (dsShl 1 x3) ≤ x4) → ∀ M2 : dsMem, R2 M2 → 0 ≤ x4 ∧ x4 < 64 := by intros; omega) (s11 : (¬ (dsShl 1 x3) ≤ x4) → ∀ M2 : dsMem, R2 M2 → -2147483648 ≤ x4 + 1 ∧ x4 + 1 < 2147483648 := by intros; omega) (k2 : (¬ (dsShl 1 x3) ≤ x4) → ∀ M2 : dsMem, R2 M2 → bB 309 35 [uR 11 84, uI x1, uI x2, uI x3, uI (x4 + 1), uX 0, uX 0] [] (dsSet M2 110 x4 (g2 M2)) Q) :
    bB 309 35 [uR 11 84, uI x1, uI x2, uI x3, uI x4, uX 0, uX 0] [] M Q := by
  refine b_iload (d309 (j := 20) rfl) rfl ?_
  refine b_iconst (d309 (j := 21) rfl) (by decide) ?_
  refine b_iload_n (d309 (j := 22) rfl) rfl ?_
  refine b_ishl (d309 (j := 23) rfl) ?_
  refine b_icmp_ge (d309 (j := 24) rfl) (fun c1 => ?_) (fun c1 => ?_)
  ·
    refine b_lconst (d309 (j := 34) rfl) ?_
    refine b_stk [uJ 0] rfl ?_
    refine b_lstore [uR 11 84, uI x1, uI x2, uI x3, uJ 0, uX 0, uX 0] (d309 (j := 35) rfl) (by decide) rfl ?_
    refine b_iconst (d309 (j := 36) rfl) (by decide) ?_
    refine b_istore [uR 11 84, uI x1, uI x2, uI x3, uJ 0, uX 0, uI 0] (d309 (j := 37) rfl) (by decide) rfl ?_
    refine b_for (fun (i309_1 : Int) (a309_1 : Int) => [uR 11 84, uI x1, uI x2, uI x3, uJ a309_1, uX 0, uI i309_1]) (fun (i309_1 : Int) (a309_1 : Int) => (if (dsAnd (dsShr i309_1 x1) 1) = 0 then (dsw64 ((a309_1 + (((v306 M (v178 M i309_1)) * (v306 M (dsw (((x3 - 1) - (v178 M i309_1)))))) * ((M 110 (dsOr i309_1 (dsShl 1 x1))) - (M 110 i309_1)))))) else a309_1)) 0 (dsShl 1 x3) 0 (fun i309_1 a309_1 h309_1l h309_1r hk309_1 => ?_) (fun i309_1 h309_1l h309_1r => ?_)
    ·
      refine b_iload (d309 (j := 38) rfl) rfl ?_
      refine b_iconst (d309 (j := 39) rfl) (by decide) ?_
      refine b_iload_n (d309 (j := 40) rfl) rfl ?_
      refine b_ishl (d309 (j := 41) rfl) ?_
      refine b_icmp_ge (d309 (j := 42) rfl) (fun c2 => ?_) (fun c2 => ?_)
      · exfalso; omega
      ·
        refine b_iload (d309 (j := 43) rfl) rfl ?_
        refine b_iload_n (d309 (j := 44) rfl) rfl ?_
        refine b_callS (d309 (j := 45) rfl) (Or.inl rfl) rfl (bCk_mk (n := 0) (k := 2) (by decide +kernel) rfl rfl) (pu179  ?_)
        refine b_stk [uI (dsAnd (dsShr i309_1 x1) 1)] rfl ?_
        refine b_if_ne (d309 (j := 46) rfl) (fun c3 => ?_) (fun c3 => ?_)
        ·
          rw [if_neg c3] at hk309_1
          refine b_iinc [uR 11 84, uI x1, uI x2, uI x3, uJ a309_1, uX 0, uI (i309_1 + 1)] (d309 (j := 78) rfl) rfl (by decide) (s1 c1 i309_1 a309_1 h309_1l h309_1r) rfl ?_
          refine b_goto (d309 (j := 79) rfl) ?_
          exact hk309_1
        ·
          rw [if_pos c3] at hk309_1
          refine b_lload (d309 (j := 47) rfl) rfl ?_
          refine b_iload (d309 (j := 48) rfl) rfl ?_
          refine b_callS (d309 (j := 49) rfl) (Or.inl rfl) rfl (bCk_mk (n := 2) (k := 1) (by decide +kernel) rfl rfl) (fx178 (s2 c1 i309_1 a309_1 h309_1l h309_1r c3) ?_)
          refine b_stk [uI (v178 M i309_1), uJ a309_1] rfl ?_
          refine b_callS (d309 (j := 50) rfl) (Or.inl rfl) rfl (bCk_mk (n := 2) (k := 1) (by decide +kernel) rfl rfl) (fx306 (s3 c1 i309_1 a309_1 h309_1l h309_1r c3) ?_)
          refine b_stk [uI (v306 M (v178 M i309_1)), uJ a309_1] rfl ?_
          refine b_i2l (d309 (j := 51) rfl) ?_
          refine b_iload_n (d309 (j := 52) rfl) rfl ?_
          refine b_iconst (d309 (j := 53) rfl) (by decide) ?_
          refine b_isub (d309 (j := 54) rfl) rfl rfl ?_
          refine b_iload (d309 (j := 55) rfl) rfl ?_
          refine b_callS (d309 (j := 56) rfl) (Or.inl rfl) rfl (bCk_mk (n := 5) (k := 1) (by decide +kernel) rfl rfl) (fx178 (s2 c1 i309_1 a309_1 h309_1l h309_1r c3) ?_)
          refine b_stk [uI (v178 M i309_1), uI (dsw ((x3 - 1))), uJ (v306 M (v178 M i309_1)), uJ a309_1] rfl ?_
          refine b_isub (d309 (j := 57) rfl) (dsw_dsw _) rfl ?_
          refine b_callS (d309 (j := 58) rfl) (Or.inl rfl) rfl (bCk_mk (n := 4) (k := 1) (by decide +kernel) rfl rfl) (fx306 (s4 c1 i309_1 a309_1 h309_1l h309_1r c3) ?_)
          refine b_stk [uI (v306 M (dsw (((x3 - 1) - (v178 M i309_1))))), uJ (v306 M (v178 M i309_1)), uJ a309_1] rfl ?_
          refine b_i2l (d309 (j := 59) rfl) ?_
          refine b_lmul (d309 (j := 60) rfl) rfl rfl ?_
          refine b_aload_n (d309 (j := 61) rfl) rfl ?_
          refine b_getR (d309 (j := 62) rfl) rfl rfl rfl rfl ?_
          refine b_stk [uR 37 110, uJ (dsw64 (((v306 M (v178 M i309_1)) * (v306 M (dsw (((x3 - 1) - (v178 M i309_1)))))))), uJ a309_1] rfl ?_
          refine b_iload (d309 (j := 63) rfl) rfl ?_
          refine b_iconst (d309 (j := 64) rfl) (by decide) ?_
          refine b_iload_n (d309 (j := 65) rfl) rfl ?_
          refine b_ishl (d309 (j := 66) rfl) ?_
          refine b_ior (d309 (j := 67) rfl) ?_
          refine b_iaload (d309 (j := 68) rfl) rfl (s5 c1 i309_1 a309_1 h309_1l h309_1r c3) ?_
          refine b_aload_n (d309 (j := 69) rfl) rfl ?_
          refine b_getR (d309 (j := 70) rfl) rfl rfl rfl rfl ?_
          refine b_stk [uR 37 110, uI (M 110 (dsOr i309_1 (dsShl 1 x1))), uJ (dsw64 (((v306 M (v178 M i309_1)) * (v306 M (dsw (((x3 - 1) - (v178 M i309_1)))))))), uJ a309_1] rfl ?_
          refine b_iload (d309 (j := 71) rfl) rfl ?_
          refine b_iaload (d309 (j := 72) rfl) rfl (s6 c1 i309_1 a309_1 h309_1l h309_1r c3) ?_
          refine b_isub (d309 (j := 73) rfl) rfl rfl ?_
          refine b_stk [uI ((M 110 (dsOr i309_1 (dsShl 1 x1))) - (M 110 i309_1)), uJ (dsw64 (((v306 M (v178 M i309_1)) * (v306 M (dsw (((x3 - 1) - (v178 M i309_1)))))))), uJ a309_1] (by rw [dsw_r (s7 c1 i309_1 a309_1 h309_1l h309_1r c3)]) ?_
          refine b_i2l (d309 (j := 74) rfl) ?_
          refine b_lmul (d309 (j := 75) rfl) (dsw64_dsw _) rfl ?_
          refine b_ladd (d309 (j := 76) rfl) rfl (dsw64_dsw _) ?_
          refine b_lstore [uR 11 84, uI x1, uI x2, uI x3, uJ (dsw64 ((a309_1 + (((v306 M (v178 M i309_1)) * (v306 M (dsw (((x3 - 1) - (v178 M i309_1)))))) * ((M 110 (dsOr i309_1 (dsShl 1 x1))) - (M 110 i309_1)))))), uX 0, uI i309_1] (d309 (j := 77) rfl) (by decide) rfl ?_
          refine b_iinc [uR 11 84, uI x1, uI x2, uI x3, uJ (dsw64 ((a309_1 + (((v306 M (v178 M i309_1)) * (v306 M (dsw (((x3 - 1) - (v178 M i309_1)))))) * ((M 110 (dsOr i309_1 (dsShl 1 x1))) - (M 110 i309_1)))))), uX 0, uI (i309_1 + 1)] (d309 (j := 78) rfl) rfl (by decide) (s1 c1 i309_1 a309_1 h309_1l h309_1r) rfl ?_
          refine b_goto (d309 (j := 79) rfl) ?_
          exact hk309_1
    ·
      refine b_iload (d309 (j := 38) rfl) rfl ?_
      refine b_iconst (d309 (j := 39) rfl) (by decide) ?_
      refine b_iload_n (d309 (j := 40) rfl) rfl ?_
      refine b_ishl (d309 (j := 41) rfl) ?_
      refine b_icmp_ge (d309 (j := 42) rfl) (fun c4 => ?_) (fun c4 => ?_)
      rotate_left
      · exfalso; omega
      ·
        refine b_lload (d309 (j := 80) rfl) rfl ?_
        refine b_iload_n (d309 (j := 81) rfl) rfl ?_
        refine b_callS (d309 (j := 82) rfl) (Or.inl rfl) rfl (bCk_mk (n := 2) (k := 1) (by decide +kernel) rfl rfl) (fx306 (s8 c1) ?_)
        refine b_stk [uI (v306 M x3), uJ (dsIter (fun (i309_1 : Int) (a309_1 : Int) => (if (dsAnd (dsShr i309_1 x1) 1) = 0 then (dsw64 ((a309_1 + (((v306 M (v178 M i309_1)) * (v306 M (dsw (((x3 - 1) - (v178 M i309_1)))))) * ((M 110 (dsOr i309_1 (dsShl 1 x1))) - (M 110 i309_1)))))) else a309_1)) 0 (dsShl 1 x3) 0)] rfl ?_
        refine b_i2l (d309 (j := 83) rfl) ?_
        refine b_iload_n (d309 (j := 84) rfl) rfl ?_
        refine b_callS (d309 (j := 85) rfl) (Or.inl rfl) rfl (bCk_mk (n := 0) (k := 5) (by decide +kernel) rfl rfl) ((hA1 c1) _ (fun M1 hR1 => ?_))
        refine b_stk [uJ (g1 M1)] rfl ?_
        refine b_l2i (d309 (j := 86) rfl) rfl ?_
        refine b_stk [uI (g1 M1)] (by rw [dsw_r (s9 c1 M1 hR1)]) ?_
        exact b_iret (d309 (j := 87) rfl) rfl (k1 c1 M1 hR1)
  ·
    refine b_aload_n (d309 (j := 25) rfl) rfl ?_
    refine b_getR (d309 (j := 26) rfl) rfl rfl rfl rfl ?_
    refine b_stk [uR 37 110] rfl ?_
    refine b_iload (d309 (j := 27) rfl) rfl ?_
    refine b_aload_n (d309 (j := 28) rfl) rfl ?_
    refine b_iload (d309 (j := 29) rfl) rfl ?_
    refine b_callV (d309 (j := 30) rfl) rfl rfl (Or.inl rfl) rfl (bCk_mk (n := 2) (k := 2) (by decide +kernel) rfl rfl) ((hA2 c1) _ (fun M2 hR2 => ?_))
    refine b_stk [uI (g2 M2), uI x4, uR 37 110] rfl ?_
    refine b_iastore (d309 (j := 31) rfl) rfl (s10 c1 M2 hR2) ?_
    refine b_iinc [uR 11 84, uI x1, uI x2, uI x3, uI (x4 + 1), uX 0, uX 0] (d309 (j := 32) rfl) rfl (by decide) (s11 c1 M2 hR2) rfl ?_
    refine b_goto (d309 (j := 33) rfl) ?_
    exact (k2 c1 M2 hR2)
def L310 : List (Nat × Instr × Nat × Nat) := [(0, .aload_n 0, 1, 0), (1, .invokevirtual 358, 4, 0), (4, .aload_n 0, 5, 0), (5, .iload_n 3, 6, 0), (6, .iload_n 1, 7, 0), (7, .ishl, 8, 0), (8, .iload 4, 10, 0), (10, .iload_n 2, 11, 0), (11, .ishl, 12, 0), (12, .ior, 13, 0), (13, .putfield 292, 16, 0), (16, .aload_n 0, 17, 0), (17, .invokevirtual 361, 20, 0), (20, .iload 5, 22, 0), (22, .ifCond .ne 7, 25, 29), (25, .iload_n 1, 26, 0), (26, .goto 4, 29, 30), (29, .iload_n 2, 30, 0), (30, .istore 6, 32, 0), (32, .aload_n 0, 33, 0), (33, .iload 6, 35, 0), (35, .invokevirtual 471, 38, 0), (38, .bipush 7, 40, 0), (40, .iload 5, 42, 0), (42, .ifCond .ne 7, 45, 49), (45, .iload_n 3, 46, 0), (46, .goto 5, 49, 51), (49, .iload 4, 51, 0), (51, .imul, 52, 0), (52, .iadd, 53, 0), (53, .aload_n 0, 54, 0), (54, .getfield 82, 57, 0), (57, .aload_n 0, 58, 0), (58, .invokevirtual 124, 61, 0), (61, .iaload, 62, 0), (62, .aload_n 0, 63, 0), (63, .iload 6, 65, 0), (65, .invokevirtual 271, 68, 0), (68, .invokestatic 304, 71, 0), (71, .iconst 1, 72, 0), (72, .if_icmp .ne 7, 75, 79), (75, .iconst 0, 76, 0), (76, .goto 5, 79, 81), (79, .bipush 10, 81, 0), (81, .isub, 82, 0), (82, .ireturn, 83, 0)]
set_option maxRecDepth 100000 in
theorem L310_ok : L310.all (dck 310) = true := by decide +kernel
theorem d310 {j pc nx tg : Nat} {ins : Instr} (hj : L310[j]? = some (pc, ins, nx, tg)) : dcd 310 pc ins nx tg := dcl_ok L310_ok hj
set_option maxRecDepth 100000 in
set_option maxHeartbeats 4000000 in
theorem r310_0 {x1 x2 x3 x4 x5 : Int} {R1 : dsMem → Prop} {R2 : dsMem → dsMem → Prop} {M : dsMem} {Q : bQT} (hA1 : bCt 220 [uR 11 84, uX 0] M (fun _ => []) R1) (hA2 : ∀ M1 : dsMem, R1 M1 → bCt 234 [uR 11 84, uX 0] (dsSet M1 84 21 (dsOr (dsShl x3 x1) (dsShl x4 x2))) (fun _ => []) (R2 M1)) (s1 : ∀ M1 : dsMem, R1 M1 → ∀ M2 : dsMem, R2 M1 M2 → (¬ x5 = 0) → 0 ≤ ((6 * (M2 85 0)) + x2) ∧ ((6 * (M2 85 0)) + x2) < 78 := by intros; omega) (s2 : ∀ M1 : dsMem, R1 M1 → ∀ M2 : dsMem, R2 M1 M2 → (¬ x5 = 0) → (¬ x5 = 0) → 0 ≤ (M2 85 0) ∧ (M2 85 0) < 13 := by intros; omega) (s3 : ∀ M1 : dsMem, R1 M1 → ∀ M2 : dsMem, R2 M1 M2 → (¬ x5 = 0) → (¬ x5 = 0) → 0 ≤ ((15 + (3 * x2)) + 2) ∧ ((15 + (3 * x2)) + 2) < 105 := by intros; omega) (s4 : ∀ M1 : dsMem, R1 M1 → ∀ M2 : dsMem, R2 M1 M2 → (¬ x5 = 0) → (¬ x5 = 0) → (¬ (dsAnd (dsShr (M2 107 (M2 85 0)) (M2 85 ((15 + (3 * x2)) + 2))) 1) = 1) → -2147483648 ≤ (((M2 102 ((6 * (M2 85 0)) + x2)) + (7 * x4)) - 10) ∧ (((M2 102 ((6 * (M2 85 0)) + x2)) + (7 * x4)) - 10) < 2147483648 := by intros; omega) (k1 : ∀ M1 : dsMem, R1 M1 → ∀ M2 : dsMem, R2 M1 M2 → (¬ x5 = 0) → (¬ x5 = 0) → (¬ (dsAnd (dsShr (M2 107 (M2 85 0)) (M2 85 ((15 + (3 * x2)) + 2))) 1) = 1) → Q [uI (((M2 102 ((6 * (M2 85 0)) + x2)) + (7 * x4)) - 10)] M2) (s5 : ∀ M1 : dsMem, R1 M1 → ∀ M2 : dsMem, R2 M1 M2 → (¬ x5 = 0) → (¬ x5 = 0) → ((dsAnd (dsShr (M2 107 (M2 85 0)) (M2 85 ((15 + (3 * x2)) + 2))) 1) = 1) → -2147483648 ≤ (((M2 102 ((6 * (M2 85 0)) + x2)) + (7 * x4)) - 0) ∧ (((M2 102 ((6 * (M2 85 0)) + x2)) + (7 * x4)) - 0) < 2147483648 := by intros; omega) (k2 : ∀ M1 : dsMem, R1 M1 → ∀ M2 : dsMem, R2 M1 M2 → (¬ x5 = 0) → (¬ x5 = 0) → ((dsAnd (dsShr (M2 107 (M2 85 0)) (M2 85 ((15 + (3 * x2)) + 2))) 1) = 1) → Q [uI (((M2 102 ((6 * (M2 85 0)) + x2)) + (7 * x4)) - 0)] M2) (s6 : ∀ M1 : dsMem, R1 M1 → ∀ M2 : dsMem, R2 M1 M2 → (¬ x5 = 0) → (x5 = 0) → 0 ≤ (M2 85 0) ∧ (M2 85 0) < 13 := by intros; omega) (s7 : ∀ M1 : dsMem, R1 M1 → ∀ M2 : dsMem, R2 M1 M2 → (¬ x5 = 0) → (x5 = 0) → 0 ≤ ((15 + (3 * x2)) + 2) ∧ ((15 + (3 * x2)) + 2) < 105 := by intros; omega) (s8 : ∀ M1 : dsMem, R1 M1 → ∀ M2 : dsMem, R2 M1 M2 → (¬ x5 = 0) → (x5 = 0) → (¬ (dsAnd (dsShr (M2 107 (M2 85 0)) (M2 85 ((15 + (3 * x2)) + 2))) 1) = 1) → -2147483648 ≤ (((M2 102 ((6 * (M2 85 0)) + x2)) + (7 * x3)) - 10) ∧ (((M2 102 ((6 * (M2 85 0)) + x2)) + (7 * x3)) - 10) < 2147483648 := by intros; omega) (k3 : ∀ M1 : dsMem, R1 M1 → ∀ M2 : dsMem, R2 M1 M2 → (¬ x5 = 0) → (x5 = 0) → (¬ (dsAnd (dsShr (M2 107 (M2 85 0)) (M2 85 ((15 + (3 * x2)) + 2))) 1) = 1) → Q [uI (((M2 102 ((6 * (M2 85 0)) + x2)) + (7 * x3)) - 10)] M2) (s9 : ∀ M1 : dsMem, R1 M1 → ∀ M2 : dsMem, R2 M1 M2 → (¬ x5 = 0) → (x5 = 0) → ((dsAnd (dsShr (M2 107 (M2 85 0)) (M2 85 ((15 + (3 * x2)) + 2))) 1) = 1) → -2147483648 ≤ (((M2 102 ((6 * (M2 85 0)) + x2)) + (7 * x3)) - 0) ∧ (((M2 102 ((6 * (M2 85 0)) + x2)) + (7 * x3)) - 0) < 2147483648 := by intros; omega) (k4 : ∀ M1 : dsMem, R1 M1 → ∀ M2 : dsMem, R2 M1 M2 → (¬ x5 = 0) → (x5 = 0) → ((dsAnd (dsShr (M2 107 (M2 85 0)) (M2 85 ((15 + (3 * x2)) + 2))) 1) = 1) → Q [uI (((M2 102 ((6 * (M2 85 0)) + x2)) + (7 * x3)) - 0)] M2) (s10 : ∀ M1 : dsMem, R1 M1 → ∀ M2 : dsMem, R2 M1 M2 → (x5 = 0) → 0 ≤ ((6 * (M2 85 0)) + x1) ∧ ((6 * (M2 85 0)) + x1) < 78 := by intros; omega) (s11 : ∀ M1 : dsMem, R1 M1 → ∀ M2 : dsMem, R2 M1 M2 → (x5 = 0) → (¬ x5 = 0) → 0 ≤ (M2 85 0) ∧ (M2 85 0) < 13 := by intros; omega) (s12 : ∀ M1 : dsMem, R1 M1 → ∀ M2 : dsMem, R2 M1 M2 → (x5 = 0) → (¬ x5 = 0) → 0 ≤ ((15 + (3 * x1)) + 2) ∧ ((15 + (3 * x1)) + 2) < 105 := by intros; omega) (s13 : ∀ M1 : dsMem, R1 M1 → ∀ M2 : dsMem, R2 M1 M2 → (x5 = 0) → (¬ x5 = 0) → (¬ (dsAnd (dsShr (M2 107 (M2 85 0)) (M2 85 ((15 + (3 * x1)) + 2))) 1) = 1) → -2147483648 ≤ (((M2 102 ((6 * (M2 85 0)) + x1)) + (7 * x4)) - 10) ∧ (((M2 102 ((6 * (M2 85 0)) + x1)) + (7 * x4)) - 10) < 2147483648 := by intros; omega) (k5 : ∀ M1 : dsMem, R1 M1 → ∀ M2 : dsMem, R2 M1 M2 → (x5 = 0) → (¬ x5 = 0) → (¬ (dsAnd (dsShr (M2 107 (M2 85 0)) (M2 85 ((15 + (3 * x1)) + 2))) 1) = 1) → Q [uI (((M2 102 ((6 * (M2 85 0)) + x1)) + (7 * x4)) - 10)] M2) (s14 : ∀ M1 : dsMem, R1 M1 → ∀ M2 : dsMem, R2 M1 M2 → (x5 = 0) → (¬ x5 = 0) → ((dsAnd (dsShr (M2 107 (M2 85 0)) (M2 85 ((15 + (3 * x1)) + 2))) 1) = 1) → -2147483648 ≤ (((M2 102 ((6 * (M2 85 0)) + x1)) + (7 * x4)) - 0) ∧ (((M2 102 ((6 * (M2 85 0)) + x1)) + (7 * x4)) - 0) < 2147483648 := by intros; omega) (k6 : ∀ M1 : dsMem, R1 M1 → ∀ M2 : dsMem, R2 M1 M2 → (x5 = 0) → (¬ x5 = 0) → ((dsAnd (dsShr (M2 107 (M2 85 0)) (M2 85 ((15 + (3 * x1)) + 2))) 1) = 1) → Q [uI (((M2 102 ((6 * (M2 85 0)) + x1)) + (7 * x4)) - 0)] M2) (s15 : ∀ M1 : dsMem, R1 M1 → ∀ M2 : dsMem, R2 M1 M2 → (x5 = 0) → (x5 = 0) → 0 ≤ (M2 85 0) ∧ (M2 85 0) < 13 := by intros; omega) (s16 : ∀ M1 : dsMem, R1 M1 → ∀ M2 : dsMem, R2 M1 M2 → (x5 = 0) → (x5 = 0) → 0 ≤ ((15 + (3 * x1)) + 2) ∧ ((15 + (3 * x1)) + 2) < 105 := by intros; omega) (s17 : ∀ M1 : dsMem, R1 M1 → ∀ M2 : dsMem, R2 M1 M2 → (x5 = 0) → (x5 = 0) → (¬ (dsAnd (dsShr (M2 107 (M2 85 0)) (M2 85 ((15 + (3 * x1)) + 2))) 1) = 1) → -2147483648 ≤ (((M2 102 ((6 * (M2 85 0)) + x1)) + (7 * x3)) - 10) ∧ (((M2 102 ((6 * (M2 85 0)) + x1)) + (7 * x3)) - 10) < 2147483648 := by intros; omega) (k7 : ∀ M1 : dsMem, R1 M1 → ∀ M2 : dsMem, R2 M1 M2 → (x5 = 0) → (x5 = 0) → (¬ (dsAnd (dsShr (M2 107 (M2 85 0)) (M2 85 ((15 + (3 * x1)) + 2))) 1) = 1) → Q [uI (((M2 102 ((6 * (M2 85 0)) + x1)) + (7 * x3)) - 10)] M2) (s18 : ∀ M1 : dsMem, R1 M1 → ∀ M2 : dsMem, R2 M1 M2 → (x5 = 0) → (x5 = 0) → ((dsAnd (dsShr (M2 107 (M2 85 0)) (M2 85 ((15 + (3 * x1)) + 2))) 1) = 1) → -2147483648 ≤ (((M2 102 ((6 * (M2 85 0)) + x1)) + (7 * x3)) - 0) ∧ (((M2 102 ((6 * (M2 85 0)) + x1)) + (7 * x3)) - 0) < 2147483648 := by intros; omega) (k8 : ∀ M1 : dsMem, R1 M1 → ∀ M2 : dsMem, R2 M1 M2 → (x5 = 0) → (x5 = 0) → ((dsAnd (dsShr (M2 107 (M2 85 0)) (M2 85 ((15 + (3 * x1)) + 2))) 1) = 1) → Q [uI (((M2 102 ((6 * (M2 85 0)) + x1)) + (7 * x3)) - 0)] M2) :
    bB 310 0 [uR 11 84, uI x1, uI x2, uI x3, uI x4, uI x5, uX 0] [] M Q := by
  refine b_aload_n (d310 (j := 0) rfl) rfl ?_
  refine b_callV (d310 (j := 1) rfl) rfl rfl (Or.inl rfl) rfl (bCk_mk (n := 0) (k := 1) (by decide +kernel) rfl rfl) ((hA1) _ (fun M1 hR1 => ?_))
  refine b_stk [] rfl ?_
  refine b_aload_n (d310 (j := 2) rfl) rfl ?_
  refine b_iload_n (d310 (j := 3) rfl) rfl ?_
  refine b_iload_n (d310 (j := 4) rfl) rfl ?_
  refine b_ishl (d310 (j := 5) rfl) ?_
  refine b_iload (d310 (j := 6) rfl) rfl ?_
  refine b_iload_n (d310 (j := 7) rfl) rfl ?_
  refine b_ishl (d310 (j := 8) rfl) ?_
  refine b_ior (d310 (j := 9) rfl) ?_
  refine b_putI (d310 (j := 10) rfl) rfl ⟨rfl, rfl⟩ rfl rfl ?_
  refine b_aload_n (d310 (j := 11) rfl) rfl ?_
  refine b_callV (d310 (j := 12) rfl) rfl rfl (Or.inl rfl) rfl (bCk_mk (n := 0) (k := 1) (by decide +kernel) rfl rfl) ((hA2 M1 hR1) _ (fun M2 hR2 => ?_))
  refine b_stk [] rfl ?_
  refine b_iload (d310 (j := 13) rfl) rfl ?_
  refine b_if_ne (d310 (j := 14) rfl) (fun c1 => ?_) (fun c1 => ?_)
  ·
    refine b_iload_n (d310 (j := 17) rfl) rfl ?_
    refine b_istore [uR 11 84, uI x1, uI x2, uI x3, uI x4, uI x5, uI x2] (d310 (j := 18) rfl) (by decide) rfl ?_
    refine b_aload_n (d310 (j := 19) rfl) rfl ?_
    refine b_iload (d310 (j := 20) rfl) rfl ?_
    refine b_callV (d310 (j := 21) rfl) rfl rfl (Or.inl rfl) rfl (bCk_mk (n := 0) (k := 2) (by decide +kernel) rfl rfl) (pu241 (s1 M1 hR1 M2 hR2 c1) ?_)
    refine b_stk [uI (M2 102 ((6 * (M2 85 0)) + x2))] rfl ?_
    refine b_bipush (d310 (j := 22) rfl) (by decide) ?_
    refine b_iload (d310 (j := 23) rfl) rfl ?_
    refine b_if_ne (d310 (j := 24) rfl) (fun c2 => ?_) (fun c2 => ?_)
    ·
      refine b_iload (d310 (j := 27) rfl) rfl ?_
      refine b_imul (d310 (j := 28) rfl) rfl rfl ?_
      refine b_iadd (d310 (j := 29) rfl) rfl (dsw_dsw _) ?_
      refine b_aload_n (d310 (j := 30) rfl) rfl ?_
      refine b_getR (d310 (j := 31) rfl) rfl rfl rfl rfl ?_
      refine b_stk [uR 27 107, uI (dsw (((M2 102 ((6 * (M2 85 0)) + x2)) + (7 * x4))))] rfl ?_
      refine b_aload_n (d310 (j := 32) rfl) rfl ?_
      refine b_callV (d310 (j := 33) rfl) rfl rfl (Or.inl rfl) rfl (bCk_mk (n := 2) (k := 1) (by decide +kernel) rfl rfl) (pu183  ?_)
      refine b_stk [uI (M2 85 0), uR 27 107, uI (dsw (((M2 102 ((6 * (M2 85 0)) + x2)) + (7 * x4))))] rfl ?_
      refine b_iaload (d310 (j := 34) rfl) rfl (s2 M1 hR1 M2 hR2 c1 c2) ?_
      refine b_aload_n (d310 (j := 35) rfl) rfl ?_
      refine b_iload (d310 (j := 36) rfl) rfl ?_
      refine b_callV (d310 (j := 37) rfl) rfl rfl (Or.inl rfl) rfl (bCk_mk (n := 2) (k := 2) (by decide +kernel) rfl rfl) (pu193 (s3 M1 hR1 M2 hR2 c1 c2) ?_)
      refine b_stk [uI (M2 85 ((15 + (3 * x2)) + 2)), uI (M2 107 (M2 85 0)), uI (dsw (((M2 102 ((6 * (M2 85 0)) + x2)) + (7 * x4))))] rfl ?_
      refine b_callS (d310 (j := 38) rfl) (Or.inl rfl) rfl (bCk_mk (n := 1) (k := 2) (by decide +kernel) rfl rfl) (pu179  ?_)
      refine b_stk [uI (dsAnd (dsShr (M2 107 (M2 85 0)) (M2 85 ((15 + (3 * x2)) + 2))) 1), uI (dsw (((M2 102 ((6 * (M2 85 0)) + x2)) + (7 * x4))))] rfl ?_
      refine b_iconst (d310 (j := 39) rfl) (by decide) ?_
      refine b_icmp_ne (d310 (j := 40) rfl) (fun c3 => ?_) (fun c3 => ?_)
      ·
        refine b_bipush (d310 (j := 43) rfl) (by decide) ?_
        refine b_isub (d310 (j := 44) rfl) (dsw_dsw _) rfl ?_
        refine b_stk [uI (((M2 102 ((6 * (M2 85 0)) + x2)) + (7 * x4)) - 10)] (by rw [dsw_r (s4 M1 hR1 M2 hR2 c1 c2 c3)]) ?_
        exact b_iret (d310 (j := 45) rfl) rfl (k1 M1 hR1 M2 hR2 c1 c2 c3)
      ·
        refine b_iconst (d310 (j := 41) rfl) (by decide) ?_
        refine b_goto (d310 (j := 42) rfl) ?_
        refine b_isub (d310 (j := 44) rfl) (dsw_dsw _) rfl ?_
        refine b_stk [uI (((M2 102 ((6 * (M2 85 0)) + x2)) + (7 * x4)) - 0)] (by rw [dsw_r (s5 M1 hR1 M2 hR2 c1 c2 c3)]) ?_
        exact b_iret (d310 (j := 45) rfl) rfl (k2 M1 hR1 M2 hR2 c1 c2 c3)
    ·
      refine b_iload_n (d310 (j := 25) rfl) rfl ?_
      refine b_goto (d310 (j := 26) rfl) ?_
      refine b_imul (d310 (j := 28) rfl) rfl rfl ?_
      refine b_iadd (d310 (j := 29) rfl) rfl (dsw_dsw _) ?_
      refine b_aload_n (d310 (j := 30) rfl) rfl ?_
      refine b_getR (d310 (j := 31) rfl) rfl rfl rfl rfl ?_
      refine b_stk [uR 27 107, uI (dsw (((M2 102 ((6 * (M2 85 0)) + x2)) + (7 * x3))))] rfl ?_
      refine b_aload_n (d310 (j := 32) rfl) rfl ?_
      refine b_callV (d310 (j := 33) rfl) rfl rfl (Or.inl rfl) rfl (bCk_mk (n := 2) (k := 1) (by decide +kernel) rfl rfl) (pu183  ?_)
      refine b_stk [uI (M2 85 0), uR 27 107, uI (dsw (((M2 102 ((6 * (M2 85 0)) + x2)) + (7 * x3))))] rfl ?_
      refine b_iaload (d310 (j := 34) rfl) rfl (s6 M1 hR1 M2 hR2 c1 c2) ?_
      refine b_aload_n (d310 (j := 35) rfl) rfl ?_
      refine b_iload (d310 (j := 36) rfl) rfl ?_
      refine b_callV (d310 (j := 37) rfl) rfl rfl (Or.inl rfl) rfl (bCk_mk (n := 2) (k := 2) (by decide +kernel) rfl rfl) (pu193 (s7 M1 hR1 M2 hR2 c1 c2) ?_)
      refine b_stk [uI (M2 85 ((15 + (3 * x2)) + 2)), uI (M2 107 (M2 85 0)), uI (dsw (((M2 102 ((6 * (M2 85 0)) + x2)) + (7 * x3))))] rfl ?_
      refine b_callS (d310 (j := 38) rfl) (Or.inl rfl) rfl (bCk_mk (n := 1) (k := 2) (by decide +kernel) rfl rfl) (pu179  ?_)
      refine b_stk [uI (dsAnd (dsShr (M2 107 (M2 85 0)) (M2 85 ((15 + (3 * x2)) + 2))) 1), uI (dsw (((M2 102 ((6 * (M2 85 0)) + x2)) + (7 * x3))))] rfl ?_
      refine b_iconst (d310 (j := 39) rfl) (by decide) ?_
      refine b_icmp_ne (d310 (j := 40) rfl) (fun c4 => ?_) (fun c4 => ?_)
      ·
        refine b_bipush (d310 (j := 43) rfl) (by decide) ?_
        refine b_isub (d310 (j := 44) rfl) (dsw_dsw _) rfl ?_
        refine b_stk [uI (((M2 102 ((6 * (M2 85 0)) + x2)) + (7 * x3)) - 10)] (by rw [dsw_r (s8 M1 hR1 M2 hR2 c1 c2 c4)]) ?_
        exact b_iret (d310 (j := 45) rfl) rfl (k3 M1 hR1 M2 hR2 c1 c2 c4)
      ·
        refine b_iconst (d310 (j := 41) rfl) (by decide) ?_
        refine b_goto (d310 (j := 42) rfl) ?_
        refine b_isub (d310 (j := 44) rfl) (dsw_dsw _) rfl ?_
        refine b_stk [uI (((M2 102 ((6 * (M2 85 0)) + x2)) + (7 * x3)) - 0)] (by rw [dsw_r (s9 M1 hR1 M2 hR2 c1 c2 c4)]) ?_
        exact b_iret (d310 (j := 45) rfl) rfl (k4 M1 hR1 M2 hR2 c1 c2 c4)
  ·
    refine b_iload_n (d310 (j := 15) rfl) rfl ?_
    refine b_goto (d310 (j := 16) rfl) ?_
    refine b_istore [uR 11 84, uI x1, uI x2, uI x3, uI x4, uI x5, uI x1] (d310 (j := 18) rfl) (by decide) rfl ?_
    refine b_aload_n (d310 (j := 19) rfl) rfl ?_
    refine b_iload (d310 (j := 20) rfl) rfl ?_
    refine b_callV (d310 (j := 21) rfl) rfl rfl (Or.inl rfl) rfl (bCk_mk (n := 0) (k := 2) (by decide +kernel) rfl rfl) (pu241 (s10 M1 hR1 M2 hR2 c1) ?_)
    refine b_stk [uI (M2 102 ((6 * (M2 85 0)) + x1))] rfl ?_
    refine b_bipush (d310 (j := 22) rfl) (by decide) ?_
    refine b_iload (d310 (j := 23) rfl) rfl ?_
    refine b_if_ne (d310 (j := 24) rfl) (fun c5 => ?_) (fun c5 => ?_)
    ·
      refine b_iload (d310 (j := 27) rfl) rfl ?_
      refine b_imul (d310 (j := 28) rfl) rfl rfl ?_
      refine b_iadd (d310 (j := 29) rfl) rfl (dsw_dsw _) ?_
      refine b_aload_n (d310 (j := 30) rfl) rfl ?_
      refine b_getR (d310 (j := 31) rfl) rfl rfl rfl rfl ?_
      refine b_stk [uR 27 107, uI (dsw (((M2 102 ((6 * (M2 85 0)) + x1)) + (7 * x4))))] rfl ?_
      refine b_aload_n (d310 (j := 32) rfl) rfl ?_
      refine b_callV (d310 (j := 33) rfl) rfl rfl (Or.inl rfl) rfl (bCk_mk (n := 2) (k := 1) (by decide +kernel) rfl rfl) (pu183  ?_)
      refine b_stk [uI (M2 85 0), uR 27 107, uI (dsw (((M2 102 ((6 * (M2 85 0)) + x1)) + (7 * x4))))] rfl ?_
      refine b_iaload (d310 (j := 34) rfl) rfl (s11 M1 hR1 M2 hR2 c1 c5) ?_
      refine b_aload_n (d310 (j := 35) rfl) rfl ?_
      refine b_iload (d310 (j := 36) rfl) rfl ?_
      refine b_callV (d310 (j := 37) rfl) rfl rfl (Or.inl rfl) rfl (bCk_mk (n := 2) (k := 2) (by decide +kernel) rfl rfl) (pu193 (s12 M1 hR1 M2 hR2 c1 c5) ?_)
      refine b_stk [uI (M2 85 ((15 + (3 * x1)) + 2)), uI (M2 107 (M2 85 0)), uI (dsw (((M2 102 ((6 * (M2 85 0)) + x1)) + (7 * x4))))] rfl ?_
      refine b_callS (d310 (j := 38) rfl) (Or.inl rfl) rfl (bCk_mk (n := 1) (k := 2) (by decide +kernel) rfl rfl) (pu179  ?_)
      refine b_stk [uI (dsAnd (dsShr (M2 107 (M2 85 0)) (M2 85 ((15 + (3 * x1)) + 2))) 1), uI (dsw (((M2 102 ((6 * (M2 85 0)) + x1)) + (7 * x4))))] rfl ?_
      refine b_iconst (d310 (j := 39) rfl) (by decide) ?_
      refine b_icmp_ne (d310 (j := 40) rfl) (fun c6 => ?_) (fun c6 => ?_)
      ·
        refine b_bipush (d310 (j := 43) rfl) (by decide) ?_
        refine b_isub (d310 (j := 44) rfl) (dsw_dsw _) rfl ?_
        refine b_stk [uI (((M2 102 ((6 * (M2 85 0)) + x1)) + (7 * x4)) - 10)] (by rw [dsw_r (s13 M1 hR1 M2 hR2 c1 c5 c6)]) ?_
        exact b_iret (d310 (j := 45) rfl) rfl (k5 M1 hR1 M2 hR2 c1 c5 c6)
      ·
        refine b_iconst (d310 (j := 41) rfl) (by decide) ?_
        refine b_goto (d310 (j := 42) rfl) ?_
        refine b_isub (d310 (j := 44) rfl) (dsw_dsw _) rfl ?_
        refine b_stk [uI (((M2 102 ((6 * (M2 85 0)) + x1)) + (7 * x4)) - 0)] (by rw [dsw_r (s14 M1 hR1 M2 hR2 c1 c5 c6)]) ?_
        exact b_iret (d310 (j := 45) rfl) rfl (k6 M1 hR1 M2 hR2 c1 c5 c6)
    ·
      refine b_iload_n (d310 (j := 25) rfl) rfl ?_
      refine b_goto (d310 (j := 26) rfl) ?_
      refine b_imul (d310 (j := 28) rfl) rfl rfl ?_
      refine b_iadd (d310 (j := 29) rfl) rfl (dsw_dsw _) ?_
      refine b_aload_n (d310 (j := 30) rfl) rfl ?_
      refine b_getR (d310 (j := 31) rfl) rfl rfl rfl rfl ?_
      refine b_stk [uR 27 107, uI (dsw (((M2 102 ((6 * (M2 85 0)) + x1)) + (7 * x3))))] rfl ?_
      refine b_aload_n (d310 (j := 32) rfl) rfl ?_
      refine b_callV (d310 (j := 33) rfl) rfl rfl (Or.inl rfl) rfl (bCk_mk (n := 2) (k := 1) (by decide +kernel) rfl rfl) (pu183  ?_)
      refine b_stk [uI (M2 85 0), uR 27 107, uI (dsw (((M2 102 ((6 * (M2 85 0)) + x1)) + (7 * x3))))] rfl ?_
      refine b_iaload (d310 (j := 34) rfl) rfl (s15 M1 hR1 M2 hR2 c1 c5) ?_
      refine b_aload_n (d310 (j := 35) rfl) rfl ?_
      refine b_iload (d310 (j := 36) rfl) rfl ?_
      refine b_callV (d310 (j := 37) rfl) rfl rfl (Or.inl rfl) rfl (bCk_mk (n := 2) (k := 2) (by decide +kernel) rfl rfl) (pu193 (s16 M1 hR1 M2 hR2 c1 c5) ?_)
      refine b_stk [uI (M2 85 ((15 + (3 * x1)) + 2)), uI (M2 107 (M2 85 0)), uI (dsw (((M2 102 ((6 * (M2 85 0)) + x1)) + (7 * x3))))] rfl ?_
      refine b_callS (d310 (j := 38) rfl) (Or.inl rfl) rfl (bCk_mk (n := 1) (k := 2) (by decide +kernel) rfl rfl) (pu179  ?_)
      refine b_stk [uI (dsAnd (dsShr (M2 107 (M2 85 0)) (M2 85 ((15 + (3 * x1)) + 2))) 1), uI (dsw (((M2 102 ((6 * (M2 85 0)) + x1)) + (7 * x3))))] rfl ?_
      refine b_iconst (d310 (j := 39) rfl) (by decide) ?_
      refine b_icmp_ne (d310 (j := 40) rfl) (fun c7 => ?_) (fun c7 => ?_)
      ·
        refine b_bipush (d310 (j := 43) rfl) (by decide) ?_
        refine b_isub (d310 (j := 44) rfl) (dsw_dsw _) rfl ?_
        refine b_stk [uI (((M2 102 ((6 * (M2 85 0)) + x1)) + (7 * x3)) - 10)] (by rw [dsw_r (s17 M1 hR1 M2 hR2 c1 c5 c7)]) ?_
        exact b_iret (d310 (j := 45) rfl) rfl (k7 M1 hR1 M2 hR2 c1 c5 c7)
      ·
        refine b_iconst (d310 (j := 41) rfl) (by decide) ?_
        refine b_goto (d310 (j := 42) rfl) ?_
        refine b_isub (d310 (j := 44) rfl) (dsw_dsw _) rfl ?_
        refine b_stk [uI (((M2 102 ((6 * (M2 85 0)) + x1)) + (7 * x3)) - 0)] (by rw [dsw_r (s18 M1 hR1 M2 hR2 c1 c5 c7)]) ?_
        exact b_iret (d310 (j := 45) rfl) rfl (k8 M1 hR1 M2 hR2 c1 c5 c7)
def L312 : List (Nat × Instr × Nat × Nat) := [(0, .aload_n 0, 1, 0), (1, .iload_n 1, 2, 0), (2, .iload_n 2, 3, 0), (3, .invokevirtual 474, 6, 0), (6, .ifCond .ne 6, 9, 12), (9, .bipush (-2), 11, 0), (11, .ireturn, 12, 0), (12, .iconst 0, 13, 0), (13, .istore_n 3, 14, 0), (14, .iconst 0, 15, 0), (15, .istore 4, 17, 0), (17, .iload 4, 19, 0), (19, .iconst 4, 20, 0), (20, .if_icmp .ge 98, 23, 118), (23, .iload 4, 25, 0), (25, .iconst 1, 26, 0), (26, .iand, 27, 0), (27, .istore 5, 29, 0), (29, .iload 4, 31, 0), (31, .iconst 1, 32, 0), (32, .ishr, 33, 0), (33, .istore 6, 35, 0), (35, .aload_n 0, 36, 0), (36, .iload_n 1, 37, 0), (37, .iload_n 2, 38, 0), (38, .iload 5, 40, 0), (40, .iload 6, 42, 0), (42, .iconst 0, 43, 0), (43, .invokevirtual 477, 46, 0), (46, .aload_n 0, 47, 0), (47, .iload_n 1, 48, 0), (48, .iload_n 2, 49, 0), (49, .iconst 1, 50, 0), (50, .iload 5, 52, 0), (52, .isub, 53, 0), (53, .iload 6, 55, 0), (55, .iconst 0, 56, 0), (56, .invokevirtual 477, 59, 0), (59, .if_icmp .lt 34, 62, 93), (62, .aload_n 0, 63, 0), (63, .iload_n 1, 64, 0), (64, .iload_n 2, 65, 0), (65, .iload 5, 67, 0), (67, .iload 6, 69, 0), (69, .iconst 1, 70, 0), (70, .invokevirtual 477, 73, 0), (73, .aload_n 0, 74, 0), (74, .iload_n 1, 75, 0), (75, .iload_n 2, 76, 0), (76, .iload 5, 78, 0), (78, .iconst 1, 79, 0), (79, .iload 6, 81, 0), (81, .isub, 82, 0), (82, .iconst 1, 83, 0), (83, .invokevirtual 477, 86, 0), (86, .if_icmp .lt 7, 89, 93), (89, .iconst 1, 90, 0), (90, .goto 4, 93, 94), (93, .iconst 0, 94, 0), (94, .istore 7, 96, 0), (96, .iload_n 3, 97, 0), (97, .iload 7, 99, 0), (99, .ifCond .eq 10, 102, 109), (102, .iconst 1, 103, 0), (103, .iload 4, 105, 0), (105, .ishl, 106, 0), (106, .goto 4, 109, 110), (109, .iconst 0, 110, 0), (110, .ior, 111, 0), (111, .istore_n 3, 112, 0), (112, .iinc 4 1, 115, 0), (115, .goto (-98), 118, 17), (118, .iload_n 3, 119, 0), (119, .ireturn, 120, 0)]
set_option maxRecDepth 100000 in
theorem L312_ok : L312.all (dck 312) = true := by decide +kernel
theorem d312 {j pc nx tg : Nat} {ins : Instr} (hj : L312[j]? = some (pc, ins, nx, tg)) : dcd 312 pc ins nx tg := dcl_ok L312_ok hj
set_option maxRecDepth 100000 in
set_option maxHeartbeats 4000000 in
theorem r312_0 {x1 x2 : Int}  {M : dsMem} {Q : bQT} (s1 : -2147483648 ≤ ((M 85 4) - 1) ∧ ((M 85 4) - 1) < 2147483648 := by intros; omega) (k1 : (((0 ≤ x1 ∧ x1 ≤ (M 85 4) - 1) ∧ (0 ≤ x2 ∧ x2 ≤ (M 85 4) - 1) ∧ ¬ x1 = x2)) → bB 312 17 [uR 11 84, uI x1, uI x2, uI 0, uI 0, uX 0, uX 0, uX 0] [] M Q) (k2 : (¬ ((0 ≤ x1 ∧ x1 ≤ (M 85 4) - 1) ∧ (0 ≤ x2 ∧ x2 ≤ (M 85 4) - 1) ∧ ¬ x1 = x2)) → Q [uI (-2)] M) :
    bB 312 0 [uR 11 84, uI x1, uI x2, uX 0, uX 0, uX 0, uX 0, uX 0] [] M Q := by
  refine b_aload_n (d312 (j := 0) rfl) rfl ?_
  refine b_iload_n (d312 (j := 1) rfl) rfl ?_
  refine b_iload_n (d312 (j := 2) rfl) rfl ?_
  refine b_callV (d312 (j := 3) rfl) rfl rfl (Or.inl rfl) rfl (bCk_mk (n := 0) (k := 3) (by decide +kernel) rfl rfl) (pu311 s1 ?_)
  refine b_stk [uI (if ((0 ≤ x1 ∧ x1 ≤ (M 85 4) - 1) ∧ (0 ≤ x2 ∧ x2 ≤ (M 85 4) - 1) ∧ ¬ x1 = x2) then 1 else 0)] rfl ?_
  refine b_ifneP (d312 (j := 4) rfl) (fun c1 => ?_) (fun c1 => ?_)
  ·
    refine b_iconst (d312 (j := 7) rfl) (by decide) ?_
    refine b_istore_n [uR 11 84, uI x1, uI x2, uI 0, uX 0, uX 0, uX 0, uX 0] (d312 (j := 8) rfl) (by decide) rfl ?_
    refine b_iconst (d312 (j := 9) rfl) (by decide) ?_
    refine b_istore [uR 11 84, uI x1, uI x2, uI 0, uI 0, uX 0, uX 0, uX 0] (d312 (j := 10) rfl) (by decide) rfl ?_
    exact (k1 c1)
  ·
    refine b_bipush (d312 (j := 5) rfl) (by decide) ?_
    exact b_iret (d312 (j := 6) rfl) rfl (k2 c1)
set_option maxRecDepth 100000 in
set_option maxHeartbeats 4000000 in
theorem r312_17 {x1 x2 x3 x4 : Int} {R1 : dsMem → Prop} {g1 : dsMem → Int} {R2 : dsMem → dsMem → Prop} {g2 : dsMem → dsMem → Int} {R3 : dsMem → dsMem → dsMem → Prop} {g3 : dsMem → dsMem → dsMem → Int} {R4 : dsMem → dsMem → dsMem → dsMem → Prop} {g4 : dsMem → dsMem → dsMem → dsMem → Int} {M : dsMem} {Q : bQT} (k1 : (4 ≤ x4) → Q [uI x3] M) (hA1 : (¬ 4 ≤ x4) → bCt 310 [uR 11 84, uI x1, uI x2, uI (dsAnd x4 1), uI (dsShr x4 1), uI 0, uX 0] M (fun M1 => [uI (g1 M1)]) R1) (s1 : (¬ 4 ≤ x4) → ∀ M1 : dsMem, R1 M1 → -2147483648 ≤ (1 - (dsAnd x4 1)) ∧ (1 - (dsAnd x4 1)) < 2147483648 := by intros; omega) (hA2 : (¬ 4 ≤ x4) → ∀ M1 : dsMem, R1 M1 → bCt 310 [uR 11 84, uI x1, uI x2, uI (1 - (dsAnd x4 1)), uI (dsShr x4 1), uI 0, uX 0] M1 (fun M2 => [uI (g2 M1 M2)]) (R2 M1)) (s2 : (¬ 4 ≤ x4) → ∀ M1 : dsMem, R1 M1 → ∀ M2 : dsMem, R2 M1 M2 → ((g1 M1) < (g2 M1 M2)) → -2147483648 ≤ x4 + 1 ∧ x4 + 1 < 2147483648 := by intros; omega) (k2 : (¬ 4 ≤ x4) → ∀ M1 : dsMem, R1 M1 → ∀ M2 : dsMem, R2 M1 M2 → ((g1 M1) < (g2 M1 M2)) → bB 312 17 [uR 11 84, uI x1, uI x2, uI (dsOr x3 0), uI (x4 + 1), uX 0, uX 0, uX 0] [] M2 Q) (hA3 : (¬ 4 ≤ x4) → ∀ M1 : dsMem, R1 M1 → ∀ M2 : dsMem, R2 M1 M2 → (¬ (g1 M1) < (g2 M1 M2)) → bCt 310 [uR 11 84, uI x1, uI x2, uI (dsAnd x4 1), uI (dsShr x4 1), uI 1, uX 0] M2 (fun M3 => [uI (g3 M1 M2 M3)]) (R3 M1 M2)) (s3 : (¬ 4 ≤ x4) → ∀ M1 : dsMem, R1 M1 → ∀ M2 : dsMem, R2 M1 M2 → (¬ (g1 M1) < (g2 M1 M2)) → ∀ M3 : dsMem, R3 M1 M2 M3 → -2147483648 ≤ (1 - (dsShr x4 1)) ∧ (1 - (dsShr x4 1)) < 2147483648 := by intros; omega) (hA4 : (¬ 4 ≤ x4) → ∀ M1 : dsMem, R1 M1 → ∀ M2 : dsMem, R2 M1 M2 → (¬ (g1 M1) < (g2 M1 M2)) → ∀ M3 : dsMem, R3 M1 M2 M3 → bCt 310 [uR 11 84, uI x1, uI x2, uI (dsAnd x4 1), uI (1 - (dsShr x4 1)), uI 1, uX 0] M3 (fun M4 => [uI (g4 M1 M2 M3 M4)]) (R4 M1 M2 M3)) (s4 : (¬ 4 ≤ x4) → ∀ M1 : dsMem, R1 M1 → ∀ M2 : dsMem, R2 M1 M2 → (¬ (g1 M1) < (g2 M1 M2)) → ∀ M3 : dsMem, R3 M1 M2 M3 → ∀ M4 : dsMem, R4 M1 M2 M3 M4 → ((g3 M1 M2 M3) < (g4 M1 M2 M3 M4)) → -2147483648 ≤ x4 + 1 ∧ x4 + 1 < 2147483648 := by intros; omega) (k3 : (¬ 4 ≤ x4) → ∀ M1 : dsMem, R1 M1 → ∀ M2 : dsMem, R2 M1 M2 → (¬ (g1 M1) < (g2 M1 M2)) → ∀ M3 : dsMem, R3 M1 M2 M3 → ∀ M4 : dsMem, R4 M1 M2 M3 M4 → ((g3 M1 M2 M3) < (g4 M1 M2 M3 M4)) → bB 312 17 [uR 11 84, uI x1, uI x2, uI (dsOr x3 0), uI (x4 + 1), uX 0, uX 0, uX 0] [] M4 Q) (s5 : (¬ 4 ≤ x4) → ∀ M1 : dsMem, R1 M1 → ∀ M2 : dsMem, R2 M1 M2 → (¬ (g1 M1) < (g2 M1 M2)) → ∀ M3 : dsMem, R3 M1 M2 M3 → ∀ M4 : dsMem, R4 M1 M2 M3 M4 → (¬ (g3 M1 M2 M3) < (g4 M1 M2 M3 M4)) → -2147483648 ≤ x4 + 1 ∧ x4 + 1 < 2147483648 := by intros; omega) (k4 : (¬ 4 ≤ x4) → ∀ M1 : dsMem, R1 M1 → ∀ M2 : dsMem, R2 M1 M2 → (¬ (g1 M1) < (g2 M1 M2)) → ∀ M3 : dsMem, R3 M1 M2 M3 → ∀ M4 : dsMem, R4 M1 M2 M3 M4 → (¬ (g3 M1 M2 M3) < (g4 M1 M2 M3 M4)) → bB 312 17 [uR 11 84, uI x1, uI x2, uI (dsOr x3 (dsShl 1 x4)), uI (x4 + 1), uX 0, uX 0, uX 0] [] M4 Q) :
    bB 312 17 [uR 11 84, uI x1, uI x2, uI x3, uI x4, uX 0, uX 0, uX 0] [] M Q := by
  refine b_iload (d312 (j := 11) rfl) rfl ?_
  refine b_iconst (d312 (j := 12) rfl) (by decide) ?_
  refine b_icmp_ge (d312 (j := 13) rfl) (fun c1 => ?_) (fun c1 => ?_)
  ·
    refine b_iload_n (d312 (j := 72) rfl) rfl ?_
    exact b_iret (d312 (j := 73) rfl) rfl (k1 c1)
  ·
    refine b_iload (d312 (j := 14) rfl) rfl ?_
    refine b_iconst (d312 (j := 15) rfl) (by decide) ?_
    refine b_iand (d312 (j := 16) rfl) ?_
    refine b_istore [uR 11 84, uI x1, uI x2, uI x3, uI x4, uI (dsAnd x4 1), uX 0, uX 0] (d312 (j := 17) rfl) (by decide) rfl ?_
    refine b_iload (d312 (j := 18) rfl) rfl ?_
    refine b_iconst (d312 (j := 19) rfl) (by decide) ?_
    refine b_ishr (d312 (j := 20) rfl) ?_
    refine b_istore [uR 11 84, uI x1, uI x2, uI x3, uI x4, uI (dsAnd x4 1), uI (dsShr x4 1), uX 0] (d312 (j := 21) rfl) (by decide) rfl ?_
    refine b_aload_n (d312 (j := 22) rfl) rfl ?_
    refine b_iload_n (d312 (j := 23) rfl) rfl ?_
    refine b_iload_n (d312 (j := 24) rfl) rfl ?_
    refine b_iload (d312 (j := 25) rfl) rfl ?_
    refine b_iload (d312 (j := 26) rfl) rfl ?_
    refine b_iconst (d312 (j := 27) rfl) (by decide) ?_
    refine b_callV (d312 (j := 28) rfl) rfl rfl (Or.inl rfl) rfl (bCk_mk (n := 0) (k := 6) (by decide +kernel) rfl rfl) ((hA1 c1) _ (fun M1 hR1 => ?_))
    refine b_stk [uI (g1 M1)] rfl ?_
    refine b_aload_n (d312 (j := 29) rfl) rfl ?_
    refine b_iload_n (d312 (j := 30) rfl) rfl ?_
    refine b_iload_n (d312 (j := 31) rfl) rfl ?_
    refine b_iconst (d312 (j := 32) rfl) (by decide) ?_
    refine b_iload (d312 (j := 33) rfl) rfl ?_
    refine b_isub (d312 (j := 34) rfl) rfl rfl ?_
    refine b_iload (d312 (j := 35) rfl) rfl ?_
    refine b_iconst (d312 (j := 36) rfl) (by decide) ?_
    refine b_stk [uI 0, uI (dsShr x4 1), uI (1 - (dsAnd x4 1)), uI x2, uI x1, uR 11 84, uI (g1 M1)] (by rw [dsw_r (s1 c1 M1 hR1)]) ?_
    refine b_callV (d312 (j := 37) rfl) rfl rfl (Or.inl rfl) rfl (bCk_mk (n := 1) (k := 6) (by decide +kernel) rfl rfl) ((hA2 c1 M1 hR1) _ (fun M2 hR2 => ?_))
    refine b_stk [uI (g2 M1 M2), uI (g1 M1)] rfl ?_
    refine b_icmp_lt (d312 (j := 38) rfl) (fun c2 => ?_) (fun c2 => ?_)
    ·
      refine b_iconst (d312 (j := 58) rfl) (by decide) ?_
      refine b_istore [uR 11 84, uI x1, uI x2, uI x3, uI x4, uI (dsAnd x4 1), uI (dsShr x4 1), uI 0] (d312 (j := 59) rfl) (by decide) rfl ?_
      refine b_iload_n (d312 (j := 60) rfl) rfl ?_
      refine b_iload (d312 (j := 61) rfl) rfl ?_
      refine b_if_eq (d312 (j := 62) rfl) (fun _ => ?_) (fun q => absurd q (by decide))
      refine b_iconst (d312 (j := 67) rfl) (by decide) ?_
      refine b_ior (d312 (j := 68) rfl) ?_
      refine b_istore_n [uR 11 84, uI x1, uI x2, uI (dsOr x3 0), uI x4, uI (dsAnd x4 1), uI (dsShr x4 1), uI 0] (d312 (j := 69) rfl) (by decide) rfl ?_
      refine b_iinc [uR 11 84, uI x1, uI x2, uI (dsOr x3 0), uI (x4 + 1), uI (dsAnd x4 1), uI (dsShr x4 1), uI 0] (d312 (j := 70) rfl) rfl (by decide) (s2 c1 M1 hR1 M2 hR2 c2) rfl ?_
      refine b_goto (d312 (j := 71) rfl) ?_
      exact bB_le _ (bLe_s (bLe_s (bLe_s (bLe_s (bLe_s (bLe_x (bLe_x (bLe_x bLe_nil)))))))) (k2 c1 M1 hR1 M2 hR2 c2)
    ·
      refine b_aload_n (d312 (j := 39) rfl) rfl ?_
      refine b_iload_n (d312 (j := 40) rfl) rfl ?_
      refine b_iload_n (d312 (j := 41) rfl) rfl ?_
      refine b_iload (d312 (j := 42) rfl) rfl ?_
      refine b_iload (d312 (j := 43) rfl) rfl ?_
      refine b_iconst (d312 (j := 44) rfl) (by decide) ?_
      refine b_callV (d312 (j := 45) rfl) rfl rfl (Or.inl rfl) rfl (bCk_mk (n := 0) (k := 6) (by decide +kernel) rfl rfl) ((hA3 c1 M1 hR1 M2 hR2 c2) _ (fun M3 hR3 => ?_))
      refine b_stk [uI (g3 M1 M2 M3)] rfl ?_
      refine b_aload_n (d312 (j := 46) rfl) rfl ?_
      refine b_iload_n (d312 (j := 47) rfl) rfl ?_
      refine b_iload_n (d312 (j := 48) rfl) rfl ?_
      refine b_iload (d312 (j := 49) rfl) rfl ?_
      refine b_iconst (d312 (j := 50) rfl) (by decide) ?_
      refine b_iload (d312 (j := 51) rfl) rfl ?_
      refine b_isub (d312 (j := 52) rfl) rfl rfl ?_
      refine b_iconst (d312 (j := 53) rfl) (by decide) ?_
      refine b_stk [uI 1, uI (1 - (dsShr x4 1)), uI (dsAnd x4 1), uI x2, uI x1, uR 11 84, uI (g3 M1 M2 M3)] (by rw [dsw_r (s3 c1 M1 hR1 M2 hR2 c2 M3 hR3)]) ?_
      refine b_callV (d312 (j := 54) rfl) rfl rfl (Or.inl rfl) rfl (bCk_mk (n := 1) (k := 6) (by decide +kernel) rfl rfl) ((hA4 c1 M1 hR1 M2 hR2 c2 M3 hR3) _ (fun M4 hR4 => ?_))
      refine b_stk [uI (g4 M1 M2 M3 M4), uI (g3 M1 M2 M3)] rfl ?_
      refine b_icmp_lt (d312 (j := 55) rfl) (fun c4 => ?_) (fun c4 => ?_)
      ·
        refine b_iconst (d312 (j := 58) rfl) (by decide) ?_
        refine b_istore [uR 11 84, uI x1, uI x2, uI x3, uI x4, uI (dsAnd x4 1), uI (dsShr x4 1), uI 0] (d312 (j := 59) rfl) (by decide) rfl ?_
        refine b_iload_n (d312 (j := 60) rfl) rfl ?_
        refine b_iload (d312 (j := 61) rfl) rfl ?_
        refine b_if_eq (d312 (j := 62) rfl) (fun _ => ?_) (fun q => absurd q (by decide))
        refine b_iconst (d312 (j := 67) rfl) (by decide) ?_
        refine b_ior (d312 (j := 68) rfl) ?_
        refine b_istore_n [uR 11 84, uI x1, uI x2, uI (dsOr x3 0), uI x4, uI (dsAnd x4 1), uI (dsShr x4 1), uI 0] (d312 (j := 69) rfl) (by decide) rfl ?_
        refine b_iinc [uR 11 84, uI x1, uI x2, uI (dsOr x3 0), uI (x4 + 1), uI (dsAnd x4 1), uI (dsShr x4 1), uI 0] (d312 (j := 70) rfl) rfl (by decide) (s4 c1 M1 hR1 M2 hR2 c2 M3 hR3 M4 hR4 c4) rfl ?_
        refine b_goto (d312 (j := 71) rfl) ?_
        exact bB_le _ (bLe_s (bLe_s (bLe_s (bLe_s (bLe_s (bLe_x (bLe_x (bLe_x bLe_nil)))))))) (k3 c1 M1 hR1 M2 hR2 c2 M3 hR3 M4 hR4 c4)
      ·
        refine b_iconst (d312 (j := 56) rfl) (by decide) ?_
        refine b_goto (d312 (j := 57) rfl) ?_
        refine b_istore [uR 11 84, uI x1, uI x2, uI x3, uI x4, uI (dsAnd x4 1), uI (dsShr x4 1), uI 1] (d312 (j := 59) rfl) (by decide) rfl ?_
        refine b_iload_n (d312 (j := 60) rfl) rfl ?_
        refine b_iload (d312 (j := 61) rfl) rfl ?_
        refine b_if_eq (d312 (j := 62) rfl) (fun q => absurd q (by decide)) (fun _ => ?_)
        refine b_iconst (d312 (j := 63) rfl) (by decide) ?_
        refine b_iload (d312 (j := 64) rfl) rfl ?_
        refine b_ishl (d312 (j := 65) rfl) ?_
        refine b_goto (d312 (j := 66) rfl) ?_
        refine b_ior (d312 (j := 68) rfl) ?_
        refine b_istore_n [uR 11 84, uI x1, uI x2, uI (dsOr x3 (dsShl 1 x4)), uI x4, uI (dsAnd x4 1), uI (dsShr x4 1), uI 1] (d312 (j := 69) rfl) (by decide) rfl ?_
        refine b_iinc [uR 11 84, uI x1, uI x2, uI (dsOr x3 (dsShl 1 x4)), uI (x4 + 1), uI (dsAnd x4 1), uI (dsShr x4 1), uI 1] (d312 (j := 70) rfl) rfl (by decide) (s5 c1 M1 hR1 M2 hR2 c2 M3 hR3 M4 hR4 c4) rfl ?_
        refine b_goto (d312 (j := 71) rfl) ?_
        exact bB_le _ (bLe_s (bLe_s (bLe_s (bLe_s (bLe_s (bLe_x (bLe_x (bLe_x bLe_nil)))))))) (k4 c1 M1 hR1 M2 hR2 c2 M3 hR3 M4 hR4 c4)
def L313 : List (Nat × Instr × Nat × Nat) := [(0, .aload_n 0, 1, 0), (1, .iload_n 1, 2, 0), (2, .iload_n 2, 3, 0), (3, .invokevirtual 474, 6, 0), (6, .ifCond .eq 37, 9, 43), (9, .iload_n 3, 10, 0), (10, .i2l, 11, 0), (11, .lconst 0, 12, 0), (12, .lconst 1, 13, 0), (13, .invokestatic 112, 16, 0), (16, .ifCond .eq 27, 19, 43), (19, .iload 4, 21, 0), (21, .i2l, 22, 0), (22, .lconst 0, 23, 0), (23, .lconst 1, 24, 0), (24, .invokestatic 112, 27, 0), (27, .ifCond .eq 16, 30, 43), (30, .aload_n 0, 31, 0), (31, .iload_n 1, 32, 0), (32, .iload_n 2, 33, 0), (33, .iload_n 3, 34, 0), (34, .iload 4, 36, 0), (36, .iconst 0, 37, 0), (37, .invokevirtual 477, 40, 0), (40, .goto 6, 43, 46), (43, .sipush (-1000), 46, 0), (46, .ireturn, 47, 0)]
set_option maxRecDepth 100000 in
theorem L313_ok : L313.all (dck 313) = true := by decide +kernel
theorem d313 {j pc nx tg : Nat} {ins : Instr} (hj : L313[j]? = some (pc, ins, nx, tg)) : dcd 313 pc ins nx tg := dcl_ok L313_ok hj
set_option maxRecDepth 100000 in
set_option maxHeartbeats 4000000 in
theorem r313_0 {x1 x2 x3 x4 : Int} {R1 : dsMem → Prop} {g1 : dsMem → Int} {M : dsMem} {Q : bQT} (s1 : -2147483648 ≤ ((M 85 4) - 1) ∧ ((M 85 4) - 1) < 2147483648 := by intros; omega) (k1 : (¬ ((0 ≤ x1 ∧ x1 ≤ (M 85 4) - 1) ∧ (0 ≤ x2 ∧ x2 ≤ (M 85 4) - 1) ∧ ¬ x1 = x2)) → Q [uI (-1000)] M) (k2 : (((0 ≤ x1 ∧ x1 ≤ (M 85 4) - 1) ∧ (0 ≤ x2 ∧ x2 ≤ (M 85 4) - 1) ∧ ¬ x1 = x2)) → (¬ (0 ≤ x3 ∧ x3 ≤ 1)) → Q [uI (-1000)] M) (k3 : (((0 ≤ x1 ∧ x1 ≤ (M 85 4) - 1) ∧ (0 ≤ x2 ∧ x2 ≤ (M 85 4) - 1) ∧ ¬ x1 = x2)) → ((0 ≤ x3 ∧ x3 ≤ 1)) → (¬ (0 ≤ x4 ∧ x4 ≤ 1)) → Q [uI (-1000)] M) (hA1 : (((0 ≤ x1 ∧ x1 ≤ (M 85 4) - 1) ∧ (0 ≤ x2 ∧ x2 ≤ (M 85 4) - 1) ∧ ¬ x1 = x2)) → ((0 ≤ x3 ∧ x3 ≤ 1)) → ((0 ≤ x4 ∧ x4 ≤ 1)) → bCt 310 [uR 11 84, uI x1, uI x2, uI x3, uI x4, uI 0, uX 0] M (fun M1 => [uI (g1 M1)]) R1) (k4 : (((0 ≤ x1 ∧ x1 ≤ (M 85 4) - 1) ∧ (0 ≤ x2 ∧ x2 ≤ (M 85 4) - 1) ∧ ¬ x1 = x2)) → ((0 ≤ x3 ∧ x3 ≤ 1)) → ((0 ≤ x4 ∧ x4 ≤ 1)) → ∀ M1 : dsMem, R1 M1 → Q [uI (g1 M1)] M1) :
    bB 313 0 [uR 11 84, uI x1, uI x2, uI x3, uI x4] [] M Q := by
  refine b_aload_n (d313 (j := 0) rfl) rfl ?_
  refine b_iload_n (d313 (j := 1) rfl) rfl ?_
  refine b_iload_n (d313 (j := 2) rfl) rfl ?_
  refine b_callV (d313 (j := 3) rfl) rfl rfl (Or.inl rfl) rfl (bCk_mk (n := 0) (k := 3) (by decide +kernel) rfl rfl) (pu311 s1 ?_)
  refine b_stk [uI (if ((0 ≤ x1 ∧ x1 ≤ (M 85 4) - 1) ∧ (0 ≤ x2 ∧ x2 ≤ (M 85 4) - 1) ∧ ¬ x1 = x2) then 1 else 0)] rfl ?_
  refine b_ifeqP (d313 (j := 4) rfl) (fun c1 => ?_) (fun c1 => ?_)
  ·
    refine b_sipush (d313 (j := 25) rfl) (by decide) ?_
    exact b_iret (d313 (j := 26) rfl) rfl (k1 c1)
  ·
    refine b_iload_n (d313 (j := 5) rfl) rfl ?_
    refine b_i2l (d313 (j := 6) rfl) ?_
    refine b_lconst (d313 (j := 7) rfl) ?_
    refine b_stk [uJ 0, uJ x3] rfl ?_
    refine b_lconst (d313 (j := 8) rfl) ?_
    refine b_stk [uJ 1, uJ 0, uJ x3] rfl ?_
    refine b_callS (d313 (j := 9) rfl) (Or.inl rfl) rfl (bCk_mk (n := 0) (k := 6) (by decide +kernel) rfl rfl) (pu177  ?_)
    refine b_stk [uI (if (0 ≤ x3 ∧ x3 ≤ 1) then 1 else 0)] rfl ?_
    refine b_ifeqP (d313 (j := 10) rfl) (fun c2 => ?_) (fun c2 => ?_)
    ·
      refine b_sipush (d313 (j := 25) rfl) (by decide) ?_
      exact b_iret (d313 (j := 26) rfl) rfl (k2 c1 c2)
    ·
      refine b_iload (d313 (j := 11) rfl) rfl ?_
      refine b_i2l (d313 (j := 12) rfl) ?_
      refine b_lconst (d313 (j := 13) rfl) ?_
      refine b_stk [uJ 0, uJ x4] rfl ?_
      refine b_lconst (d313 (j := 14) rfl) ?_
      refine b_stk [uJ 1, uJ 0, uJ x4] rfl ?_
      refine b_callS (d313 (j := 15) rfl) (Or.inl rfl) rfl (bCk_mk (n := 0) (k := 6) (by decide +kernel) rfl rfl) (pu177  ?_)
      refine b_stk [uI (if (0 ≤ x4 ∧ x4 ≤ 1) then 1 else 0)] rfl ?_
      refine b_ifeqP (d313 (j := 16) rfl) (fun c3 => ?_) (fun c3 => ?_)
      ·
        refine b_sipush (d313 (j := 25) rfl) (by decide) ?_
        exact b_iret (d313 (j := 26) rfl) rfl (k3 c1 c2 c3)
      ·
        refine b_aload_n (d313 (j := 17) rfl) rfl ?_
        refine b_iload_n (d313 (j := 18) rfl) rfl ?_
        refine b_iload_n (d313 (j := 19) rfl) rfl ?_
        refine b_iload_n (d313 (j := 20) rfl) rfl ?_
        refine b_iload (d313 (j := 21) rfl) rfl ?_
        refine b_iconst (d313 (j := 22) rfl) (by decide) ?_
        refine b_callV (d313 (j := 23) rfl) rfl rfl (Or.inl rfl) rfl (bCk_mk (n := 0) (k := 6) (by decide +kernel) rfl rfl) ((hA1 c1 c2 c3) _ (fun M1 hR1 => ?_))
        refine b_stk [uI (g1 M1)] rfl ?_
        refine b_goto (d313 (j := 24) rfl) ?_
        exact b_iret (d313 (j := 26) rfl) rfl (k4 c1 c2 c3 M1 hR1)
def L314 : List (Nat × Instr × Nat × Nat) := [(0, .aload_n 0, 1, 0), (1, .lconst 0, 2, 0), (2, .putfield 481, 5, 0), (5, .aload_n 0, 6, 0), (6, .lconst 0, 7, 0), (7, .putfield 485, 10, 0), (10, .aload_n 0, 11, 0), (11, .lconst 0, 12, 0), (12, .putfield 488, 15, 0), (15, .aload_n 0, 16, 0), (16, .invokevirtual 358, 19, 0), (19, .aload_n 0, 20, 0), (20, .getfield 9, 23, 0), (23, .iconst 5, 24, 0), (24, .iaload, 25, 0), (25, .istore_n 2, 26, 0), (26, .iconst 0, 27, 0), (27, .istore_n 3, 28, 0), (28, .iload_n 3, 29, 0), (29, .iconst 1, 30, 0), (30, .iload_n 2, 31, 0), (31, .ishl, 32, 0), (32, .if_icmp .ge 135, 35, 167), (35, .lconst 1, 36, 0), (36, .lstore 4, 38, 0), (38, .iconst 0, 39, 0), (39, .istore 6, 41, 0), (41, .iload 6, 43, 0), (43, .iload_n 2, 44, 0), (44, .if_icmp .ge 44, 47, 88), (47, .lload 4, 49, 0), (49, .iload_n 3, 50, 0), (50, .iload 6, 52, 0), (52, .invokestatic 304, 55, 0), (55, .iconst 1, 56, 0), (56, .if_icmp .ne 13, 59, 69), (59, .aload_n 0, 60, 0), (60, .getfield 9, 63, 0), (63, .iconst 2, 64, 0), (64, .iaload, 65, 0), (65, .i2l, 66, 0), (66, .goto 13, 69, 79), (69, .bipush 10, 71, 0), (71, .aload_n 0, 72, 0), (72, .getfield 9, 75, 0), (75, .iconst 2, 76, 0), (76, .iaload, 77, 0), (77, .isub, 78, 0), (78, .i2l, 79, 0), (79, .lmul, 80, 0), (80, .lstore 4, 82, 0), (82, .iinc 6 1, 85, 0), (85, .goto (-44), 88, 41), (88, .lload 4, 90, 0), (90, .lconst 0, 91, 0), (91, .lcmp, 92, 0), (92, .ifCond .ne 6, 95, 98), (95, .goto 66, 98, 161), (98, .aload_n 0, 99, 0), (99, .iload_n 3, 100, 0), (100, .putfield 280, 103, 0), (103, .aload_n 0, 104, 0), (104, .invokevirtual 361, 107, 0), (107, .aload_n 0, 108, 0), (108, .dup, 109, 0), (109, .getfield 481, 112, 0), (112, .lload 4, 114, 0), (114, .ladd, 115, 0), (115, .putfield 481, 118, 0), (118, .aload_n 0, 119, 0), (119, .dup, 120, 0), (120, .getfield 485, 123, 0), (123, .lload 4, 125, 0), (125, .aload_n 0, 126, 0), (126, .getfield 82, 129, 0), (129, .aload_n 0, 130, 0), (130, .invokevirtual 124, 133, 0), (133, .iaload, 134, 0), (134, .iload_n 1, 135, 0), (135, .invokestatic 304, 138, 0), (138, .i2l, 139, 0), (139, .lmul, 140, 0), (140, .ladd, 141, 0), (141, .putfield 485, 144, 0), (144, .aload_n 0, 145, 0), (145, .dup, 146, 0), (146, .getfield 488, 149, 0), (149, .lload 4, 151, 0), (151, .aload_n 0, 152, 0), (152, .invokevirtual 414, 155, 0), (155, .i2l, 156, 0), (156, .lmul, 157, 0), (157, .ladd, 158, 0), (158, .putfield 488, 161, 0), (161, .iinc 3 1, 164, 0), (164, .goto (-136), 167, 28), (167, .return_, 168, 0)]
set_option maxRecDepth 100000 in
theorem L314_ok : L314.all (dck 314) = true := by decide +kernel
theorem d314 {j pc nx tg : Nat} {ins : Instr} (hj : L314[j]? = some (pc, ins, nx, tg)) : dcd 314 pc ins nx tg := dcl_ok L314_ok hj
set_option maxRecDepth 100000 in
set_option maxHeartbeats 4000000 in
theorem r314_0 {x1 : Int} {R1 : dsMem → Prop} {M : dsMem} {Q : bQT} (hA1 : bCt 220 [uR 11 84, uX 0] (dsSet (dsSet (dsSet M 84 46 0) 84 47 0) 84 48 0) (fun _ => []) R1) (k1 : ∀ M1 : dsMem, R1 M1 → bB 314 28 [uR 11 84, uI x1, uI (M1 85 5), uI 0, uX 0, uX 0, uX 0] [] M1 Q) :
    bB 314 0 [uR 11 84, uI x1, uX 0, uX 0, uX 0, uX 0, uX 0] [] M Q := by
  refine b_aload_n (d314 (j := 0) rfl) rfl ?_
  refine b_lconst (d314 (j := 1) rfl) ?_
  refine b_stk [uJ 0, uR 11 84] rfl ?_
  refine b_putJ (d314 (j := 2) rfl) rfl ⟨rfl, rfl⟩ rfl rfl ?_
  refine b_aload_n (d314 (j := 3) rfl) rfl ?_
  refine b_lconst (d314 (j := 4) rfl) ?_
  refine b_stk [uJ 0, uR 11 84] rfl ?_
  refine b_putJ (d314 (j := 5) rfl) rfl ⟨rfl, rfl⟩ rfl rfl ?_
  refine b_aload_n (d314 (j := 6) rfl) rfl ?_
  refine b_lconst (d314 (j := 7) rfl) ?_
  refine b_stk [uJ 0, uR 11 84] rfl ?_
  refine b_putJ (d314 (j := 8) rfl) rfl ⟨rfl, rfl⟩ rfl rfl ?_
  refine b_aload_n (d314 (j := 9) rfl) rfl ?_
  refine b_callV (d314 (j := 10) rfl) rfl rfl (Or.inl rfl) rfl (bCk_mk (n := 0) (k := 1) (by decide +kernel) rfl rfl) ((hA1) _ (fun M1 hR1 => ?_))
  refine b_stk [] rfl ?_
  refine b_aload_n (d314 (j := 11) rfl) rfl ?_
  refine b_getR (d314 (j := 12) rfl) rfl rfl rfl rfl ?_
  refine b_stk [uR 38 85] rfl ?_
  refine b_iconst (d314 (j := 13) rfl) (by decide) ?_
  refine b_iaload (d314 (j := 14) rfl) rfl (by decide) ?_
  refine b_istore_n [uR 11 84, uI x1, uI (M1 85 5), uX 0, uX 0, uX 0, uX 0] (d314 (j := 15) rfl) (by decide) rfl ?_
  refine b_iconst (d314 (j := 16) rfl) (by decide) ?_
  refine b_istore_n [uR 11 84, uI x1, uI (M1 85 5), uI 0, uX 0, uX 0, uX 0] (d314 (j := 17) rfl) (by decide) rfl ?_
  exact (k1 M1 hR1)
set_option maxRecDepth 100000 in
set_option maxHeartbeats 4000000 in
theorem r314_28 {x1 x2 x3 : Int} {R1 : dsMem → Prop} {M : dsMem} {Q : bQT} (k1 : ((dsShl 1 x2) ≤ x3) → Q [] M) (s1 : (¬ (dsShl 1 x2) ≤ x3) → ∀ i314_1 : Int, ∀ a314_1 : Int, 0 ≤ i314_1 → i314_1 < x2 → (¬ (dsAnd (dsShr x3 i314_1) 1) = 1) → -2147483648 ≤ (10 - (M 85 2)) ∧ (10 - (M 85 2)) < 2147483648 := by intros; omega) (s2 : (¬ (dsShl 1 x2) ≤ x3) → ∀ i314_1 : Int, ∀ a314_1 : Int, 0 ≤ i314_1 → i314_1 < x2 → -2147483648 ≤ i314_1 + 1 ∧ i314_1 + 1 < 2147483648 := by intros; omega) (hA1 : (¬ (dsShl 1 x2) ≤ x3) → (¬ (dsIter (fun (i314_1 : Int) (a314_1 : Int) => (if (dsAnd (dsShr x3 i314_1) 1) = 1 then (dsw64 ((a314_1 * (M 85 2)))) else (dsw64 ((a314_1 * (10 - (M 85 2))))))) 0 x2 1) = 0) → bCt 234 [uR 11 84, uX 0] (dsSet M 84 18 x3) (fun _ => []) R1) (s3 : (¬ (dsShl 1 x2) ≤ x3) → (¬ (dsIter (fun (i314_1 : Int) (a314_1 : Int) => (if (dsAnd (dsShr x3 i314_1) 1) = 1 then (dsw64 ((a314_1 * (M 85 2)))) else (dsw64 ((a314_1 * (10 - (M 85 2))))))) 0 x2 1) = 0) → ∀ M1 : dsMem, R1 M1 → 0 ≤ (M1 85 0) ∧ (M1 85 0) < 13 := by intros; omega) (s4 : (¬ (dsShl 1 x2) ≤ x3) → (¬ (dsIter (fun (i314_1 : Int) (a314_1 : Int) => (if (dsAnd (dsShr x3 i314_1) 1) = 1 then (dsw64 ((a314_1 * (M 85 2)))) else (dsw64 ((a314_1 * (10 - (M 85 2))))))) 0 x2 1) = 0) → ∀ M1 : dsMem, R1 M1 → ∀ i242_1 : Int, ∀ a242_1 : Int, 0 ≤ i242_1 → i242_1 < ((dsSet (dsSet M1 84 46 (dsw64 (((M1 84 46) + (dsIter (fun (i314_1 : Int) (a314_1 : Int) => (if (dsAnd (dsShr x3 i314_1) 1) = 1 then (dsw64 ((a314_1 * (M 85 2)))) else (dsw64 ((a314_1 * (10 - (M 85 2))))))) 0 x2 1))))) 84 47 (dsw64 (((M1 84 47) + ((dsIter (fun (i314_1 : Int) (a314_1 : Int) => (if (dsAnd (dsShr x3 i314_1) 1) = 1 then (dsw64 ((a314_1 * (M 85 2)))) else (dsw64 ((a314_1 * (10 - (M 85 2))))))) 0 x2 1) * (dsAnd (dsShr (M1 107 (M1 85 0)) x1) 1)))))) 85 4) → 0 ≤ ((6 * ((dsSet (dsSet M1 84 46 (dsw64 (((M1 84 46) + (dsIter (fun (i314_1 : Int) (a314_1 : Int) => (if (dsAnd (dsShr x3 i314_1) 1) = 1 then (dsw64 ((a314_1 * (M 85 2)))) else (dsw64 ((a314_1 * (10 - (M 85 2))))))) 0 x2 1))))) 84 47 (dsw64 (((M1 84 47) + ((dsIter (fun (i314_1 : Int) (a314_1 : Int) => (if (dsAnd (dsShr x3 i314_1) 1) = 1 then (dsw64 ((a314_1 * (M 85 2)))) else (dsw64 ((a314_1 * (10 - (M 85 2))))))) 0 x2 1) * (dsAnd (dsShr (M1 107 (M1 85 0)) x1) 1)))))) 85 0)) + i242_1) ∧ ((6 * ((dsSet (dsSet M1 84 46 (dsw64 (((M1 84 46) + (dsIter (fun (i314_1 : Int) (a314_1 : Int) => (if (dsAnd (dsShr x3 i314_1) 1) = 1 then (dsw64 ((a314_1 * (M 85 2)))) else (dsw64 ((a314_1 * (10 - (M 85 2))))))) 0 x2 1))))) 84 47 (dsw64 (((M1 84 47) + ((dsIter (fun (i314_1 : Int) (a314_1 : Int) => (if (dsAnd (dsShr x3 i314_1) 1) = 1 then (dsw64 ((a314_1 * (M 85 2)))) else (dsw64 ((a314_1 * (10 - (M 85 2))))))) 0 x2 1) * (dsAnd (dsShr (M1 107 (M1 85 0)) x1) 1)))))) 85 0)) + i242_1) < 78 := by intros; omega) (s5 : (¬ (dsShl 1 x2) ≤ x3) → (¬ (dsIter (fun (i314_1 : Int) (a314_1 : Int) => (if (dsAnd (dsShr x3 i314_1) 1) = 1 then (dsw64 ((a314_1 * (M 85 2)))) else (dsw64 ((a314_1 * (10 - (M 85 2))))))) 0 x2 1) = 0) → ∀ M1 : dsMem, R1 M1 → ∀ i242_1 : Int, ∀ a242_1 : Int, 0 ≤ i242_1 → i242_1 < ((dsSet (dsSet M1 84 46 (dsw64 (((M1 84 46) + (dsIter (fun (i314_1 : Int) (a314_1 : Int) => (if (dsAnd (dsShr x3 i314_1) 1) = 1 then (dsw64 ((a314_1 * (M 85 2)))) else (dsw64 ((a314_1 * (10 - (M 85 2))))))) 0 x2 1))))) 84 47 (dsw64 (((M1 84 47) + ((dsIter (fun (i314_1 : Int) (a314_1 : Int) => (if (dsAnd (dsShr x3 i314_1) 1) = 1 then (dsw64 ((a314_1 * (M 85 2)))) else (dsw64 ((a314_1 * (10 - (M 85 2))))))) 0 x2 1) * (dsAnd (dsShr (M1 107 (M1 85 0)) x1) 1)))))) 85 4) → -2147483648 ≤ i242_1 + 1 ∧ i242_1 + 1 < 2147483648 := by intros; omega) (s6 : (¬ (dsShl 1 x2) ≤ x3) → (¬ (dsIter (fun (i314_1 : Int) (a314_1 : Int) => (if (dsAnd (dsShr x3 i314_1) 1) = 1 then (dsw64 ((a314_1 * (M 85 2)))) else (dsw64 ((a314_1 * (10 - (M 85 2))))))) 0 x2 1) = 0) → ∀ M1 : dsMem, R1 M1 → -2147483648 ≤ x3 + 1 ∧ x3 + 1 < 2147483648 := by intros; omega) (k2 : (¬ (dsShl 1 x2) ≤ x3) → (¬ (dsIter (fun (i314_1 : Int) (a314_1 : Int) => (if (dsAnd (dsShr x3 i314_1) 1) = 1 then (dsw64 ((a314_1 * (M 85 2)))) else (dsw64 ((a314_1 * (10 - (M 85 2))))))) 0 x2 1) = 0) → ∀ M1 : dsMem, R1 M1 → bB 314 28 [uR 11 84, uI x1, uI x2, uI (x3 + 1), uX 0, uX 0, uX 0] [] (dsSet (dsSet (dsSet M1 84 46 (dsw64 (((M1 84 46) + (dsIter (fun (i314_1 : Int) (a314_1 : Int) => (if (dsAnd (dsShr x3 i314_1) 1) = 1 then (dsw64 ((a314_1 * (M 85 2)))) else (dsw64 ((a314_1 * (10 - (M 85 2))))))) 0 x2 1))))) 84 47 (dsw64 (((M1 84 47) + ((dsIter (fun (i314_1 : Int) (a314_1 : Int) => (if (dsAnd (dsShr x3 i314_1) 1) = 1 then (dsw64 ((a314_1 * (M 85 2)))) else (dsw64 ((a314_1 * (10 - (M 85 2))))))) 0 x2 1) * (dsAnd (dsShr (M1 107 (M1 85 0)) x1) 1)))))) 84 48 (dsw64 (((M1 84 48) + ((dsIter (fun (i314_1 : Int) (a314_1 : Int) => (if (dsAnd (dsShr x3 i314_1) 1) = 1 then (dsw64 ((a314_1 * (M 85 2)))) else (dsw64 ((a314_1 * (10 - (M 85 2))))))) 0 x2 1) * (v243 (dsSet (dsSet M1 84 46 (dsw64 (((M1 84 46) + (dsIter (fun (i314_1 : Int) (a314_1 : Int) => (if (dsAnd (dsShr x3 i314_1) 1) = 1 then (dsw64 ((a314_1 * (M 85 2)))) else (dsw64 ((a314_1 * (10 - (M 85 2))))))) 0 x2 1))))) 84 47 (dsw64 (((M1 84 47) + ((dsIter (fun (i314_1 : Int) (a314_1 : Int) => (if (dsAnd (dsShr x3 i314_1) 1) = 1 then (dsw64 ((a314_1 * (M 85 2)))) else (dsw64 ((a314_1 * (10 - (M 85 2))))))) 0 x2 1) * (dsAnd (dsShr (M1 107 (M1 85 0)) x1) 1)))))))))))) Q) (s7 : (¬ (dsShl 1 x2) ≤ x3) → ((dsIter (fun (i314_1 : Int) (a314_1 : Int) => (if (dsAnd (dsShr x3 i314_1) 1) = 1 then (dsw64 ((a314_1 * (M 85 2)))) else (dsw64 ((a314_1 * (10 - (M 85 2))))))) 0 x2 1) = 0) → -2147483648 ≤ x3 + 1 ∧ x3 + 1 < 2147483648 := by intros; omega) (k3 : (¬ (dsShl 1 x2) ≤ x3) → ((dsIter (fun (i314_1 : Int) (a314_1 : Int) => (if (dsAnd (dsShr x3 i314_1) 1) = 1 then (dsw64 ((a314_1 * (M 85 2)))) else (dsw64 ((a314_1 * (10 - (M 85 2))))))) 0 x2 1) = 0) → bB 314 28 [uR 11 84, uI x1, uI x2, uI (x3 + 1), uX 0, uX 0, uX 0] [] M Q) :
    bB 314 28 [uR 11 84, uI x1, uI x2, uI x3, uX 0, uX 0, uX 0] [] M Q := by
  refine b_iload_n (d314 (j := 18) rfl) rfl ?_
  refine b_iconst (d314 (j := 19) rfl) (by decide) ?_
  refine b_iload_n (d314 (j := 20) rfl) rfl ?_
  refine b_ishl (d314 (j := 21) rfl) ?_
  refine b_icmp_ge (d314 (j := 22) rfl) (fun c1 => ?_) (fun c1 => ?_)
  ·
    exact b_vret (d314 (j := 96) rfl) rfl (k1 c1)
  ·
    refine b_lconst (d314 (j := 23) rfl) ?_
    refine b_stk [uJ 1] rfl ?_
    refine b_lstore [uR 11 84, uI x1, uI x2, uI x3, uJ 1, uX 0, uX 0] (d314 (j := 24) rfl) (by decide) rfl ?_
    refine b_iconst (d314 (j := 25) rfl) (by decide) ?_
    refine b_istore [uR 11 84, uI x1, uI x2, uI x3, uJ 1, uX 0, uI 0] (d314 (j := 26) rfl) (by decide) rfl ?_
    refine b_for (fun (i314_1 : Int) (a314_1 : Int) => [uR 11 84, uI x1, uI x2, uI x3, uJ a314_1, uX 0, uI i314_1]) (fun (i314_1 : Int) (a314_1 : Int) => (if (dsAnd (dsShr x3 i314_1) 1) = 1 then (dsw64 ((a314_1 * (M 85 2)))) else (dsw64 ((a314_1 * (10 - (M 85 2))))))) 0 x2 1 (fun i314_1 a314_1 h314_1l h314_1r hk314_1 => ?_) (fun i314_1 h314_1l h314_1r => ?_)
    ·
      refine b_iload (d314 (j := 27) rfl) rfl ?_
      refine b_iload_n (d314 (j := 28) rfl) rfl ?_
      refine b_icmp_ge (d314 (j := 29) rfl) (fun c2 => ?_) (fun c2 => ?_)
      · exfalso; omega
      ·
        refine b_lload (d314 (j := 30) rfl) rfl ?_
        refine b_iload_n (d314 (j := 31) rfl) rfl ?_
        refine b_iload (d314 (j := 32) rfl) rfl ?_
        refine b_callS (d314 (j := 33) rfl) (Or.inl rfl) rfl (bCk_mk (n := 2) (k := 2) (by decide +kernel) rfl rfl) (pu179  ?_)
        refine b_stk [uI (dsAnd (dsShr x3 i314_1) 1), uJ a314_1] rfl ?_
        refine b_iconst (d314 (j := 34) rfl) (by decide) ?_
        refine b_icmp_ne (d314 (j := 35) rfl) (fun c3 => ?_) (fun c3 => ?_)
        ·
          rw [if_neg c3] at hk314_1
          refine b_bipush (d314 (j := 42) rfl) (by decide) ?_
          refine b_aload_n (d314 (j := 43) rfl) rfl ?_
          refine b_getR (d314 (j := 44) rfl) rfl rfl rfl rfl ?_
          refine b_stk [uR 38 85, uI 10, uJ a314_1] rfl ?_
          refine b_iconst (d314 (j := 45) rfl) (by decide) ?_
          refine b_iaload (d314 (j := 46) rfl) rfl (by decide) ?_
          refine b_isub (d314 (j := 47) rfl) rfl rfl ?_
          refine b_stk [uI (10 - (M 85 2)), uJ a314_1] (by rw [dsw_r (s1 c1 i314_1 a314_1 h314_1l h314_1r c3)]) ?_
          refine b_i2l (d314 (j := 48) rfl) ?_
          refine b_lmul (d314 (j := 49) rfl) rfl rfl ?_
          refine b_lstore [uR 11 84, uI x1, uI x2, uI x3, uJ (dsw64 ((a314_1 * (10 - (M 85 2))))), uX 0, uI i314_1] (d314 (j := 50) rfl) (by decide) rfl ?_
          refine b_iinc [uR 11 84, uI x1, uI x2, uI x3, uJ (dsw64 ((a314_1 * (10 - (M 85 2))))), uX 0, uI (i314_1 + 1)] (d314 (j := 51) rfl) rfl (by decide) (s2 c1 i314_1 a314_1 h314_1l h314_1r) rfl ?_
          refine b_goto (d314 (j := 52) rfl) ?_
          exact hk314_1
        ·
          rw [if_pos c3] at hk314_1
          refine b_aload_n (d314 (j := 36) rfl) rfl ?_
          refine b_getR (d314 (j := 37) rfl) rfl rfl rfl rfl ?_
          refine b_stk [uR 38 85, uJ a314_1] rfl ?_
          refine b_iconst (d314 (j := 38) rfl) (by decide) ?_
          refine b_iaload (d314 (j := 39) rfl) rfl (by decide) ?_
          refine b_i2l (d314 (j := 40) rfl) ?_
          refine b_goto (d314 (j := 41) rfl) ?_
          refine b_lmul (d314 (j := 49) rfl) rfl rfl ?_
          refine b_lstore [uR 11 84, uI x1, uI x2, uI x3, uJ (dsw64 ((a314_1 * (M 85 2)))), uX 0, uI i314_1] (d314 (j := 50) rfl) (by decide) rfl ?_
          refine b_iinc [uR 11 84, uI x1, uI x2, uI x3, uJ (dsw64 ((a314_1 * (M 85 2)))), uX 0, uI (i314_1 + 1)] (d314 (j := 51) rfl) rfl (by decide) (s2 c1 i314_1 a314_1 h314_1l h314_1r) rfl ?_
          refine b_goto (d314 (j := 52) rfl) ?_
          exact hk314_1
    ·
      refine b_iload (d314 (j := 27) rfl) rfl ?_
      refine b_iload_n (d314 (j := 28) rfl) rfl ?_
      refine b_icmp_ge (d314 (j := 29) rfl) (fun c4 => ?_) (fun c4 => ?_)
      rotate_left
      · exfalso; omega
      ·
        refine b_lload (d314 (j := 53) rfl) rfl ?_
        refine b_lconst (d314 (j := 54) rfl) ?_
        refine b_stk [uJ 0, uJ (dsIter (fun (i314_1 : Int) (a314_1 : Int) => (if (dsAnd (dsShr x3 i314_1) 1) = 1 then (dsw64 ((a314_1 * (M 85 2)))) else (dsw64 ((a314_1 * (10 - (M 85 2))))))) 0 x2 1)] rfl ?_
        refine b_lcmp (d314 (j := 55) rfl) ?_
        refine b_lif_ne (d314 (j := 56) rfl) (fun c5 => ?_) (fun c5 => ?_)
        ·
          refine b_aload_n (d314 (j := 58) rfl) rfl ?_
          refine b_iload_n (d314 (j := 59) rfl) rfl ?_
          refine b_putI (d314 (j := 60) rfl) rfl ⟨rfl, rfl⟩ rfl rfl ?_
          refine b_aload_n (d314 (j := 61) rfl) rfl ?_
          refine b_callV (d314 (j := 62) rfl) rfl rfl (Or.inl rfl) rfl (bCk_mk (n := 0) (k := 1) (by decide +kernel) rfl rfl) ((hA1 c1 c5) _ (fun M1 hR1 => ?_))
          refine b_stk [] rfl ?_
          refine b_aload_n (d314 (j := 63) rfl) rfl ?_
          refine b_dup (d314 (j := 64) rfl) rfl ?_
          refine b_getJ (d314 (j := 65) rfl) rfl rfl rfl rfl rfl ?_
          refine b_stk [uJ (M1 84 46), uR 11 84] rfl ?_
          refine b_lload (d314 (j := 66) rfl) rfl ?_
          refine b_ladd (d314 (j := 67) rfl) rfl rfl ?_
          refine b_putJ (d314 (j := 68) rfl) rfl ⟨rfl, rfl⟩ rfl rfl ?_
          refine b_aload_n (d314 (j := 69) rfl) rfl ?_
          refine b_dup (d314 (j := 70) rfl) rfl ?_
          refine b_getJ (d314 (j := 71) rfl) rfl rfl rfl rfl rfl ?_
          refine b_stk [uJ (M1 84 47), uR 11 84] (by rw [ds_get_ni (by omega)] <;> rfl) ?_
          refine b_lload (d314 (j := 72) rfl) rfl ?_
          refine b_aload_n (d314 (j := 73) rfl) rfl ?_
          refine b_getR (d314 (j := 74) rfl) rfl rfl rfl rfl ?_
          refine b_stk [uR 27 107, uJ (dsIter (fun (i314_1 : Int) (a314_1 : Int) => (if (dsAnd (dsShr x3 i314_1) 1) = 1 then (dsw64 ((a314_1 * (M 85 2)))) else (dsw64 ((a314_1 * (10 - (M 85 2))))))) 0 x2 1), uJ (M1 84 47), uR 11 84] rfl ?_
          refine b_aload_n (d314 (j := 75) rfl) rfl ?_
          refine b_callV (d314 (j := 76) rfl) rfl rfl (Or.inl rfl) rfl (bCk_mk (n := 6) (k := 1) (by decide +kernel) rfl rfl) (pu183  ?_)
          refine b_stk [uI (M1 85 0), uR 27 107, uJ (dsIter (fun (i314_1 : Int) (a314_1 : Int) => (if (dsAnd (dsShr x3 i314_1) 1) = 1 then (dsw64 ((a314_1 * (M 85 2)))) else (dsw64 ((a314_1 * (10 - (M 85 2))))))) 0 x2 1), uJ (M1 84 47), uR 11 84] rfl ?_
          refine b_iaload (d314 (j := 77) rfl) rfl (s3 c1 c5 M1 hR1) ?_
          refine b_stk [uI (M1 107 (M1 85 0)), uJ (dsIter (fun (i314_1 : Int) (a314_1 : Int) => (if (dsAnd (dsShr x3 i314_1) 1) = 1 then (dsw64 ((a314_1 * (M 85 2)))) else (dsw64 ((a314_1 * (10 - (M 85 2))))))) 0 x2 1), uJ (M1 84 47), uR 11 84] (by rw [ds_get_ne (by omega)] <;> rfl) ?_
          refine b_iload_n (d314 (j := 78) rfl) rfl ?_
          refine b_callS (d314 (j := 79) rfl) (Or.inl rfl) rfl (bCk_mk (n := 5) (k := 2) (by decide +kernel) rfl rfl) (pu179  ?_)
          refine b_stk [uI (dsAnd (dsShr (M1 107 (M1 85 0)) x1) 1), uJ (dsIter (fun (i314_1 : Int) (a314_1 : Int) => (if (dsAnd (dsShr x3 i314_1) 1) = 1 then (dsw64 ((a314_1 * (M 85 2)))) else (dsw64 ((a314_1 * (10 - (M 85 2))))))) 0 x2 1), uJ (M1 84 47), uR 11 84] rfl ?_
          refine b_i2l (d314 (j := 80) rfl) ?_
          refine b_lmul (d314 (j := 81) rfl) rfl rfl ?_
          refine b_ladd (d314 (j := 82) rfl) rfl (dsw64_dsw _) ?_
          refine b_putJ (d314 (j := 83) rfl) rfl ⟨rfl, rfl⟩ rfl rfl ?_
          refine b_aload_n (d314 (j := 84) rfl) rfl ?_
          refine b_dup (d314 (j := 85) rfl) rfl ?_
          refine b_getJ (d314 (j := 86) rfl) rfl rfl rfl rfl rfl ?_
          refine b_stk [uJ (M1 84 48), uR 11 84] (by rw [ds_get_ni (by omega), ds_get_ni (by omega)] <;> rfl) ?_
          refine b_lload (d314 (j := 87) rfl) rfl ?_
          refine b_aload_n (d314 (j := 88) rfl) rfl ?_
          refine b_callV (d314 (j := 89) rfl) rfl rfl (Or.inl rfl) rfl (bCk_mk (n := 5) (k := 1) (by decide +kernel) rfl rfl) (fx243 (s4 c1 c5 M1 hR1) (s5 c1 c5 M1 hR1) ?_)
          refine b_stk [uI (v243 (dsSet (dsSet M1 84 46 (dsw64 (((M1 84 46) + (dsIter (fun (i314_1 : Int) (a314_1 : Int) => (if (dsAnd (dsShr x3 i314_1) 1) = 1 then (dsw64 ((a314_1 * (M 85 2)))) else (dsw64 ((a314_1 * (10 - (M 85 2))))))) 0 x2 1))))) 84 47 (dsw64 (((M1 84 47) + ((dsIter (fun (i314_1 : Int) (a314_1 : Int) => (if (dsAnd (dsShr x3 i314_1) 1) = 1 then (dsw64 ((a314_1 * (M 85 2)))) else (dsw64 ((a314_1 * (10 - (M 85 2))))))) 0 x2 1) * (dsAnd (dsShr (M1 107 (M1 85 0)) x1) 1))))))), uJ (dsIter (fun (i314_1 : Int) (a314_1 : Int) => (if (dsAnd (dsShr x3 i314_1) 1) = 1 then (dsw64 ((a314_1 * (M 85 2)))) else (dsw64 ((a314_1 * (10 - (M 85 2))))))) 0 x2 1), uJ (M1 84 48), uR 11 84] rfl ?_
          refine b_i2l (d314 (j := 90) rfl) ?_
          refine b_lmul (d314 (j := 91) rfl) rfl rfl ?_
          refine b_ladd (d314 (j := 92) rfl) rfl (dsw64_dsw _) ?_
          refine b_putJ (d314 (j := 93) rfl) rfl ⟨rfl, rfl⟩ rfl rfl ?_
          refine b_iinc [uR 11 84, uI x1, uI x2, uI (x3 + 1), uJ (dsIter (fun (i314_1 : Int) (a314_1 : Int) => (if (dsAnd (dsShr x3 i314_1) 1) = 1 then (dsw64 ((a314_1 * (M 85 2)))) else (dsw64 ((a314_1 * (10 - (M 85 2))))))) 0 x2 1), uX 0, uI i314_1] (d314 (j := 94) rfl) rfl (by decide) (s6 c1 c5 M1 hR1) rfl ?_
          refine b_goto (d314 (j := 95) rfl) ?_
          exact bB_le _ (bLe_s (bLe_s (bLe_s (bLe_s (bLe_x (bLe_s (bLe_x bLe_nil))))))) (k2 c1 c5 M1 hR1)
        ·
          refine b_goto (d314 (j := 57) rfl) ?_
          refine b_iinc [uR 11 84, uI x1, uI x2, uI (x3 + 1), uJ (dsIter (fun (i314_1 : Int) (a314_1 : Int) => (if (dsAnd (dsShr x3 i314_1) 1) = 1 then (dsw64 ((a314_1 * (M 85 2)))) else (dsw64 ((a314_1 * (10 - (M 85 2))))))) 0 x2 1), uX 0, uI i314_1] (d314 (j := 94) rfl) rfl (by decide) (s7 c1 c5) rfl ?_
          refine b_goto (d314 (j := 95) rfl) ?_
          exact bB_le _ (bLe_s (bLe_s (bLe_s (bLe_s (bLe_x (bLe_s (bLe_x bLe_nil))))))) (k3 c1 c5)
def L315 : List (Nat × Instr × Nat × Nat) := [(0, .aload_n 0, 1, 0), (1, .iload_n 1, 2, 0), (2, .i2l, 3, 0), (3, .invokevirtual 264, 6, 0), (6, .ifCond .eq 13, 9, 19), (9, .iload_n 2, 10, 0), (10, .i2l, 11, 0), (11, .lconst 0, 12, 0), (12, .lconst 1, 13, 0), (13, .invokestatic 112, 16, 0), (16, .ifCond .ne 7, 19, 23), (19, .ldc2_w 491, 22, 0), (22, .lreturn, 23, 0), (23, .aload_n 0, 24, 0), (24, .iload_n 1, 25, 0), (25, .invokevirtual 493, 28, 0), (28, .aload_n 0, 29, 0), (29, .getfield 485, 32, 0), (32, .aload_n 0, 33, 0), (33, .getfield 481, 36, 0), (36, .iload_n 2, 37, 0), (37, .invokestatic 467, 40, 0), (40, .lreturn, 41, 0)]
set_option maxRecDepth 100000 in
theorem L315_ok : L315.all (dck 315) = true := by decide +kernel
theorem d315 {j pc nx tg : Nat} {ins : Instr} (hj : L315[j]? = some (pc, ins, nx, tg)) : dcd 315 pc ins nx tg := dcl_ok L315_ok hj
set_option maxRecDepth 100000 in
set_option maxHeartbeats 4000000 in
theorem r315_0 {x1 x2 : Int} {R1 : dsMem → Prop} {R2 : dsMem → dsMem → Prop} {g2 : dsMem → dsMem → Int} {M : dsMem} {Q : bQT} (s1 : -2147483648 ≤ ((M 85 3) - 1) ∧ ((M 85 3) - 1) < 2147483648 := by intros; omega) (k1 : (¬ (0 ≤ x1 ∧ x1 ≤ (M 85 3) - 1)) → Q [uJ (-2)] M) (hA1 : ((0 ≤ x1 ∧ x1 ≤ (M 85 3) - 1)) → ((0 ≤ x2 ∧ x2 ≤ 1)) → bCt 314 [uR 11 84, uI x1, uX 0, uX 0, uX 0, uX 0, uX 0] M (fun _ => []) R1) (hA2 : ((0 ≤ x1 ∧ x1 ≤ (M 85 3) - 1)) → ((0 ≤ x2 ∧ x2 ≤ 1)) → ∀ M1 : dsMem, R1 M1 → bCt 308 [uJ (M1 84 47), uX 0, uJ (M1 84 46), uX 0, uI x2] M1 (fun M2 => [uJ (g2 M1 M2)]) (R2 M1)) (k2 : ((0 ≤ x1 ∧ x1 ≤ (M 85 3) - 1)) → ((0 ≤ x2 ∧ x2 ≤ 1)) → ∀ M1 : dsMem, R1 M1 → ∀ M2 : dsMem, R2 M1 M2 → Q [uJ (g2 M1 M2)] M2) (k3 : ((0 ≤ x1 ∧ x1 ≤ (M 85 3) - 1)) → (¬ (0 ≤ x2 ∧ x2 ≤ 1)) → Q [uJ (-2)] M) :
    bB 315 0 [uR 11 84, uI x1, uI x2] [] M Q := by
  refine b_aload_n (d315 (j := 0) rfl) rfl ?_
  refine b_iload_n (d315 (j := 1) rfl) rfl ?_
  refine b_i2l (d315 (j := 2) rfl) ?_
  refine b_callV (d315 (j := 3) rfl) rfl rfl (Or.inl rfl) rfl (bCk_mk (n := 0) (k := 3) (by decide +kernel) rfl rfl) (pu189 s1 ?_)
  refine b_stk [uI (if (0 ≤ x1 ∧ x1 ≤ (M 85 3) - 1) then 1 else 0)] rfl ?_
  refine b_ifeqP (d315 (j := 4) rfl) (fun c1 => ?_) (fun c1 => ?_)
  ·
    refine b_ldc2 (d315 (j := 11) rfl) rfl ?_
    exact b_lret (d315 (j := 12) rfl) rfl (k1 c1)
  ·
    refine b_iload_n (d315 (j := 5) rfl) rfl ?_
    refine b_i2l (d315 (j := 6) rfl) ?_
    refine b_lconst (d315 (j := 7) rfl) ?_
    refine b_stk [uJ 0, uJ x2] rfl ?_
    refine b_lconst (d315 (j := 8) rfl) ?_
    refine b_stk [uJ 1, uJ 0, uJ x2] rfl ?_
    refine b_callS (d315 (j := 9) rfl) (Or.inl rfl) rfl (bCk_mk (n := 0) (k := 6) (by decide +kernel) rfl rfl) (pu177  ?_)
    refine b_stk [uI (if (0 ≤ x2 ∧ x2 ≤ 1) then 1 else 0)] rfl ?_
    refine b_ifneP (d315 (j := 10) rfl) (fun c2 => ?_) (fun c2 => ?_)
    ·
      refine b_aload_n (d315 (j := 13) rfl) rfl ?_
      refine b_iload_n (d315 (j := 14) rfl) rfl ?_
      refine b_callV (d315 (j := 15) rfl) rfl rfl (Or.inl rfl) rfl (bCk_mk (n := 0) (k := 2) (by decide +kernel) rfl rfl) ((hA1 c1 c2) _ (fun M1 hR1 => ?_))
      refine b_stk [] rfl ?_
      refine b_aload_n (d315 (j := 16) rfl) rfl ?_
      refine b_getJ (d315 (j := 17) rfl) rfl rfl rfl rfl rfl ?_
      refine b_stk [uJ (M1 84 47)] rfl ?_
      refine b_aload_n (d315 (j := 18) rfl) rfl ?_
      refine b_getJ (d315 (j := 19) rfl) rfl rfl rfl rfl rfl ?_
      refine b_stk [uJ (M1 84 46), uJ (M1 84 47)] rfl ?_
      refine b_iload_n (d315 (j := 20) rfl) rfl ?_
      refine b_callS (d315 (j := 21) rfl) (Or.inl rfl) rfl (bCk_mk (n := 0) (k := 5) (by decide +kernel) rfl rfl) ((hA2 c1 c2 M1 hR1) _ (fun M2 hR2 => ?_))
      refine b_stk [uJ (g2 M1 M2)] rfl ?_
      exact b_lret (d315 (j := 22) rfl) rfl (k2 c1 c2 M1 hR1 M2 hR2)
    ·
      refine b_ldc2 (d315 (j := 11) rfl) rfl ?_
      exact b_lret (d315 (j := 12) rfl) rfl (k3 c1 c2)
def L316 : List (Nat × Instr × Nat × Nat) := [(0, .aload_n 0, 1, 0), (1, .invokevirtual 120, 4, 0), (4, .ifCond .eq 13, 7, 17), (7, .iload_n 1, 8, 0), (8, .i2l, 9, 0), (9, .lconst 0, 10, 0), (10, .lconst 1, 11, 0), (11, .invokestatic 112, 14, 0), (14, .ifCond .ne 7, 17, 21), (17, .ldc2_w 491, 20, 0), (20, .lreturn, 21, 0), (21, .aload_n 0, 22, 0), (22, .iconst 0, 23, 0), (23, .invokevirtual 493, 26, 0), (26, .aload_n 0, 27, 0), (27, .getfield 488, 30, 0), (30, .aload_n 0, 31, 0), (31, .getfield 481, 34, 0), (34, .iload_n 1, 35, 0), (35, .invokestatic 467, 38, 0), (38, .lreturn, 39, 0)]
set_option maxRecDepth 100000 in
theorem L316_ok : L316.all (dck 316) = true := by decide +kernel
theorem d316 {j pc nx tg : Nat} {ins : Instr} (hj : L316[j]? = some (pc, ins, nx, tg)) : dcd 316 pc ins nx tg := dcl_ok L316_ok hj
set_option maxRecDepth 100000 in
set_option maxHeartbeats 4000000 in
theorem r316_0 {x1 : Int} {R1 : dsMem → Prop} {R2 : dsMem → dsMem → Prop} {g2 : dsMem → dsMem → Int} {M : dsMem} {Q : bQT} (k1 : (¬ (0 < (M 85 8))) → Q [uJ (-2)] M) (hA1 : ((0 < (M 85 8))) → ((0 ≤ x1 ∧ x1 ≤ 1)) → bCt 314 [uR 11 84, uI 0, uX 0, uX 0, uX 0, uX 0, uX 0] M (fun _ => []) R1) (hA2 : ((0 < (M 85 8))) → ((0 ≤ x1 ∧ x1 ≤ 1)) → ∀ M1 : dsMem, R1 M1 → bCt 308 [uJ (M1 84 48), uX 0, uJ (M1 84 46), uX 0, uI x1] M1 (fun M2 => [uJ (g2 M1 M2)]) (R2 M1)) (k2 : ((0 < (M 85 8))) → ((0 ≤ x1 ∧ x1 ≤ 1)) → ∀ M1 : dsMem, R1 M1 → ∀ M2 : dsMem, R2 M1 M2 → Q [uJ (g2 M1 M2)] M2) (k3 : ((0 < (M 85 8))) → (¬ (0 ≤ x1 ∧ x1 ≤ 1)) → Q [uJ (-2)] M) :
    bB 316 0 [uR 11 84, uI x1] [] M Q := by
  refine b_aload_n (d316 (j := 0) rfl) rfl ?_
  refine b_callV (d316 (j := 1) rfl) rfl rfl (Or.inl rfl) rfl (bCk_mk (n := 0) (k := 1) (by decide +kernel) rfl rfl) (pu182  ?_)
  refine b_stk [uI (if (0 < (M 85 8)) then 1 else 0)] rfl ?_
  refine b_ifeqP (d316 (j := 2) rfl) (fun c1 => ?_) (fun c1 => ?_)
  ·
    refine b_ldc2 (d316 (j := 9) rfl) rfl ?_
    exact b_lret (d316 (j := 10) rfl) rfl (k1 c1)
  ·
    refine b_iload_n (d316 (j := 3) rfl) rfl ?_
    refine b_i2l (d316 (j := 4) rfl) ?_
    refine b_lconst (d316 (j := 5) rfl) ?_
    refine b_stk [uJ 0, uJ x1] rfl ?_
    refine b_lconst (d316 (j := 6) rfl) ?_
    refine b_stk [uJ 1, uJ 0, uJ x1] rfl ?_
    refine b_callS (d316 (j := 7) rfl) (Or.inl rfl) rfl (bCk_mk (n := 0) (k := 6) (by decide +kernel) rfl rfl) (pu177  ?_)
    refine b_stk [uI (if (0 ≤ x1 ∧ x1 ≤ 1) then 1 else 0)] rfl ?_
    refine b_ifneP (d316 (j := 8) rfl) (fun c2 => ?_) (fun c2 => ?_)
    ·
      refine b_aload_n (d316 (j := 11) rfl) rfl ?_
      refine b_iconst (d316 (j := 12) rfl) (by decide) ?_
      refine b_callV (d316 (j := 13) rfl) rfl rfl (Or.inl rfl) rfl (bCk_mk (n := 0) (k := 2) (by decide +kernel) rfl rfl) ((hA1 c1 c2) _ (fun M1 hR1 => ?_))
      refine b_stk [] rfl ?_
      refine b_aload_n (d316 (j := 14) rfl) rfl ?_
      refine b_getJ (d316 (j := 15) rfl) rfl rfl rfl rfl rfl ?_
      refine b_stk [uJ (M1 84 48)] rfl ?_
      refine b_aload_n (d316 (j := 16) rfl) rfl ?_
      refine b_getJ (d316 (j := 17) rfl) rfl rfl rfl rfl rfl ?_
      refine b_stk [uJ (M1 84 46), uJ (M1 84 48)] rfl ?_
      refine b_iload_n (d316 (j := 18) rfl) rfl ?_
      refine b_callS (d316 (j := 19) rfl) (Or.inl rfl) rfl (bCk_mk (n := 0) (k := 5) (by decide +kernel) rfl rfl) ((hA2 c1 c2 M1 hR1) _ (fun M2 hR2 => ?_))
      refine b_stk [uJ (g2 M1 M2)] rfl ?_
      exact b_lret (d316 (j := 20) rfl) rfl (k2 c1 c2 M1 hR1 M2 hR2)
    ·
      refine b_ldc2 (d316 (j := 9) rfl) rfl ?_
      exact b_lret (d316 (j := 10) rfl) rfl (k3 c1 c2)
def L317 : List (Nat × Instr × Nat × Nat) := [(0, .aload_n 0, 1, 0), (1, .getfield 9, 4, 0), (4, .bipush 7, 6, 0), (6, .iaload, 7, 0), (7, .bipush 30, 9, 0), (9, .if_icmp .ne 5, 12, 14), (12, .iconst 0, 13, 0), (13, .ireturn, 14, 0), (14, .aload_n 0, 15, 0), (15, .getfield 9, 18, 0), (18, .bipush 75, 20, 0), (20, .aload_n 0, 21, 0), (21, .getfield 9, 24, 0), (24, .bipush 7, 26, 0), (26, .iaload, 27, 0), (27, .iadd, 28, 0), (28, .iload_n 1, 29, 0), (29, .iastore, 30, 0), (30, .aload_n 0, 31, 0), (31, .getfield 9, 34, 0), (34, .bipush 7, 36, 0), (36, .dup2, 37, 0), (37, .iaload, 38, 0), (38, .iconst 1, 39, 0), (39, .iadd, 40, 0), (40, .iastore, 41, 0), (41, .aload_n 0, 42, 0), (42, .invokevirtual 364, 45, 0), (45, .pop, 46, 0), (46, .iconst 1, 47, 0), (47, .ireturn, 48, 0)]
set_option maxRecDepth 100000 in
theorem L317_ok : L317.all (dck 317) = true := by decide +kernel
theorem d317 {j pc nx tg : Nat} {ins : Instr} (hj : L317[j]? = some (pc, ins, nx, tg)) : dcd 317 pc ins nx tg := dcl_ok L317_ok hj
set_option maxRecDepth 100000 in
set_option maxHeartbeats 4000000 in
theorem r317_0 {x1 : Int} {R1 : dsMem → Prop} {g1 : dsMem → Int} {M : dsMem} {Q : bQT} (s1 : (¬ (M 85 7) = 30) → 0 ≤ (75 + (M 85 7)) ∧ (75 + (M 85 7)) < 105 := by intros; omega) (s2 : (¬ (M 85 7) = 30) → -2147483648 ≤ (((dsSet M 85 (75 + (M 85 7)) x1) 85 7) + 1) ∧ (((dsSet M 85 (75 + (M 85 7)) x1) 85 7) + 1) < 2147483648 := by intros; omega) (hA1 : (¬ (M 85 7) = 30) → bCt 235 [uR 11 84] (dsSet (dsSet M 85 (75 + (M 85 7)) x1) 85 7 (((dsSet M 85 (75 + (M 85 7)) x1) 85 7) + 1)) (fun M1 => [uI (g1 M1)]) R1) (k1 : (¬ (M 85 7) = 30) → ∀ M1 : dsMem, R1 M1 → Q [uI 1] M1) (k2 : ((M 85 7) = 30) → Q [uI 0] M) :
    bB 317 0 [uR 11 84, uI x1] [] M Q := by
  refine b_aload_n (d317 (j := 0) rfl) rfl ?_
  refine b_getR (d317 (j := 1) rfl) rfl rfl rfl rfl ?_
  refine b_stk [uR 38 85] rfl ?_
  refine b_bipush (d317 (j := 2) rfl) (by decide) ?_
  refine b_iaload (d317 (j := 3) rfl) rfl (by decide) ?_
  refine b_bipush (d317 (j := 4) rfl) (by decide) ?_
  refine b_icmp_ne (d317 (j := 5) rfl) (fun c1 => ?_) (fun c1 => ?_)
  ·
    refine b_aload_n (d317 (j := 8) rfl) rfl ?_
    refine b_getR (d317 (j := 9) rfl) rfl rfl rfl rfl ?_
    refine b_stk [uR 38 85] rfl ?_
    refine b_bipush (d317 (j := 10) rfl) (by decide) ?_
    refine b_aload_n (d317 (j := 11) rfl) rfl ?_
    refine b_getR (d317 (j := 12) rfl) rfl rfl rfl rfl ?_
    refine b_stk [uR 38 85, uI 75, uR 38 85] rfl ?_
    refine b_bipush (d317 (j := 13) rfl) (by decide) ?_
    refine b_iaload (d317 (j := 14) rfl) rfl (by decide) ?_
    refine b_iadd (d317 (j := 15) rfl) rfl rfl ?_
    refine b_iload_n (d317 (j := 16) rfl) rfl ?_
    refine b_stk [uI x1, uI (75 + (M 85 7)), uR 38 85] (by rw [dsw_b (s1 c1) (by decide)]) ?_
    refine b_iastore (d317 (j := 17) rfl) rfl (s1 c1) ?_
    refine b_aload_n (d317 (j := 18) rfl) rfl ?_
    refine b_getR (d317 (j := 19) rfl) rfl rfl rfl rfl ?_
    refine b_stk [uR 38 85] rfl ?_
    refine b_bipush (d317 (j := 20) rfl) (by decide) ?_
    refine b_dup2 (d317 (j := 21) rfl) ?_
    refine b_iaload (d317 (j := 22) rfl) rfl (by decide) ?_
    refine b_iconst (d317 (j := 23) rfl) (by decide) ?_
    refine b_iadd (d317 (j := 24) rfl) rfl rfl ?_
    refine b_stk [uI (((dsSet M 85 (75 + (M 85 7)) x1) 85 7) + 1), uI 7, uR 38 85] (by rw [dsw_r (s2 c1)]) ?_
    refine b_iastore (d317 (j := 25) rfl) rfl (by decide) ?_
    refine b_aload_n (d317 (j := 26) rfl) rfl ?_
    refine b_callV (d317 (j := 27) rfl) rfl rfl (Or.inl rfl) rfl (bCk_mk (n := 0) (k := 1) (by decide +kernel) rfl rfl) ((hA1 c1) _ (fun M1 hR1 => ?_))
    refine b_stk [uI (g1 M1)] rfl ?_
    refine b_pop (d317 (j := 28) rfl) rfl ?_
    refine b_iconst (d317 (j := 29) rfl) (by decide) ?_
    exact b_zret (d317 (j := 30) rfl) rfl (by decide) (k1 c1 M1 hR1)
  ·
    refine b_iconst (d317 (j := 6) rfl) (by decide) ?_
    exact b_zret (d317 (j := 7) rfl) rfl (by decide) (k2 c1)
def L318 : List (Nat × Instr × Nat × Nat) := [(0, .iload_n 1, 1, 0), (1, .i2l, 2, 0), (2, .lconst 1, 3, 0), (3, .ldc2_w 496, 6, 0), (6, .invokestatic 112, 9, 0), (9, .ifCond .eq 19, 12, 28), (12, .iload_n 2, 13, 0), (13, .invokestatic 385, 16, 0), (16, .ifCond .eq 12, 19, 28), (19, .aload_n 0, 20, 0), (20, .iload_n 3, 21, 0), (21, .i2l, 22, 0), (22, .invokevirtual 370, 25, 0), (25, .ifCond .ne 6, 28, 31), (28, .bipush (-2), 30, 0), (30, .ireturn, 31, 0), (31, .aload_n 0, 32, 0), (32, .ldc_w 345, 35, 0), (35, .iload_n 1, 36, 0), (36, .imul, 37, 0), (37, .sipush 1000, 40, 0), (40, .iload_n 2, 41, 0), (41, .imul, 42, 0), (42, .iadd, 43, 0), (43, .iload_n 3, 44, 0), (44, .iadd, 45, 0), (45, .invokevirtual 498, 48, 0), (48, .ifCond .eq 10, 51, 58), (51, .aload_n 0, 52, 0), (52, .invokevirtual 414, 55, 0), (55, .goto 5, 58, 60), (58, .bipush (-5), 60, 0), (60, .ireturn, 61, 0)]
set_option maxRecDepth 100000 in
theorem L318_ok : L318.all (dck 318) = true := by decide +kernel
theorem d318 {j pc nx tg : Nat} {ins : Instr} (hj : L318[j]? = some (pc, ins, nx, tg)) : dcd 318 pc ins nx tg := dcl_ok L318_ok hj
set_option maxRecDepth 100000 in
set_option maxHeartbeats 4000000 in
theorem r318_0 {x1 x2 x3 : Int} {R1 : dsMem → Prop} {g1 : dsMem → Int} {M : dsMem} {Q : bQT} (k1 : (¬ (1 ≤ x1 ∧ x1 ≤ 20)) → Q [uI (-2)] M) (k2 : ((1 ≤ x1 ∧ x1 ≤ 20)) → (¬ (1 ≤ x2 ∧ x2 ≤ 5)) → Q [uI (-2)] M) (s1 : ((1 ≤ x1 ∧ x1 ≤ 20)) → ((1 ≤ x2 ∧ x2 ≤ 5)) → -2147483648 ≤ ((M 85 0) - 1) ∧ ((M 85 0) - 1) < 2147483648 := by intros; omega) (s2 : ((1 ≤ x1 ∧ x1 ≤ 20)) → ((1 ≤ x2 ∧ x2 ≤ 5)) → ((0 < (M 85 8) ∧ 0 ≤ x3 ∧ x3 ≤ (M 85 0) - 1)) → -2147483648 ≤ (((100000 * x1) + (1000 * x2)) + x3) ∧ (((100000 * x1) + (1000 * x2)) + x3) < 2147483648 := by intros; omega) (hA1 : ((1 ≤ x1 ∧ x1 ≤ 20)) → ((1 ≤ x2 ∧ x2 ≤ 5)) → ((0 < (M 85 8) ∧ 0 ≤ x3 ∧ x3 ≤ (M 85 0) - 1)) → bCt 317 [uR 11 84, uI (((100000 * x1) + (1000 * x2)) + x3)] M (fun M1 => [uI (g1 M1)]) R1) (k3 : ((1 ≤ x1 ∧ x1 ≤ 20)) → ((1 ≤ x2 ∧ x2 ≤ 5)) → ((0 < (M 85 8) ∧ 0 ≤ x3 ∧ x3 ≤ (M 85 0) - 1)) → ∀ M1 : dsMem, R1 M1 → ((g1 M1) = 0) → Q [uI (-5)] M1) (s3 : ((1 ≤ x1 ∧ x1 ≤ 20)) → ((1 ≤ x2 ∧ x2 ≤ 5)) → ((0 < (M 85 8) ∧ 0 ≤ x3 ∧ x3 ≤ (M 85 0) - 1)) → ∀ M1 : dsMem, R1 M1 → (¬ (g1 M1) = 0) → ∀ i242_1 : Int, ∀ a242_1 : Int, 0 ≤ i242_1 → i242_1 < (M1 85 4) → 0 ≤ ((6 * (M1 85 0)) + i242_1) ∧ ((6 * (M1 85 0)) + i242_1) < 78 := by intros; omega) (s4 : ((1 ≤ x1 ∧ x1 ≤ 20)) → ((1 ≤ x2 ∧ x2 ≤ 5)) → ((0 < (M 85 8) ∧ 0 ≤ x3 ∧ x3 ≤ (M 85 0) - 1)) → ∀ M1 : dsMem, R1 M1 → (¬ (g1 M1) = 0) → ∀ i242_1 : Int, ∀ a242_1 : Int, 0 ≤ i242_1 → i242_1 < (M1 85 4) → -2147483648 ≤ i242_1 + 1 ∧ i242_1 + 1 < 2147483648 := by intros; omega) (k4 : ((1 ≤ x1 ∧ x1 ≤ 20)) → ((1 ≤ x2 ∧ x2 ≤ 5)) → ((0 < (M 85 8) ∧ 0 ≤ x3 ∧ x3 ≤ (M 85 0) - 1)) → ∀ M1 : dsMem, R1 M1 → (¬ (g1 M1) = 0) → Q [uI (v243 M1)] M1) (k5 : ((1 ≤ x1 ∧ x1 ≤ 20)) → ((1 ≤ x2 ∧ x2 ≤ 5)) → (¬ (0 < (M 85 8) ∧ 0 ≤ x3 ∧ x3 ≤ (M 85 0) - 1)) → Q [uI (-2)] M) :
    bB 318 0 [uR 11 84, uI x1, uI x2, uI x3] [] M Q := by
  refine b_iload_n (d318 (j := 0) rfl) rfl ?_
  refine b_i2l (d318 (j := 1) rfl) ?_
  refine b_lconst (d318 (j := 2) rfl) ?_
  refine b_stk [uJ 1, uJ x1] rfl ?_
  refine b_ldc2 (d318 (j := 3) rfl) rfl ?_
  refine b_callS (d318 (j := 4) rfl) (Or.inl rfl) rfl (bCk_mk (n := 0) (k := 6) (by decide +kernel) rfl rfl) (pu177  ?_)
  refine b_stk [uI (if (1 ≤ x1 ∧ x1 ≤ 20) then 1 else 0)] rfl ?_
  refine b_ifeqP (d318 (j := 5) rfl) (fun c1 => ?_) (fun c1 => ?_)
  ·
    refine b_bipush (d318 (j := 14) rfl) (by decide) ?_
    exact b_iret (d318 (j := 15) rfl) rfl (k1 c1)
  ·
    refine b_iload_n (d318 (j := 6) rfl) rfl ?_
    refine b_callS (d318 (j := 7) rfl) (Or.inl rfl) rfl (bCk_mk (n := 0) (k := 1) (by decide +kernel) rfl rfl) (pu191  ?_)
    refine b_stk [uI (if (1 ≤ x2 ∧ x2 ≤ 5) then 1 else 0)] rfl ?_
    refine b_ifeqP (d318 (j := 8) rfl) (fun c2 => ?_) (fun c2 => ?_)
    ·
      refine b_bipush (d318 (j := 14) rfl) (by decide) ?_
      exact b_iret (d318 (j := 15) rfl) rfl (k2 c1 c2)
    ·
      refine b_aload_n (d318 (j := 9) rfl) rfl ?_
      refine b_iload_n (d318 (j := 10) rfl) rfl ?_
      refine b_i2l (d318 (j := 11) rfl) ?_
      refine b_callV (d318 (j := 12) rfl) rfl rfl (Or.inl rfl) rfl (bCk_mk (n := 0) (k := 3) (by decide +kernel) rfl rfl) (pu188 (s1 c1 c2) ?_)
      refine b_stk [uI (if (0 < (M 85 8) ∧ 0 ≤ x3 ∧ x3 ≤ (M 85 0) - 1) then 1 else 0)] rfl ?_
      refine b_ifneP (d318 (j := 13) rfl) (fun c3 => ?_) (fun c3 => ?_)
      ·
        refine b_aload_n (d318 (j := 16) rfl) rfl ?_
        refine b_ldcw (d318 (j := 17) rfl) rfl ?_
        refine b_iload_n (d318 (j := 18) rfl) rfl ?_
        refine b_imul (d318 (j := 19) rfl) rfl rfl ?_
        refine b_sipush (d318 (j := 20) rfl) (by decide) ?_
        refine b_iload_n (d318 (j := 21) rfl) rfl ?_
        refine b_imul (d318 (j := 22) rfl) rfl rfl ?_
        refine b_iadd (d318 (j := 23) rfl) (dsw_dsw _) (dsw_dsw _) ?_
        refine b_iload_n (d318 (j := 24) rfl) rfl ?_
        refine b_iadd (d318 (j := 25) rfl) (dsw_dsw _) rfl ?_
        refine b_stk [uI (((100000 * x1) + (1000 * x2)) + x3), uR 11 84] (by rw [dsw_r (s2 c1 c2 c3)]) ?_
        refine b_callV (d318 (j := 26) rfl) rfl rfl (Or.inl rfl) rfl (bCk_mk (n := 0) (k := 2) (by decide +kernel) rfl rfl) ((hA1 c1 c2 c3) _ (fun M1 hR1 => ?_))
        refine b_stk [uI (g1 M1)] rfl ?_
        refine b_if_eq (d318 (j := 27) rfl) (fun c4 => ?_) (fun c4 => ?_)
        ·
          refine b_bipush (d318 (j := 31) rfl) (by decide) ?_
          exact b_iret (d318 (j := 32) rfl) rfl (k3 c1 c2 c3 M1 hR1 c4)
        ·
          refine b_aload_n (d318 (j := 28) rfl) rfl ?_
          refine b_callV (d318 (j := 29) rfl) rfl rfl (Or.inl rfl) rfl (bCk_mk (n := 0) (k := 1) (by decide +kernel) rfl rfl) (fx243 (s3 c1 c2 c3 M1 hR1 c4) (s4 c1 c2 c3 M1 hR1 c4) ?_)
          refine b_stk [uI (v243 M1)] rfl ?_
          refine b_goto (d318 (j := 30) rfl) ?_
          exact b_iret (d318 (j := 32) rfl) rfl (k4 c1 c2 c3 M1 hR1 c4)
      ·
        refine b_bipush (d318 (j := 14) rfl) (by decide) ?_
        exact b_iret (d318 (j := 15) rfl) rfl (k5 c1 c2 c3)
def L319 : List (Nat × Instr × Nat × Nat) := [(0, .aload_n 0, 1, 0), (1, .iload_n 1, 2, 0), (2, .i2l, 3, 0), (3, .invokevirtual 268, 6, 0), (6, .ifCond .eq 24, 9, 30), (9, .iload_n 2, 10, 0), (10, .i2l, 11, 0), (11, .lconst 1, 12, 0), (12, .ldc2_w 424, 15, 0), (15, .invokestatic 112, 18, 0), (18, .ifCond .eq 12, 21, 30), (21, .aload_n 0, 22, 0), (22, .iload_n 3, 23, 0), (23, .i2l, 24, 0), (24, .invokevirtual 370, 27, 0), (27, .ifCond .ne 6, 30, 33), (30, .bipush (-2), 32, 0), (32, .ireturn, 33, 0), (33, .aload_n 0, 34, 0), (34, .ldc_w 344, 37, 0), (37, .ldc_w 345, 40, 0), (40, .iload_n 2, 41, 0), (41, .imul, 42, 0), (42, .iadd, 43, 0), (43, .sipush 1000, 46, 0), (46, .iload_n 1, 47, 0), (47, .imul, 48, 0), (48, .iadd, 49, 0), (49, .iload_n 3, 50, 0), (50, .iadd, 51, 0), (51, .invokevirtual 498, 54, 0), (54, .ifCond .eq 12, 57, 66), (57, .aload_n 0, 58, 0), (58, .getfield 61, 61, 0), (61, .iload_n 3, 62, 0), (62, .iaload, 63, 0), (63, .goto 5, 66, 68), (66, .bipush (-5), 68, 0), (68, .ireturn, 69, 0)]
set_option maxRecDepth 100000 in
theorem L319_ok : L319.all (dck 319) = true := by decide +kernel
theorem d319 {j pc nx tg : Nat} {ins : Instr} (hj : L319[j]? = some (pc, ins, nx, tg)) : dcd 319 pc ins nx tg := dcl_ok L319_ok hj
set_option maxRecDepth 100000 in
set_option maxHeartbeats 4000000 in
theorem r319_0 {x1 x2 x3 : Int} {R1 : dsMem → Prop} {g1 : dsMem → Int} {M : dsMem} {Q : bQT} (s1 : -2147483648 ≤ ((M 85 4) - 1) ∧ ((M 85 4) - 1) < 2147483648 := by intros; omega) (k1 : (¬ (0 ≤ x1 ∧ x1 ≤ (M 85 4) - 1)) → Q [uI (-2)] M) (k2 : ((0 ≤ x1 ∧ x1 ≤ (M 85 4) - 1)) → (¬ (1 ≤ x2 ∧ x2 ≤ 60)) → Q [uI (-2)] M) (s2 : ((0 ≤ x1 ∧ x1 ≤ (M 85 4) - 1)) → ((1 ≤ x2 ∧ x2 ≤ 60)) → -2147483648 ≤ ((M 85 0) - 1) ∧ ((M 85 0) - 1) < 2147483648 := by intros; omega) (s3 : ((0 ≤ x1 ∧ x1 ≤ (M 85 4) - 1)) → ((1 ≤ x2 ∧ x2 ≤ 60)) → ((0 < (M 85 8) ∧ 0 ≤ x3 ∧ x3 ≤ (M 85 0) - 1)) → -2147483648 ≤ (((10000000 + (100000 * x2)) + (1000 * x1)) + x3) ∧ (((10000000 + (100000 * x2)) + (1000 * x1)) + x3) < 2147483648 := by intros; omega) (hA1 : ((0 ≤ x1 ∧ x1 ≤ (M 85 4) - 1)) → ((1 ≤ x2 ∧ x2 ≤ 60)) → ((0 < (M 85 8) ∧ 0 ≤ x3 ∧ x3 ≤ (M 85 0) - 1)) → bCt 317 [uR 11 84, uI (((10000000 + (100000 * x2)) + (1000 * x1)) + x3)] M (fun M1 => [uI (g1 M1)]) R1) (k3 : ((0 ≤ x1 ∧ x1 ≤ (M 85 4) - 1)) → ((1 ≤ x2 ∧ x2 ≤ 60)) → ((0 < (M 85 8) ∧ 0 ≤ x3 ∧ x3 ≤ (M 85 0) - 1)) → ∀ M1 : dsMem, R1 M1 → ((g1 M1) = 0) → Q [uI (-5)] M1) (s4 : ((0 ≤ x1 ∧ x1 ≤ (M 85 4) - 1)) → ((1 ≤ x2 ∧ x2 ≤ 60)) → ((0 < (M 85 8) ∧ 0 ≤ x3 ∧ x3 ≤ (M 85 0) - 1)) → ∀ M1 : dsMem, R1 M1 → (¬ (g1 M1) = 0) → 0 ≤ x3 ∧ x3 < 12 := by intros; omega) (k4 : ((0 ≤ x1 ∧ x1 ≤ (M 85 4) - 1)) → ((1 ≤ x2 ∧ x2 ≤ 60)) → ((0 < (M 85 8) ∧ 0 ≤ x3 ∧ x3 ≤ (M 85 0) - 1)) → ∀ M1 : dsMem, R1 M1 → (¬ (g1 M1) = 0) → Q [uI (M1 100 x3)] M1) (k5 : ((0 ≤ x1 ∧ x1 ≤ (M 85 4) - 1)) → ((1 ≤ x2 ∧ x2 ≤ 60)) → (¬ (0 < (M 85 8) ∧ 0 ≤ x3 ∧ x3 ≤ (M 85 0) - 1)) → Q [uI (-2)] M) :
    bB 319 0 [uR 11 84, uI x1, uI x2, uI x3] [] M Q := by
  refine b_aload_n (d319 (j := 0) rfl) rfl ?_
  refine b_iload_n (d319 (j := 1) rfl) rfl ?_
  refine b_i2l (d319 (j := 2) rfl) ?_
  refine b_callV (d319 (j := 3) rfl) rfl rfl (Or.inl rfl) rfl (bCk_mk (n := 0) (k := 3) (by decide +kernel) rfl rfl) (pu190 s1 ?_)
  refine b_stk [uI (if (0 ≤ x1 ∧ x1 ≤ (M 85 4) - 1) then 1 else 0)] rfl ?_
  refine b_ifeqP (d319 (j := 4) rfl) (fun c1 => ?_) (fun c1 => ?_)
  ·
    refine b_bipush (d319 (j := 16) rfl) (by decide) ?_
    exact b_iret (d319 (j := 17) rfl) rfl (k1 c1)
  ·
    refine b_iload_n (d319 (j := 5) rfl) rfl ?_
    refine b_i2l (d319 (j := 6) rfl) ?_
    refine b_lconst (d319 (j := 7) rfl) ?_
    refine b_stk [uJ 1, uJ x2] rfl ?_
    refine b_ldc2 (d319 (j := 8) rfl) rfl ?_
    refine b_callS (d319 (j := 9) rfl) (Or.inl rfl) rfl (bCk_mk (n := 0) (k := 6) (by decide +kernel) rfl rfl) (pu177  ?_)
    refine b_stk [uI (if (1 ≤ x2 ∧ x2 ≤ 60) then 1 else 0)] rfl ?_
    refine b_ifeqP (d319 (j := 10) rfl) (fun c2 => ?_) (fun c2 => ?_)
    ·
      refine b_bipush (d319 (j := 16) rfl) (by decide) ?_
      exact b_iret (d319 (j := 17) rfl) rfl (k2 c1 c2)
    ·
      refine b_aload_n (d319 (j := 11) rfl) rfl ?_
      refine b_iload_n (d319 (j := 12) rfl) rfl ?_
      refine b_i2l (d319 (j := 13) rfl) ?_
      refine b_callV (d319 (j := 14) rfl) rfl rfl (Or.inl rfl) rfl (bCk_mk (n := 0) (k := 3) (by decide +kernel) rfl rfl) (pu188 (s2 c1 c2) ?_)
      refine b_stk [uI (if (0 < (M 85 8) ∧ 0 ≤ x3 ∧ x3 ≤ (M 85 0) - 1) then 1 else 0)] rfl ?_
      refine b_ifneP (d319 (j := 15) rfl) (fun c3 => ?_) (fun c3 => ?_)
      ·
        refine b_aload_n (d319 (j := 18) rfl) rfl ?_
        refine b_ldcw (d319 (j := 19) rfl) rfl ?_
        refine b_ldcw (d319 (j := 20) rfl) rfl ?_
        refine b_iload_n (d319 (j := 21) rfl) rfl ?_
        refine b_imul (d319 (j := 22) rfl) rfl rfl ?_
        refine b_iadd (d319 (j := 23) rfl) rfl (dsw_dsw _) ?_
        refine b_sipush (d319 (j := 24) rfl) (by decide) ?_
        refine b_iload_n (d319 (j := 25) rfl) rfl ?_
        refine b_imul (d319 (j := 26) rfl) rfl rfl ?_
        refine b_iadd (d319 (j := 27) rfl) (dsw_dsw _) (dsw_dsw _) ?_
        refine b_iload_n (d319 (j := 28) rfl) rfl ?_
        refine b_iadd (d319 (j := 29) rfl) (dsw_dsw _) rfl ?_
        refine b_stk [uI (((10000000 + (100000 * x2)) + (1000 * x1)) + x3), uR 11 84] (by rw [dsw_r (s3 c1 c2 c3)]) ?_
        refine b_callV (d319 (j := 30) rfl) rfl rfl (Or.inl rfl) rfl (bCk_mk (n := 0) (k := 2) (by decide +kernel) rfl rfl) ((hA1 c1 c2 c3) _ (fun M1 hR1 => ?_))
        refine b_stk [uI (g1 M1)] rfl ?_
        refine b_if_eq (d319 (j := 31) rfl) (fun c4 => ?_) (fun c4 => ?_)
        ·
          refine b_bipush (d319 (j := 37) rfl) (by decide) ?_
          exact b_iret (d319 (j := 38) rfl) rfl (k3 c1 c2 c3 M1 hR1 c4)
        ·
          refine b_aload_n (d319 (j := 32) rfl) rfl ?_
          refine b_getR (d319 (j := 33) rfl) rfl rfl rfl rfl ?_
          refine b_stk [uR 28 100] rfl ?_
          refine b_iload_n (d319 (j := 34) rfl) rfl ?_
          refine b_iaload (d319 (j := 35) rfl) rfl (s4 c1 c2 c3 M1 hR1 c4) ?_
          refine b_goto (d319 (j := 36) rfl) ?_
          exact b_iret (d319 (j := 38) rfl) rfl (k4 c1 c2 c3 M1 hR1 c4)
      ·
        refine b_bipush (d319 (j := 16) rfl) (by decide) ?_
        exact b_iret (d319 (j := 17) rfl) rfl (k5 c1 c2 c3)
def L320 : List (Nat × Instr × Nat × Nat) := [(0, .aload_n 0, 1, 0), (1, .invokevirtual 120, 4, 0), (4, .ifCond .ne 6, 7, 10), (7, .bipush (-2), 9, 0), (9, .ireturn, 10, 0), (10, .aload_n 0, 11, 0), (11, .getfield 9, 14, 0), (14, .bipush 7, 16, 0), (16, .iaload, 17, 0), (17, .ifCond .ne 6, 20, 23), (20, .bipush (-5), 22, 0), (22, .ireturn, 23, 0), (23, .aload_n 0, 24, 0), (24, .getfield 9, 27, 0), (27, .bipush 7, 29, 0), (29, .dup2, 30, 0), (30, .iaload, 31, 0), (31, .iconst 1, 32, 0), (32, .isub, 33, 0), (33, .iastore, 34, 0), (34, .aload_n 0, 35, 0), (35, .getfield 9, 38, 0), (38, .bipush 7, 40, 0), (40, .iaload, 41, 0), (41, .ireturn, 42, 0)]
set_option maxRecDepth 100000 in
theorem L320_ok : L320.all (dck 320) = true := by decide +kernel
theorem d320 {j pc nx tg : Nat} {ins : Instr} (hj : L320[j]? = some (pc, ins, nx, tg)) : dcd 320 pc ins nx tg := dcl_ok L320_ok hj
set_option maxRecDepth 100000 in
set_option maxHeartbeats 4000000 in
theorem r320_0   {M : dsMem} {Q : bQT} (s1 : ((0 < (M 85 8))) → (¬ (M 85 7) = 0) → -2147483648 ≤ ((M 85 7) - 1) ∧ ((M 85 7) - 1) < 2147483648 := by intros; omega) (k1 : ((0 < (M 85 8))) → (¬ (M 85 7) = 0) → Q [uI ((M 85 7) - 1)] (dsSet M 85 7 ((M 85 7) - 1))) (k2 : ((0 < (M 85 8))) → ((M 85 7) = 0) → Q [uI (-5)] M) (k3 : (¬ (0 < (M 85 8))) → Q [uI (-2)] M) :
    bB 320 0 [uR 11 84] [] M Q := by
  refine b_aload_n (d320 (j := 0) rfl) rfl ?_
  refine b_callV (d320 (j := 1) rfl) rfl rfl (Or.inl rfl) rfl (bCk_mk (n := 0) (k := 1) (by decide +kernel) rfl rfl) (pu182  ?_)
  refine b_stk [uI (if (0 < (M 85 8)) then 1 else 0)] rfl ?_
  refine b_ifneP (d320 (j := 2) rfl) (fun c1 => ?_) (fun c1 => ?_)
  ·
    refine b_aload_n (d320 (j := 5) rfl) rfl ?_
    refine b_getR (d320 (j := 6) rfl) rfl rfl rfl rfl ?_
    refine b_stk [uR 38 85] rfl ?_
    refine b_bipush (d320 (j := 7) rfl) (by decide) ?_
    refine b_iaload (d320 (j := 8) rfl) rfl (by decide) ?_
    refine b_if_ne (d320 (j := 9) rfl) (fun c2 => ?_) (fun c2 => ?_)
    ·
      refine b_aload_n (d320 (j := 12) rfl) rfl ?_
      refine b_getR (d320 (j := 13) rfl) rfl rfl rfl rfl ?_
      refine b_stk [uR 38 85] rfl ?_
      refine b_bipush (d320 (j := 14) rfl) (by decide) ?_
      refine b_dup2 (d320 (j := 15) rfl) ?_
      refine b_iaload (d320 (j := 16) rfl) rfl (by decide) ?_
      refine b_iconst (d320 (j := 17) rfl) (by decide) ?_
      refine b_isub (d320 (j := 18) rfl) rfl rfl ?_
      refine b_stk [uI ((M 85 7) - 1), uI 7, uR 38 85] (by rw [dsw_r (s1 c1 c2)]) ?_
      refine b_iastore (d320 (j := 19) rfl) rfl (by decide) ?_
      refine b_aload_n (d320 (j := 20) rfl) rfl ?_
      refine b_getR (d320 (j := 21) rfl) rfl rfl rfl rfl ?_
      refine b_stk [uR 38 85] rfl ?_
      refine b_bipush (d320 (j := 22) rfl) (by decide) ?_
      refine b_iaload (d320 (j := 23) rfl) rfl (by decide) ?_
      refine b_stk [uI ((M 85 7) - 1)] (by rw [ds_get_eq] <;> rfl) ?_
      exact b_iret (d320 (j := 24) rfl) rfl (k1 c1 c2)
    ·
      refine b_bipush (d320 (j := 10) rfl) (by decide) ?_
      exact b_iret (d320 (j := 11) rfl) rfl (k2 c1 c2)
  ·
    refine b_bipush (d320 (j := 3) rfl) (by decide) ?_
    exact b_iret (d320 (j := 4) rfl) rfl (k3 c1)
def L321 : List (Nat × Instr × Nat × Nat) := [(0, .aload_n 0, 1, 0), (1, .invokevirtual 120, 4, 0), (4, .ifCond .ne 6, 7, 10), (7, .bipush (-2), 9, 0), (9, .ireturn, 10, 0), (10, .aload_n 0, 11, 0), (11, .getfield 9, 14, 0), (14, .bipush 7, 16, 0), (16, .iaload, 17, 0), (17, .istore_n 1, 18, 0), (18, .aload_n 0, 19, 0), (19, .getfield 9, 22, 0), (22, .bipush 7, 24, 0), (24, .iconst 0, 25, 0), (25, .iastore, 26, 0), (26, .iload_n 1, 27, 0), (27, .ireturn, 28, 0)]
set_option maxRecDepth 100000 in
theorem L321_ok : L321.all (dck 321) = true := by decide +kernel
theorem d321 {j pc nx tg : Nat} {ins : Instr} (hj : L321[j]? = some (pc, ins, nx, tg)) : dcd 321 pc ins nx tg := dcl_ok L321_ok hj
set_option maxRecDepth 100000 in
set_option maxHeartbeats 4000000 in
theorem r321_0   {M : dsMem} {Q : bQT} (k1 : ((0 < (M 85 8))) → Q [uI (M 85 7)] (dsSet M 85 7 0)) (k2 : (¬ (0 < (M 85 8))) → Q [uI (-2)] M) :
    bB 321 0 [uR 11 84, uX 0] [] M Q := by
  refine b_aload_n (d321 (j := 0) rfl) rfl ?_
  refine b_callV (d321 (j := 1) rfl) rfl rfl (Or.inl rfl) rfl (bCk_mk (n := 0) (k := 1) (by decide +kernel) rfl rfl) (pu182  ?_)
  refine b_stk [uI (if (0 < (M 85 8)) then 1 else 0)] rfl ?_
  refine b_ifneP (d321 (j := 2) rfl) (fun c1 => ?_) (fun c1 => ?_)
  ·
    refine b_aload_n (d321 (j := 5) rfl) rfl ?_
    refine b_getR (d321 (j := 6) rfl) rfl rfl rfl rfl ?_
    refine b_stk [uR 38 85] rfl ?_
    refine b_bipush (d321 (j := 7) rfl) (by decide) ?_
    refine b_iaload (d321 (j := 8) rfl) rfl (by decide) ?_
    refine b_istore_n [uR 11 84, uI (M 85 7)] (d321 (j := 9) rfl) (by decide) rfl ?_
    refine b_aload_n (d321 (j := 10) rfl) rfl ?_
    refine b_getR (d321 (j := 11) rfl) rfl rfl rfl rfl ?_
    refine b_stk [uR 38 85] rfl ?_
    refine b_bipush (d321 (j := 12) rfl) (by decide) ?_
    refine b_iconst (d321 (j := 13) rfl) (by decide) ?_
    refine b_iastore (d321 (j := 14) rfl) rfl (by decide) ?_
    refine b_iload_n (d321 (j := 15) rfl) rfl ?_
    exact b_iret (d321 (j := 16) rfl) rfl (k1 c1)
  ·
    refine b_bipush (d321 (j := 3) rfl) (by decide) ?_
    exact b_iret (d321 (j := 4) rfl) rfl (k2 c1)
def L322 : List (Nat × Instr × Nat × Nat) := [(0, .aload_n 0, 1, 0), (1, .invokevirtual 358, 4, 0), (4, .lload_n 1, 5, 0), (5, .lstore_n 3, 6, 0), (6, .aload_n 0, 7, 0), (7, .iconst 0, 8, 0), (8, .putfield 280, 11, 0), (11, .iconst 0, 12, 0), (12, .istore 5, 14, 0), (14, .iload 5, 16, 0), (16, .aload_n 0, 17, 0), (17, .getfield 9, 20, 0), (20, .iconst 5, 21, 0), (21, .iaload, 22, 0), (22, .if_icmp .ge 60, 25, 82), (25, .ldc2_w 501, 28, 0), (28, .lload_n 3, 29, 0), (29, .lmul, 30, 0), (30, .ldc2_w 503, 33, 0), (33, .ladd, 34, 0), (34, .ldc2_w 505, 37, 0), (37, .lrem, 38, 0), (38, .lstore_n 3, 39, 0), (39, .aload_n 0, 40, 0), (40, .dup, 41, 0), (41, .getfield 280, 44, 0), (44, .lload_n 3, 45, 0), (45, .ldc2_w 507, 48, 0), (48, .ldiv, 49, 0), (49, .ldc2_w 509, 52, 0), (52, .lrem, 53, 0), (53, .aload_n 0, 54, 0), (54, .getfield 9, 57, 0), (57, .iconst 2, 58, 0), (58, .iaload, 59, 0), (59, .i2l, 60, 0), (60, .lcmp, 61, 0), (61, .ifCond .ge 10, 64, 71), (64, .iconst 1, 65, 0), (65, .iload 5, 67, 0), (67, .ishl, 68, 0), (68, .goto 4, 71, 72), (71, .iconst 0, 72, 0), (72, .ior, 73, 0), (73, .putfield 280, 76, 0), (76, .iinc 5 1, 79, 0), (79, .goto (-65), 82, 14), (82, .aload_n 0, 83, 0), (83, .invokevirtual 361, 86, 0), (86, .return_, 87, 0)]
set_option maxRecDepth 100000 in
theorem L322_ok : L322.all (dck 322) = true := by decide +kernel
theorem d322 {j pc nx tg : Nat} {ins : Instr} (hj : L322[j]? = some (pc, ins, nx, tg)) : dcd 322 pc ins nx tg := dcl_ok L322_ok hj
set_option maxRecDepth 100000 in
set_option maxHeartbeats 4000000 in
theorem r322_0 {x1 : Int} {R1 : dsMem → Prop} {M : dsMem} {Q : bQT} (hA1 : bCt 220 [uR 11 84, uX 0] M (fun _ => []) R1) (k1 : ∀ M1 : dsMem, R1 M1 → bB 322 14 [uR 11 84, uX 0, uX 0, uJ x1, uX 0, uI 0] [] (dsSet M1 84 18 0) Q) :
    bB 322 0 [uR 11 84, uJ x1, uX 0, uX 0, uX 0, uX 0] [] M Q := by
  refine b_aload_n (d322 (j := 0) rfl) rfl ?_
  refine b_callV (d322 (j := 1) rfl) rfl rfl (Or.inl rfl) rfl (bCk_mk (n := 0) (k := 1) (by decide +kernel) rfl rfl) ((hA1) _ (fun M1 hR1 => ?_))
  refine b_stk [] rfl ?_
  refine b_lload_n (d322 (j := 2) rfl) rfl ?_
  refine b_lstore_n [uR 11 84, uJ x1, uX 0, uJ x1, uX 0, uX 0] (d322 (j := 3) rfl) (by decide) rfl ?_
  refine b_aload_n (d322 (j := 4) rfl) rfl ?_
  refine b_iconst (d322 (j := 5) rfl) (by decide) ?_
  refine b_putI (d322 (j := 6) rfl) rfl ⟨rfl, rfl⟩ rfl rfl ?_
  refine b_iconst (d322 (j := 7) rfl) (by decide) ?_
  refine b_istore [uR 11 84, uJ x1, uX 0, uJ x1, uX 0, uI 0] (d322 (j := 8) rfl) (by decide) rfl ?_
  exact bB_le _ (bLe_s (bLe_x (bLe_s (bLe_s (bLe_s (bLe_s bLe_nil)))))) (k1 M1 hR1)
set_option maxRecDepth 100000 in
set_option maxHeartbeats 4000000 in
theorem r322_14 {x3 x5 : Int} {R1 : dsMem → Prop} {M : dsMem} {Q : bQT} (hA1 : ((M 85 5) ≤ x5) → bCt 234 [uR 11 84, uX 0] M (fun _ => []) R1) (k1 : ((M 85 5) ≤ x5) → ∀ M1 : dsMem, R1 M1 → Q [] M1) (s1 : (¬ (M 85 5) ≤ x5) → -9223372036854775808 ≤ ((1103515245 * x3) + 12345) ∧ ((1103515245 * x3) + 12345) < 9223372036854775808 := by intros; omega) (s2 : (¬ (M 85 5) ≤ x5) → 0 ≤ ((1103515245 * x3) + 12345) ∧ (0 : Int) < 2147483648 := by intros; omega) (s3 : (¬ (M 85 5) ≤ x5) → (0 ≤ (((1103515245 * x3) + 12345) % 2147483648) ∧ (((1103515245 * x3) + 12345) % 2147483648) < 9223372036854775808) ∧ (0 : Int) < 65536 := by intros; omega) (s4 : (¬ (M 85 5) ≤ x5) → 0 ≤ ((((1103515245 * x3) + 12345) % 2147483648) / 65536) ∧ (0 : Int) < 10 := by intros; omega) (s5 : (¬ (M 85 5) ≤ x5) → ((M 85 2) ≤ (((((1103515245 * x3) + 12345) % 2147483648) / 65536) % 10)) → -2147483648 ≤ x5 + 1 ∧ x5 + 1 < 2147483648 := by intros; omega) (k2 : (¬ (M 85 5) ≤ x5) → ((M 85 2) ≤ (((((1103515245 * x3) + 12345) % 2147483648) / 65536) % 10)) → bB 322 14 [uR 11 84, uX 0, uX 0, uJ (((1103515245 * x3) + 12345) % 2147483648), uX 0, uI (x5 + 1)] [] (dsSet M 84 18 (dsOr (M 84 18) 0)) Q) (s6 : (¬ (M 85 5) ≤ x5) → (¬ (M 85 2) ≤ (((((1103515245 * x3) + 12345) % 2147483648) / 65536) % 10)) → -2147483648 ≤ x5 + 1 ∧ x5 + 1 < 2147483648 := by intros; omega) (k3 : (¬ (M 85 5) ≤ x5) → (¬ (M 85 2) ≤ (((((1103515245 * x3) + 12345) % 2147483648) / 65536) % 10)) → bB 322 14 [uR 11 84, uX 0, uX 0, uJ (((1103515245 * x3) + 12345) % 2147483648), uX 0, uI (x5 + 1)] [] (dsSet M 84 18 (dsOr (M 84 18) (dsShl 1 x5))) Q) :
    bB 322 14 [uR 11 84, uX 0, uX 0, uJ x3, uX 0, uI x5] [] M Q := by
  refine b_iload (d322 (j := 9) rfl) rfl ?_
  refine b_aload_n (d322 (j := 10) rfl) rfl ?_
  refine b_getR (d322 (j := 11) rfl) rfl rfl rfl rfl ?_
  refine b_stk [uR 38 85, uI x5] rfl ?_
  refine b_iconst (d322 (j := 12) rfl) (by decide) ?_
  refine b_iaload (d322 (j := 13) rfl) rfl (by decide) ?_
  refine b_icmp_ge (d322 (j := 14) rfl) (fun c1 => ?_) (fun c1 => ?_)
  ·
    refine b_aload_n (d322 (j := 47) rfl) rfl ?_
    refine b_callV (d322 (j := 48) rfl) rfl rfl (Or.inl rfl) rfl (bCk_mk (n := 0) (k := 1) (by decide +kernel) rfl rfl) ((hA1 c1) _ (fun M1 hR1 => ?_))
    refine b_stk [] rfl ?_
    exact b_vret (d322 (j := 49) rfl) rfl (k1 c1 M1 hR1)
  ·
    refine b_ldc2 (d322 (j := 15) rfl) rfl ?_
    refine b_lload_n (d322 (j := 16) rfl) rfl ?_
    refine b_lmul (d322 (j := 17) rfl) rfl rfl ?_
    refine b_ldc2 (d322 (j := 18) rfl) rfl ?_
    refine b_ladd (d322 (j := 19) rfl) (dsw64_dsw _) rfl ?_
    refine b_ldc2 (d322 (j := 20) rfl) rfl ?_
    refine b_stk [uJ 2147483648, uJ ((1103515245 * x3) + 12345)] (by rw [dsw64_r (s1 c1)]) ?_
    refine b_lremP (d322 (j := 21) rfl) (s2 c1) ?_
    refine b_lstore_n [uR 11 84, uX 0, uX 0, uJ (((1103515245 * x3) + 12345) % 2147483648), uX 0, uI x5] (d322 (j := 22) rfl) (by decide) rfl ?_
    refine b_aload_n (d322 (j := 23) rfl) rfl ?_
    refine b_dup (d322 (j := 24) rfl) rfl ?_
    refine b_getI (d322 (j := 25) rfl) rfl rfl rfl rfl (Or.inl rfl) ?_
    refine b_stk [uI (M 84 18), uR 11 84] rfl ?_
    refine b_lload_n (d322 (j := 26) rfl) rfl ?_
    refine b_ldc2 (d322 (j := 27) rfl) rfl ?_
    refine b_ldivP (d322 (j := 28) rfl) (s3 c1) ?_
    refine b_ldc2 (d322 (j := 29) rfl) rfl ?_
    refine b_lremP (d322 (j := 30) rfl) (s4 c1) ?_
    refine b_aload_n (d322 (j := 31) rfl) rfl ?_
    refine b_getR (d322 (j := 32) rfl) rfl rfl rfl rfl ?_
    refine b_stk [uR 38 85, uJ (((((1103515245 * x3) + 12345) % 2147483648) / 65536) % 10), uI (M 84 18), uR 11 84] rfl ?_
    refine b_iconst (d322 (j := 33) rfl) (by decide) ?_
    refine b_iaload (d322 (j := 34) rfl) rfl (by decide) ?_
    refine b_i2l (d322 (j := 35) rfl) ?_
    refine b_lcmp (d322 (j := 36) rfl) ?_
    refine b_lif_ge (d322 (j := 37) rfl) (fun c2 => ?_) (fun c2 => ?_)
    ·
      refine b_iconst (d322 (j := 42) rfl) (by decide) ?_
      refine b_ior (d322 (j := 43) rfl) ?_
      refine b_putI (d322 (j := 44) rfl) rfl ⟨rfl, rfl⟩ rfl rfl ?_
      refine b_iinc [uR 11 84, uX 0, uX 0, uJ (((1103515245 * x3) + 12345) % 2147483648), uX 0, uI (x5 + 1)] (d322 (j := 45) rfl) rfl (by decide) (s5 c1 c2) rfl ?_
      refine b_goto (d322 (j := 46) rfl) ?_
      exact (k2 c1 c2)
    ·
      refine b_iconst (d322 (j := 38) rfl) (by decide) ?_
      refine b_iload (d322 (j := 39) rfl) rfl ?_
      refine b_ishl (d322 (j := 40) rfl) ?_
      refine b_goto (d322 (j := 41) rfl) ?_
      refine b_ior (d322 (j := 43) rfl) ?_
      refine b_putI (d322 (j := 44) rfl) rfl ⟨rfl, rfl⟩ rfl rfl ?_
      refine b_iinc [uR 11 84, uX 0, uX 0, uJ (((1103515245 * x3) + 12345) % 2147483648), uX 0, uI (x5 + 1)] (d322 (j := 45) rfl) rfl (by decide) (s6 c1 c2) rfl ?_
      refine b_goto (d322 (j := 46) rfl) ?_
      exact (k3 c1 c2)
def L324 : List (Nat × Instr × Nat × Nat) := [(0, .aload_n 0, 1, 0), (1, .invokevirtual 120, 4, 0), (4, .ifCond .eq 20, 7, 24), (7, .iload_n 1, 8, 0), (8, .invokestatic 513, 11, 0), (11, .ifCond .eq 13, 14, 24), (14, .iload_n 2, 15, 0), (15, .i2l, 16, 0), (16, .lconst 0, 17, 0), (17, .lconst 1, 18, 0), (18, .invokestatic 112, 21, 0), (21, .ifCond .ne 6, 24, 27), (24, .bipush (-2), 26, 0), (26, .ireturn, 27, 0), (27, .aload_n 0, 28, 0), (28, .iload_n 1, 29, 0), (29, .i2l, 30, 0), (30, .invokevirtual 516, 33, 0), (33, .iload_n 2, 34, 0), (34, .ifCond .ne 10, 37, 44), (37, .aload_n 0, 38, 0), (38, .getfield 280, 41, 0), (41, .goto 12, 44, 53), (44, .aload_n 0, 45, 0), (45, .getfield 82, 48, 0), (48, .aload_n 0, 49, 0), (49, .invokevirtual 124, 52, 0), (52, .iaload, 53, 0), (53, .ireturn, 54, 0)]
set_option maxRecDepth 100000 in
theorem L324_ok : L324.all (dck 324) = true := by decide +kernel
theorem d324 {j pc nx tg : Nat} {ins : Instr} (hj : L324[j]? = some (pc, ins, nx, tg)) : dcd 324 pc ins nx tg := dcl_ok L324_ok hj
set_option maxRecDepth 100000 in
set_option maxHeartbeats 4000000 in
theorem r324_0 {x1 x2 : Int} {R1 : dsMem → Prop} {M : dsMem} {Q : bQT} (k1 : (¬ (0 < (M 85 8))) → Q [uI (-2)] M) (k2 : ((0 < (M 85 8))) → (¬ (0 ≤ x1 ∧ x1 ≤ 2000000000)) → Q [uI (-2)] M) (hA1 : ((0 < (M 85 8))) → ((0 ≤ x1 ∧ x1 ≤ 2000000000)) → ((0 ≤ x2 ∧ x2 ≤ 1)) → bCt 322 [uR 11 84, uJ x1, uX 0, uX 0, uX 0, uX 0] M (fun _ => []) R1) (s1 : ((0 < (M 85 8))) → ((0 ≤ x1 ∧ x1 ≤ 2000000000)) → ((0 ≤ x2 ∧ x2 ≤ 1)) → ∀ M1 : dsMem, R1 M1 → (¬ x2 = 0) → 0 ≤ (M1 85 0) ∧ (M1 85 0) < 13 := by intros; omega) (k3 : ((0 < (M 85 8))) → ((0 ≤ x1 ∧ x1 ≤ 2000000000)) → ((0 ≤ x2 ∧ x2 ≤ 1)) → ∀ M1 : dsMem, R1 M1 → (¬ x2 = 0) → Q [uI (M1 107 (M1 85 0))] M1) (k4 : ((0 < (M 85 8))) → ((0 ≤ x1 ∧ x1 ≤ 2000000000)) → ((0 ≤ x2 ∧ x2 ≤ 1)) → ∀ M1 : dsMem, R1 M1 → (x2 = 0) → Q [uI (M1 84 18)] M1) (k5 : ((0 < (M 85 8))) → ((0 ≤ x1 ∧ x1 ≤ 2000000000)) → (¬ (0 ≤ x2 ∧ x2 ≤ 1)) → Q [uI (-2)] M) :
    bB 324 0 [uR 11 84, uI x1, uI x2] [] M Q := by
  refine b_aload_n (d324 (j := 0) rfl) rfl ?_
  refine b_callV (d324 (j := 1) rfl) rfl rfl (Or.inl rfl) rfl (bCk_mk (n := 0) (k := 1) (by decide +kernel) rfl rfl) (pu182  ?_)
  refine b_stk [uI (if (0 < (M 85 8)) then 1 else 0)] rfl ?_
  refine b_ifeqP (d324 (j := 2) rfl) (fun c1 => ?_) (fun c1 => ?_)
  ·
    refine b_bipush (d324 (j := 12) rfl) (by decide) ?_
    exact b_iret (d324 (j := 13) rfl) rfl (k1 c1)
  ·
    refine b_iload_n (d324 (j := 3) rfl) rfl ?_
    refine b_callS (d324 (j := 4) rfl) (Or.inl rfl) rfl (bCk_mk (n := 0) (k := 1) (by decide +kernel) rfl rfl) (pu323  ?_)
    refine b_stk [uI (if (0 ≤ x1 ∧ x1 ≤ 2000000000) then 1 else 0)] rfl ?_
    refine b_ifeqP (d324 (j := 5) rfl) (fun c2 => ?_) (fun c2 => ?_)
    ·
      refine b_bipush (d324 (j := 12) rfl) (by decide) ?_
      exact b_iret (d324 (j := 13) rfl) rfl (k2 c1 c2)
    ·
      refine b_iload_n (d324 (j := 6) rfl) rfl ?_
      refine b_i2l (d324 (j := 7) rfl) ?_
      refine b_lconst (d324 (j := 8) rfl) ?_
      refine b_stk [uJ 0, uJ x2] rfl ?_
      refine b_lconst (d324 (j := 9) rfl) ?_
      refine b_stk [uJ 1, uJ 0, uJ x2] rfl ?_
      refine b_callS (d324 (j := 10) rfl) (Or.inl rfl) rfl (bCk_mk (n := 0) (k := 6) (by decide +kernel) rfl rfl) (pu177  ?_)
      refine b_stk [uI (if (0 ≤ x2 ∧ x2 ≤ 1) then 1 else 0)] rfl ?_
      refine b_ifneP (d324 (j := 11) rfl) (fun c3 => ?_) (fun c3 => ?_)
      ·
        refine b_aload_n (d324 (j := 14) rfl) rfl ?_
        refine b_iload_n (d324 (j := 15) rfl) rfl ?_
        refine b_i2l (d324 (j := 16) rfl) ?_
        refine b_callV (d324 (j := 17) rfl) rfl rfl (Or.inl rfl) rfl (bCk_mk (n := 0) (k := 3) (by decide +kernel) rfl rfl) ((hA1 c1 c2 c3) _ (fun M1 hR1 => ?_))
        refine b_stk [] rfl ?_
        refine b_iload_n (d324 (j := 18) rfl) rfl ?_
        refine b_if_ne (d324 (j := 19) rfl) (fun c4 => ?_) (fun c4 => ?_)
        ·
          refine b_aload_n (d324 (j := 23) rfl) rfl ?_
          refine b_getR (d324 (j := 24) rfl) rfl rfl rfl rfl ?_
          refine b_stk [uR 27 107] rfl ?_
          refine b_aload_n (d324 (j := 25) rfl) rfl ?_
          refine b_callV (d324 (j := 26) rfl) rfl rfl (Or.inl rfl) rfl (bCk_mk (n := 1) (k := 1) (by decide +kernel) rfl rfl) (pu183  ?_)
          refine b_stk [uI (M1 85 0), uR 27 107] rfl ?_
          refine b_iaload (d324 (j := 27) rfl) rfl (s1 c1 c2 c3 M1 hR1 c4) ?_
          exact b_iret (d324 (j := 28) rfl) rfl (k3 c1 c2 c3 M1 hR1 c4)
        ·
          refine b_aload_n (d324 (j := 20) rfl) rfl ?_
          refine b_getI (d324 (j := 21) rfl) rfl rfl rfl rfl (Or.inl rfl) ?_
          refine b_stk [uI (M1 84 18)] rfl ?_
          refine b_goto (d324 (j := 22) rfl) ?_
          exact b_iret (d324 (j := 28) rfl) rfl (k4 c1 c2 c3 M1 hR1 c4)
      ·
        refine b_bipush (d324 (j := 12) rfl) (by decide) ?_
        exact b_iret (d324 (j := 13) rfl) rfl (k5 c1 c2 c3)
def L325 : List (Nat × Instr × Nat × Nat) := [(0, .iload_n 1, 1, 0), (1, .invokestatic 513, 4, 0), (4, .ifCond .eq 24, 7, 28), (7, .iload_n 2, 8, 0), (8, .i2l, 9, 0), (9, .lconst 1, 10, 0), (10, .ldc2_w 496, 13, 0), (13, .invokestatic 112, 16, 0), (16, .ifCond .eq 12, 19, 28), (19, .aload_n 0, 20, 0), (20, .iload_n 3, 21, 0), (21, .i2l, 22, 0), (22, .invokevirtual 264, 25, 0), (25, .ifCond .ne 6, 28, 31), (28, .bipush (-2), 30, 0), (30, .ireturn, 31, 0), (31, .iconst 0, 32, 0), (32, .istore 4, 34, 0), (34, .iconst 0, 35, 0), (35, .istore 5, 37, 0), (37, .iload 5, 39, 0), (39, .iload_n 2, 40, 0), (40, .if_icmp .ge 37, 43, 77), (43, .aload_n 0, 44, 0), (44, .iload_n 1, 45, 0), (45, .i2l, 46, 0), (46, .iload 5, 48, 0), (48, .i2l, 49, 0), (49, .ladd, 50, 0), (50, .invokevirtual 516, 53, 0), (53, .iload 4, 55, 0), (55, .aload_n 0, 56, 0), (56, .getfield 82, 59, 0), (59, .aload_n 0, 60, 0), (60, .invokevirtual 124, 63, 0), (63, .iaload, 64, 0), (64, .iload_n 3, 65, 0), (65, .invokestatic 304, 68, 0), (68, .iadd, 69, 0), (69, .istore 4, 71, 0), (71, .iinc 5 1, 74, 0), (74, .goto (-37), 77, 37), (77, .iload 4, 79, 0), (79, .ireturn, 80, 0)]
set_option maxRecDepth 100000 in
theorem L325_ok : L325.all (dck 325) = true := by decide +kernel
theorem d325 {j pc nx tg : Nat} {ins : Instr} (hj : L325[j]? = some (pc, ins, nx, tg)) : dcd 325 pc ins nx tg := dcl_ok L325_ok hj
set_option maxRecDepth 100000 in
set_option maxHeartbeats 4000000 in
theorem r325_0 {x1 x2 x3 : Int}  {M : dsMem} {Q : bQT} (k1 : (¬ (0 ≤ x1 ∧ x1 ≤ 2000000000)) → Q [uI (-2)] M) (k2 : ((0 ≤ x1 ∧ x1 ≤ 2000000000)) → (¬ (1 ≤ x2 ∧ x2 ≤ 20)) → Q [uI (-2)] M) (s1 : ((0 ≤ x1 ∧ x1 ≤ 2000000000)) → ((1 ≤ x2 ∧ x2 ≤ 20)) → -2147483648 ≤ ((M 85 3) - 1) ∧ ((M 85 3) - 1) < 2147483648 := by intros; omega) (k3 : ((0 ≤ x1 ∧ x1 ≤ 2000000000)) → ((1 ≤ x2 ∧ x2 ≤ 20)) → ((0 ≤ x3 ∧ x3 ≤ (M 85 3) - 1)) → bB 325 37 [uR 11 84, uI x1, uI x2, uI x3, uI 0, uI 0] [] M Q) (k4 : ((0 ≤ x1 ∧ x1 ≤ 2000000000)) → ((1 ≤ x2 ∧ x2 ≤ 20)) → (¬ (0 ≤ x3 ∧ x3 ≤ (M 85 3) - 1)) → Q [uI (-2)] M) :
    bB 325 0 [uR 11 84, uI x1, uI x2, uI x3, uX 0, uX 0] [] M Q := by
  refine b_iload_n (d325 (j := 0) rfl) rfl ?_
  refine b_callS (d325 (j := 1) rfl) (Or.inl rfl) rfl (bCk_mk (n := 0) (k := 1) (by decide +kernel) rfl rfl) (pu323  ?_)
  refine b_stk [uI (if (0 ≤ x1 ∧ x1 ≤ 2000000000) then 1 else 0)] rfl ?_
  refine b_ifeqP (d325 (j := 2) rfl) (fun c1 => ?_) (fun c1 => ?_)
  ·
    refine b_bipush (d325 (j := 14) rfl) (by decide) ?_
    exact b_iret (d325 (j := 15) rfl) rfl (k1 c1)
  ·
    refine b_iload_n (d325 (j := 3) rfl) rfl ?_
    refine b_i2l (d325 (j := 4) rfl) ?_
    refine b_lconst (d325 (j := 5) rfl) ?_
    refine b_stk [uJ 1, uJ x2] rfl ?_
    refine b_ldc2 (d325 (j := 6) rfl) rfl ?_
    refine b_callS (d325 (j := 7) rfl) (Or.inl rfl) rfl (bCk_mk (n := 0) (k := 6) (by decide +kernel) rfl rfl) (pu177  ?_)
    refine b_stk [uI (if (1 ≤ x2 ∧ x2 ≤ 20) then 1 else 0)] rfl ?_
    refine b_ifeqP (d325 (j := 8) rfl) (fun c2 => ?_) (fun c2 => ?_)
    ·
      refine b_bipush (d325 (j := 14) rfl) (by decide) ?_
      exact b_iret (d325 (j := 15) rfl) rfl (k2 c1 c2)
    ·
      refine b_aload_n (d325 (j := 9) rfl) rfl ?_
      refine b_iload_n (d325 (j := 10) rfl) rfl ?_
      refine b_i2l (d325 (j := 11) rfl) ?_
      refine b_callV (d325 (j := 12) rfl) rfl rfl (Or.inl rfl) rfl (bCk_mk (n := 0) (k := 3) (by decide +kernel) rfl rfl) (pu189 (s1 c1 c2) ?_)
      refine b_stk [uI (if (0 ≤ x3 ∧ x3 ≤ (M 85 3) - 1) then 1 else 0)] rfl ?_
      refine b_ifneP (d325 (j := 13) rfl) (fun c3 => ?_) (fun c3 => ?_)
      ·
        refine b_iconst (d325 (j := 16) rfl) (by decide) ?_
        refine b_istore [uR 11 84, uI x1, uI x2, uI x3, uI 0, uX 0] (d325 (j := 17) rfl) (by decide) rfl ?_
        refine b_iconst (d325 (j := 18) rfl) (by decide) ?_
        refine b_istore [uR 11 84, uI x1, uI x2, uI x3, uI 0, uI 0] (d325 (j := 19) rfl) (by decide) rfl ?_
        exact (k3 c1 c2 c3)
      ·
        refine b_bipush (d325 (j := 14) rfl) (by decide) ?_
        exact b_iret (d325 (j := 15) rfl) rfl (k4 c1 c2 c3)
set_option maxRecDepth 100000 in
set_option maxHeartbeats 4000000 in
theorem r325_37 {x1 x2 x3 x4 x5 : Int} {R1 : dsMem → Prop} {M : dsMem} {Q : bQT} (k1 : (x2 ≤ x5) → Q [uI x4] M) (s1 : (¬ x2 ≤ x5) → -9223372036854775808 ≤ (x1 + x5) ∧ (x1 + x5) < 9223372036854775808 := by intros; omega) (hA1 : (¬ x2 ≤ x5) → bCt 322 [uR 11 84, uJ (x1 + x5), uX 0, uX 0, uX 0, uX 0] M (fun _ => []) R1) (s2 : (¬ x2 ≤ x5) → ∀ M1 : dsMem, R1 M1 → 0 ≤ (M1 85 0) ∧ (M1 85 0) < 13 := by intros; omega) (s3 : (¬ x2 ≤ x5) → ∀ M1 : dsMem, R1 M1 → -2147483648 ≤ (x4 + (dsAnd (dsShr (M1 107 (M1 85 0)) x3) 1)) ∧ (x4 + (dsAnd (dsShr (M1 107 (M1 85 0)) x3) 1)) < 2147483648 := by intros; omega) (s4 : (¬ x2 ≤ x5) → ∀ M1 : dsMem, R1 M1 → -2147483648 ≤ x5 + 1 ∧ x5 + 1 < 2147483648 := by intros; omega) (k2 : (¬ x2 ≤ x5) → ∀ M1 : dsMem, R1 M1 → bB 325 37 [uR 11 84, uI x1, uI x2, uI x3, uI (x4 + (dsAnd (dsShr (M1 107 (M1 85 0)) x3) 1)), uI (x5 + 1)] [] M1 Q) :
    bB 325 37 [uR 11 84, uI x1, uI x2, uI x3, uI x4, uI x5] [] M Q := by
  refine b_iload (d325 (j := 20) rfl) rfl ?_
  refine b_iload_n (d325 (j := 21) rfl) rfl ?_
  refine b_icmp_ge (d325 (j := 22) rfl) (fun c1 => ?_) (fun c1 => ?_)
  ·
    refine b_iload (d325 (j := 42) rfl) rfl ?_
    exact b_iret (d325 (j := 43) rfl) rfl (k1 c1)
  ·
    refine b_aload_n (d325 (j := 23) rfl) rfl ?_
    refine b_iload_n (d325 (j := 24) rfl) rfl ?_
    refine b_i2l (d325 (j := 25) rfl) ?_
    refine b_iload (d325 (j := 26) rfl) rfl ?_
    refine b_i2l (d325 (j := 27) rfl) ?_
    refine b_ladd (d325 (j := 28) rfl) rfl rfl ?_
    refine b_stk [uJ (x1 + x5), uR 11 84] (by rw [dsw64_r (s1 c1)]) ?_
    refine b_callV (d325 (j := 29) rfl) rfl rfl (Or.inl rfl) rfl (bCk_mk (n := 0) (k := 3) (by decide +kernel) rfl rfl) ((hA1 c1) _ (fun M1 hR1 => ?_))
    refine b_stk [] rfl ?_
    refine b_iload (d325 (j := 30) rfl) rfl ?_
    refine b_aload_n (d325 (j := 31) rfl) rfl ?_
    refine b_getR (d325 (j := 32) rfl) rfl rfl rfl rfl ?_
    refine b_stk [uR 27 107, uI x4] rfl ?_
    refine b_aload_n (d325 (j := 33) rfl) rfl ?_
    refine b_callV (d325 (j := 34) rfl) rfl rfl (Or.inl rfl) rfl (bCk_mk (n := 2) (k := 1) (by decide +kernel) rfl rfl) (pu183  ?_)
    refine b_stk [uI (M1 85 0), uR 27 107, uI x4] rfl ?_
    refine b_iaload (d325 (j := 35) rfl) rfl (s2 c1 M1 hR1) ?_
    refine b_iload_n (d325 (j := 36) rfl) rfl ?_
    refine b_callS (d325 (j := 37) rfl) (Or.inl rfl) rfl (bCk_mk (n := 1) (k := 2) (by decide +kernel) rfl rfl) (pu179  ?_)
    refine b_stk [uI (dsAnd (dsShr (M1 107 (M1 85 0)) x3) 1), uI x4] rfl ?_
    refine b_iadd (d325 (j := 38) rfl) rfl rfl ?_
    refine b_stk [uI (x4 + (dsAnd (dsShr (M1 107 (M1 85 0)) x3) 1))] (by rw [dsw_r (s3 c1 M1 hR1)]) ?_
    refine b_istore [uR 11 84, uI x1, uI x2, uI x3, uI (x4 + (dsAnd (dsShr (M1 107 (M1 85 0)) x3) 1)), uI x5] (d325 (j := 39) rfl) (by decide) rfl ?_
    refine b_iinc [uR 11 84, uI x1, uI x2, uI x3, uI (x4 + (dsAnd (dsShr (M1 107 (M1 85 0)) x3) 1)), uI (x5 + 1)] (d325 (j := 40) rfl) rfl (by decide) (s4 c1 M1 hR1) rfl ?_
    refine b_goto (d325 (j := 41) rfl) ?_
    exact (k2 c1 M1 hR1)
def L326 : List (Nat × Instr × Nat × Nat) := [(0, .aload_n 0, 1, 0), (1, .iload_n 1, 2, 0), (2, .i2l, 3, 0), (3, .invokevirtual 264, 6, 0), (6, .ifCond .eq 15, 9, 21), (9, .iload_n 2, 10, 0), (10, .i2l, 11, 0), (11, .lconst 0, 12, 0), (12, .ldc2_w 520, 15, 0), (15, .invokestatic 112, 18, 0), (18, .ifCond .ne 6, 21, 24), (21, .bipush (-2), 23, 0), (23, .ireturn, 24, 0), (24, .aload_n 0, 25, 0), (25, .getfield 9, 28, 0), (28, .bipush 7, 30, 0), (30, .iaload, 31, 0), (31, .ifCond .le 6, 34, 37), (34, .bipush (-5), 36, 0), (36, .ireturn, 37, 0), (37, .aload_n 0, 38, 0), (38, .getfield 9, 41, 0), (41, .bipush 9, 43, 0), (43, .iconst 2, 44, 0), (44, .iload_n 1, 45, 0), (45, .imul, 46, 0), (46, .iadd, 47, 0), (47, .iaload, 48, 0), (48, .istore_n 3, 49, 0), (49, .aload_n 0, 50, 0), (50, .getfield 9, 53, 0), (53, .bipush 9, 55, 0), (55, .iconst 2, 56, 0), (56, .iload_n 1, 57, 0), (57, .imul, 58, 0), (58, .iadd, 59, 0), (59, .iload_n 2, 60, 0), (60, .iastore, 61, 0), (61, .iload_n 3, 62, 0), (62, .ireturn, 63, 0)]
set_option maxRecDepth 100000 in
theorem L326_ok : L326.all (dck 326) = true := by decide +kernel
theorem d326 {j pc nx tg : Nat} {ins : Instr} (hj : L326[j]? = some (pc, ins, nx, tg)) : dcd 326 pc ins nx tg := dcl_ok L326_ok hj
set_option maxRecDepth 100000 in
set_option maxHeartbeats 4000000 in
theorem r326_0 {x1 x2 : Int}  {M : dsMem} {Q : bQT} (s1 : -2147483648 ≤ ((M 85 3) - 1) ∧ ((M 85 3) - 1) < 2147483648 := by intros; omega) (k1 : (¬ (0 ≤ x1 ∧ x1 ≤ (M 85 3) - 1)) → Q [uI (-2)] M) (s2 : ((0 ≤ x1 ∧ x1 ≤ (M 85 3) - 1)) → ((0 ≤ x2 ∧ x2 ≤ 300)) → ((M 85 7) ≤ 0) → 0 ≤ (9 + (2 * x1)) ∧ (9 + (2 * x1)) < 105 := by intros; omega) (k2 : ((0 ≤ x1 ∧ x1 ≤ (M 85 3) - 1)) → ((0 ≤ x2 ∧ x2 ≤ 300)) → ((M 85 7) ≤ 0) → Q [uI (M 85 (9 + (2 * x1)))] (dsSet M 85 (9 + (2 * x1)) x2)) (k3 : ((0 ≤ x1 ∧ x1 ≤ (M 85 3) - 1)) → ((0 ≤ x2 ∧ x2 ≤ 300)) → (¬ (M 85 7) ≤ 0) → Q [uI (-5)] M) (k4 : ((0 ≤ x1 ∧ x1 ≤ (M 85 3) - 1)) → (¬ (0 ≤ x2 ∧ x2 ≤ 300)) → Q [uI (-2)] M) :
    bB 326 0 [uR 11 84, uI x1, uI x2, uX 0] [] M Q := by
  refine b_aload_n (d326 (j := 0) rfl) rfl ?_
  refine b_iload_n (d326 (j := 1) rfl) rfl ?_
  refine b_i2l (d326 (j := 2) rfl) ?_
  refine b_callV (d326 (j := 3) rfl) rfl rfl (Or.inl rfl) rfl (bCk_mk (n := 0) (k := 3) (by decide +kernel) rfl rfl) (pu189 s1 ?_)
  refine b_stk [uI (if (0 ≤ x1 ∧ x1 ≤ (M 85 3) - 1) then 1 else 0)] rfl ?_
  refine b_ifeqP (d326 (j := 4) rfl) (fun c1 => ?_) (fun c1 => ?_)
  ·
    refine b_bipush (d326 (j := 11) rfl) (by decide) ?_
    exact b_iret (d326 (j := 12) rfl) rfl (k1 c1)
  ·
    refine b_iload_n (d326 (j := 5) rfl) rfl ?_
    refine b_i2l (d326 (j := 6) rfl) ?_
    refine b_lconst (d326 (j := 7) rfl) ?_
    refine b_stk [uJ 0, uJ x2] rfl ?_
    refine b_ldc2 (d326 (j := 8) rfl) rfl ?_
    refine b_callS (d326 (j := 9) rfl) (Or.inl rfl) rfl (bCk_mk (n := 0) (k := 6) (by decide +kernel) rfl rfl) (pu177  ?_)
    refine b_stk [uI (if (0 ≤ x2 ∧ x2 ≤ 300) then 1 else 0)] rfl ?_
    refine b_ifneP (d326 (j := 10) rfl) (fun c2 => ?_) (fun c2 => ?_)
    ·
      refine b_aload_n (d326 (j := 13) rfl) rfl ?_
      refine b_getR (d326 (j := 14) rfl) rfl rfl rfl rfl ?_
      refine b_stk [uR 38 85] rfl ?_
      refine b_bipush (d326 (j := 15) rfl) (by decide) ?_
      refine b_iaload (d326 (j := 16) rfl) rfl (by decide) ?_
      refine b_if_le (d326 (j := 17) rfl) (fun c3 => ?_) (fun c3 => ?_)
      ·
        refine b_aload_n (d326 (j := 20) rfl) rfl ?_
        refine b_getR (d326 (j := 21) rfl) rfl rfl rfl rfl ?_
        refine b_stk [uR 38 85] rfl ?_
        refine b_bipush (d326 (j := 22) rfl) (by decide) ?_
        refine b_iconst (d326 (j := 23) rfl) (by decide) ?_
        refine b_iload_n (d326 (j := 24) rfl) rfl ?_
        refine b_imul (d326 (j := 25) rfl) rfl rfl ?_
        refine b_iadd (d326 (j := 26) rfl) rfl (dsw_dsw _) ?_
        refine b_stk [uI (9 + (2 * x1)), uR 38 85] (by rw [dsw_b (s2 c1 c2 c3) (by decide)]) ?_
        refine b_iaload (d326 (j := 27) rfl) rfl (s2 c1 c2 c3) ?_
        refine b_istore_n [uR 11 84, uI x1, uI x2, uI (M 85 (9 + (2 * x1)))] (d326 (j := 28) rfl) (by decide) rfl ?_
        refine b_aload_n (d326 (j := 29) rfl) rfl ?_
        refine b_getR (d326 (j := 30) rfl) rfl rfl rfl rfl ?_
        refine b_stk [uR 38 85] rfl ?_
        refine b_bipush (d326 (j := 31) rfl) (by decide) ?_
        refine b_iconst (d326 (j := 32) rfl) (by decide) ?_
        refine b_iload_n (d326 (j := 33) rfl) rfl ?_
        refine b_imul (d326 (j := 34) rfl) rfl rfl ?_
        refine b_iadd (d326 (j := 35) rfl) rfl (dsw_dsw _) ?_
        refine b_iload_n (d326 (j := 36) rfl) rfl ?_
        refine b_stk [uI x2, uI (9 + (2 * x1)), uR 38 85] (by rw [dsw_b (s2 c1 c2 c3) (by decide)]) ?_
        refine b_iastore (d326 (j := 37) rfl) rfl (s2 c1 c2 c3) ?_
        refine b_iload_n (d326 (j := 38) rfl) rfl ?_
        exact b_iret (d326 (j := 39) rfl) rfl (k2 c1 c2 c3)
      ·
        refine b_bipush (d326 (j := 18) rfl) (by decide) ?_
        exact b_iret (d326 (j := 19) rfl) rfl (k3 c1 c2 c3)
    ·
      refine b_bipush (d326 (j := 11) rfl) (by decide) ?_
      exact b_iret (d326 (j := 12) rfl) rfl (k4 c1 c2)
def L327 : List (Nat × Instr × Nat × Nat) := [(0, .iload_n 1, 1, 0), (1, .i2l, 2, 0), (2, .lconst 0, 3, 0), (3, .ldc2_w 522, 6, 0), (6, .invokestatic 112, 9, 0), (9, .ifCond .eq 10, 12, 19), (12, .aload_n 0, 13, 0), (13, .getfield 9, 16, 0), (16, .iload_n 1, 17, 0), (17, .iaload, 18, 0), (18, .ireturn, 19, 0), (19, .iload_n 1, 20, 0), (20, .bipush 9, 22, 0), (22, .if_icmp .ne 8, 25, 30), (25, .aload_n 0, 26, 0), (26, .getfield 136, 29, 0), (29, .ireturn, 30, 0), (30, .iload_n 1, 31, 0), (31, .bipush 10, 33, 0), (33, .if_icmp .eq 5, 36, 38), (36, .iconst (-1), 37, 0), (37, .ireturn, 38, 0), (38, .iconst 0, 39, 0), (39, .istore_n 2, 40, 0), (40, .iconst 0, 41, 0), (41, .istore_n 3, 42, 0), (42, .iload_n 3, 43, 0), (43, .iconst 4, 44, 0), (44, .if_icmp .ge 27, 47, 71), (47, .iload_n 2, 48, 0), (48, .aload_n 0, 49, 0), (49, .getfield 94, 52, 0), (52, .iload_n 3, 53, 0), (53, .iaload, 54, 0), (54, .iconst (-1), 55, 0), (55, .if_icmp .ne 7, 58, 62), (58, .iconst 0, 59, 0), (59, .goto 4, 62, 63), (62, .iconst 1, 63, 0), (63, .iadd, 64, 0), (64, .istore_n 2, 65, 0), (65, .iinc 3 1, 68, 0), (68, .goto (-26), 71, 42), (71, .iload_n 2, 72, 0), (72, .ireturn, 73, 0)]
set_option maxRecDepth 100000 in
theorem L327_ok : L327.all (dck 327) = true := by decide +kernel
theorem d327 {j pc nx tg : Nat} {ins : Instr} (hj : L327[j]? = some (pc, ins, nx, tg)) : dcd 327 pc ins nx tg := dcl_ok L327_ok hj
set_option maxRecDepth 100000 in
set_option maxHeartbeats 4000000 in
theorem r327_0 {x1 : Int}  {M : dsMem} {Q : bQT} (s1 : (¬ (0 ≤ x1 ∧ x1 ≤ 8)) → (¬ x1 = 9) → (x1 = 10) → ∀ i327_1 : Int, ∀ a327_1 : Int, 0 ≤ i327_1 → i327_1 < 4 → 0 ≤ i327_1 ∧ i327_1 < 4 := by intros; omega) (s2 : (¬ (0 ≤ x1 ∧ x1 ≤ 8)) → (¬ x1 = 9) → (x1 = 10) → ∀ i327_1 : Int, ∀ a327_1 : Int, 0 ≤ i327_1 → i327_1 < 4 → -2147483648 ≤ i327_1 + 1 ∧ i327_1 + 1 < 2147483648 := by intros; omega) (k1 : (¬ (0 ≤ x1 ∧ x1 ≤ 8)) → (¬ x1 = 9) → (x1 = 10) → Q [uI (dsIter (fun (i327_1 : Int) (a327_1 : Int) => (if (M 111 i327_1) = -1 then (dsw ((a327_1 + 0))) else (dsw ((a327_1 + 1))))) 0 4 0)] M) (k2 : (¬ (0 ≤ x1 ∧ x1 ≤ 8)) → (¬ x1 = 9) → (¬ x1 = 10) → Q [uI (-1)] M) (k3 : (¬ (0 ≤ x1 ∧ x1 ≤ 8)) → (x1 = 9) → Q [uI (M 84 5)] M) (s3 : ((0 ≤ x1 ∧ x1 ≤ 8)) → 0 ≤ x1 ∧ x1 < 105 := by intros; omega) (k4 : ((0 ≤ x1 ∧ x1 ≤ 8)) → Q [uI (M 85 x1)] M) :
    bB 327 0 [uR 11 84, uI x1, uX 0, uX 0] [] M Q := by
  refine b_iload_n (d327 (j := 0) rfl) rfl ?_
  refine b_i2l (d327 (j := 1) rfl) ?_
  refine b_lconst (d327 (j := 2) rfl) ?_
  refine b_stk [uJ 0, uJ x1] rfl ?_
  refine b_ldc2 (d327 (j := 3) rfl) rfl ?_
  refine b_callS (d327 (j := 4) rfl) (Or.inl rfl) rfl (bCk_mk (n := 0) (k := 6) (by decide +kernel) rfl rfl) (pu177  ?_)
  refine b_stk [uI (if (0 ≤ x1 ∧ x1 ≤ 8) then 1 else 0)] rfl ?_
  refine b_ifeqP (d327 (j := 5) rfl) (fun c1 => ?_) (fun c1 => ?_)
  ·
    refine b_iload_n (d327 (j := 11) rfl) rfl ?_
    refine b_bipush (d327 (j := 12) rfl) (by decide) ?_
    refine b_icmp_ne (d327 (j := 13) rfl) (fun c2 => ?_) (fun c2 => ?_)
    ·
      refine b_iload_n (d327 (j := 17) rfl) rfl ?_
      refine b_bipush (d327 (j := 18) rfl) (by decide) ?_
      refine b_icmp_eq (d327 (j := 19) rfl) (fun c3 => ?_) (fun c3 => ?_)
      ·
        refine b_iconst (d327 (j := 22) rfl) (by decide) ?_
        refine b_istore_n [uR 11 84, uI x1, uI 0, uX 0] (d327 (j := 23) rfl) (by decide) rfl ?_
        refine b_iconst (d327 (j := 24) rfl) (by decide) ?_
        refine b_istore_n [uR 11 84, uI x1, uI 0, uI 0] (d327 (j := 25) rfl) (by decide) rfl ?_
        refine bB_le _ (bLe_s (bLe_x (bLe_s (bLe_s bLe_nil)))) ?_
        refine b_for (fun (i327_1 : Int) (a327_1 : Int) => [uR 11 84, uX 0, uI a327_1, uI i327_1]) (fun (i327_1 : Int) (a327_1 : Int) => (if (M 111 i327_1) = -1 then (dsw ((a327_1 + 0))) else (dsw ((a327_1 + 1))))) 0 4 0 (fun i327_1 a327_1 h327_1l h327_1r hk327_1 => ?_) (fun i327_1 h327_1l h327_1r => ?_)
        ·
          refine b_iload_n (d327 (j := 26) rfl) rfl ?_
          refine b_iconst (d327 (j := 27) rfl) (by decide) ?_
          refine b_icmp_ge (d327 (j := 28) rfl) (fun c4 => ?_) (fun c4 => ?_)
          · exfalso; omega
          ·
            refine b_iload_n (d327 (j := 29) rfl) rfl ?_
            refine b_aload_n (d327 (j := 30) rfl) rfl ?_
            refine b_getR (d327 (j := 31) rfl) rfl rfl rfl rfl ?_
            refine b_stk [uR 44 111, uI a327_1] rfl ?_
            refine b_iload_n (d327 (j := 32) rfl) rfl ?_
            refine b_iaload (d327 (j := 33) rfl) rfl (s1 c1 c2 c3 i327_1 a327_1 h327_1l h327_1r) ?_
            refine b_iconst (d327 (j := 34) rfl) (by decide) ?_
            refine b_icmp_ne (d327 (j := 35) rfl) (fun c5 => ?_) (fun c5 => ?_)
            ·
              rw [if_neg c5] at hk327_1
              refine b_iconst (d327 (j := 38) rfl) (by decide) ?_
              refine b_iadd (d327 (j := 39) rfl) rfl rfl ?_
              refine b_istore_n [uR 11 84, uX 0, uI (dsw ((a327_1 + 1))), uI i327_1] (d327 (j := 40) rfl) (by decide) rfl ?_
              refine b_iinc [uR 11 84, uX 0, uI (dsw ((a327_1 + 1))), uI (i327_1 + 1)] (d327 (j := 41) rfl) rfl (by decide) (s2 c1 c2 c3 i327_1 a327_1 h327_1l h327_1r) rfl ?_
              refine b_goto (d327 (j := 42) rfl) ?_
              exact hk327_1
            ·
              rw [if_pos c5] at hk327_1
              refine b_iconst (d327 (j := 36) rfl) (by decide) ?_
              refine b_goto (d327 (j := 37) rfl) ?_
              refine b_iadd (d327 (j := 39) rfl) rfl rfl ?_
              refine b_istore_n [uR 11 84, uX 0, uI (dsw ((a327_1 + 0))), uI i327_1] (d327 (j := 40) rfl) (by decide) rfl ?_
              refine b_iinc [uR 11 84, uX 0, uI (dsw ((a327_1 + 0))), uI (i327_1 + 1)] (d327 (j := 41) rfl) rfl (by decide) (s2 c1 c2 c3 i327_1 a327_1 h327_1l h327_1r) rfl ?_
              refine b_goto (d327 (j := 42) rfl) ?_
              exact hk327_1
        ·
          refine b_iload_n (d327 (j := 26) rfl) rfl ?_
          refine b_iconst (d327 (j := 27) rfl) (by decide) ?_
          refine b_icmp_ge (d327 (j := 28) rfl) (fun c6 => ?_) (fun c6 => ?_)
          rotate_left
          · exfalso; omega
          ·
            refine b_iload_n (d327 (j := 43) rfl) rfl ?_
            exact b_iret (d327 (j := 44) rfl) rfl (k1 c1 c2 c3)
      ·
        refine b_iconst (d327 (j := 20) rfl) (by decide) ?_
        exact b_iret (d327 (j := 21) rfl) rfl (k2 c1 c2 c3)
    ·
      refine b_aload_n (d327 (j := 14) rfl) rfl ?_
      refine b_getI (d327 (j := 15) rfl) rfl rfl rfl rfl (Or.inl rfl) ?_
      refine b_stk [uI (M 84 5)] rfl ?_
      exact b_iret (d327 (j := 16) rfl) rfl (k3 c1 c2)
  ·
    refine b_aload_n (d327 (j := 6) rfl) rfl ?_
    refine b_getR (d327 (j := 7) rfl) rfl rfl rfl rfl ?_
    refine b_stk [uR 38 85] rfl ?_
    refine b_iload_n (d327 (j := 8) rfl) rfl ?_
    refine b_iaload (d327 (j := 9) rfl) rfl (s3 c1) ?_
    exact b_iret (d327 (j := 10) rfl) rfl (k4 c1)
def L330 : List (Nat × Instr × Nat × Nat) := [(0, .iload_n 1, 1, 0), (1, .invokestatic 417, 4, 0), (4, .ifCond .eq 21, 7, 25), (7, .iload_n 2, 8, 0), (8, .i2l, 9, 0), (9, .lconst 0, 10, 0), (10, .ldc2_w 447, 13, 0), (13, .invokestatic 112, 16, 0), (16, .ifCond .eq 9, 19, 25), (19, .iload_n 3, 20, 0), (20, .bipush 60, 22, 0), (22, .if_icmp .le 6, 25, 28), (25, .bipush (-2), 27, 0), (27, .ireturn, 28, 0), (28, .iload_n 3, 29, 0), (29, .ifCond .ge 6, 32, 35), (32, .bipush (-3), 34, 0), (34, .ireturn, 35, 0), (35, .aload_n 0, 36, 0), (36, .getfield 94, 39, 0), (39, .iload_n 1, 40, 0), (40, .iload_n 3, 41, 0), (41, .iastore, 42, 0), (42, .aload_n 0, 43, 0), (43, .getfield 97, 46, 0), (46, .iload_n 1, 47, 0), (47, .iload_n 2, 48, 0), (48, .iastore, 49, 0), (49, .iconst 0, 50, 0), (50, .istore 4, 52, 0), (52, .iload 4, 54, 0), (54, .bipush 60, 56, 0), (56, .if_icmp .ge 22, 59, 78), (59, .aload_n 0, 60, 0), (60, .getfield 100, 63, 0), (63, .bipush 60, 65, 0), (65, .iload_n 1, 66, 0), (66, .imul, 67, 0), (67, .iload 4, 69, 0), (69, .iadd, 70, 0), (70, .lconst 0, 71, 0), (71, .lastore, 72, 0), (72, .iinc 4 1, 75, 0), (75, .goto (-23), 78, 52), (78, .iconst 0, 79, 0), (79, .ireturn, 80, 0)]
set_option maxRecDepth 100000 in
theorem L330_ok : L330.all (dck 330) = true := by decide +kernel
theorem d330 {j pc nx tg : Nat} {ins : Instr} (hj : L330[j]? = some (pc, ins, nx, tg)) : dcd 330 pc ins nx tg := dcl_ok L330_ok hj
set_option maxRecDepth 100000 in
set_option maxHeartbeats 4000000 in
theorem r330_0 {x1 x2 x3 : Int}  {M : dsMem} {Q : bQT} (k1 : (¬ (0 ≤ x1 ∧ x1 ≤ 3)) → Q [uI (-2)] M) (k2 : ((0 ≤ x1 ∧ x1 ≤ 3)) → (¬ (0 ≤ x2 ∧ x2 ≤ 3)) → Q [uI (-2)] M) (s1 : ((0 ≤ x1 ∧ x1 ≤ 3)) → ((0 ≤ x2 ∧ x2 ≤ 3)) → (x3 ≤ 60) → (0 ≤ x3) → 0 ≤ x1 ∧ x1 < 4 := by intros; omega) (k3 : ((0 ≤ x1 ∧ x1 ≤ 3)) → ((0 ≤ x2 ∧ x2 ≤ 3)) → (x3 ≤ 60) → (0 ≤ x3) → bB 330 52 [uR 11 84, uI x1, uX 0, uX 0, uI 0] [] (dsSet (dsSet M 111 x1 x3) 112 x1 x2) Q) (k4 : ((0 ≤ x1 ∧ x1 ≤ 3)) → ((0 ≤ x2 ∧ x2 ≤ 3)) → (x3 ≤ 60) → (¬ 0 ≤ x3) → Q [uI (-3)] M) (k5 : ((0 ≤ x1 ∧ x1 ≤ 3)) → ((0 ≤ x2 ∧ x2 ≤ 3)) → (¬ x3 ≤ 60) → Q [uI (-2)] M) :
    bB 330 0 [uR 11 84, uI x1, uI x2, uI x3, uX 0] [] M Q := by
  refine b_iload_n (d330 (j := 0) rfl) rfl ?_
  refine b_callS (d330 (j := 1) rfl) (Or.inl rfl) rfl (bCk_mk (n := 0) (k := 1) (by decide +kernel) rfl rfl) (pu328  ?_)
  refine b_stk [uI (if (0 ≤ x1 ∧ x1 ≤ 3) then 1 else 0)] rfl ?_
  refine b_ifeqP (d330 (j := 2) rfl) (fun c1 => ?_) (fun c1 => ?_)
  ·
    refine b_bipush (d330 (j := 12) rfl) (by decide) ?_
    exact b_iret (d330 (j := 13) rfl) rfl (k1 c1)
  ·
    refine b_iload_n (d330 (j := 3) rfl) rfl ?_
    refine b_i2l (d330 (j := 4) rfl) ?_
    refine b_lconst (d330 (j := 5) rfl) ?_
    refine b_stk [uJ 0, uJ x2] rfl ?_
    refine b_ldc2 (d330 (j := 6) rfl) rfl ?_
    refine b_callS (d330 (j := 7) rfl) (Or.inl rfl) rfl (bCk_mk (n := 0) (k := 6) (by decide +kernel) rfl rfl) (pu177  ?_)
    refine b_stk [uI (if (0 ≤ x2 ∧ x2 ≤ 3) then 1 else 0)] rfl ?_
    refine b_ifeqP (d330 (j := 8) rfl) (fun c2 => ?_) (fun c2 => ?_)
    ·
      refine b_bipush (d330 (j := 12) rfl) (by decide) ?_
      exact b_iret (d330 (j := 13) rfl) rfl (k2 c1 c2)
    ·
      refine b_iload_n (d330 (j := 9) rfl) rfl ?_
      refine b_bipush (d330 (j := 10) rfl) (by decide) ?_
      refine b_icmp_le (d330 (j := 11) rfl) (fun c3 => ?_) (fun c3 => ?_)
      ·
        refine b_iload_n (d330 (j := 14) rfl) rfl ?_
        refine b_if_ge (d330 (j := 15) rfl) (fun c4 => ?_) (fun c4 => ?_)
        ·
          refine b_aload_n (d330 (j := 18) rfl) rfl ?_
          refine b_getR (d330 (j := 19) rfl) rfl rfl rfl rfl ?_
          refine b_stk [uR 44 111] rfl ?_
          refine b_iload_n (d330 (j := 20) rfl) rfl ?_
          refine b_iload_n (d330 (j := 21) rfl) rfl ?_
          refine b_iastore (d330 (j := 22) rfl) rfl (s1 c1 c2 c3 c4) ?_
          refine b_aload_n (d330 (j := 23) rfl) rfl ?_
          refine b_getR (d330 (j := 24) rfl) rfl rfl rfl rfl ?_
          refine b_stk [uR 44 112] rfl ?_
          refine b_iload_n (d330 (j := 25) rfl) rfl ?_
          refine b_iload_n (d330 (j := 26) rfl) rfl ?_
          refine b_iastore (d330 (j := 27) rfl) rfl (s1 c1 c2 c3 c4) ?_
          refine b_iconst (d330 (j := 28) rfl) (by decide) ?_
          refine b_istore [uR 11 84, uI x1, uI x2, uI x3, uI 0] (d330 (j := 29) rfl) (by decide) rfl ?_
          exact bB_le _ (bLe_s (bLe_s (bLe_x (bLe_x (bLe_s bLe_nil))))) (k3 c1 c2 c3 c4)
        ·
          refine b_bipush (d330 (j := 16) rfl) (by decide) ?_
          exact b_iret (d330 (j := 17) rfl) rfl (k4 c1 c2 c3 c4)
      ·
        refine b_bipush (d330 (j := 12) rfl) (by decide) ?_
        exact b_iret (d330 (j := 13) rfl) rfl (k5 c1 c2 c3)
set_option maxRecDepth 100000 in
set_option maxHeartbeats 4000000 in
theorem r330_52 {x1 x4 : Int}  {M : dsMem} {Q : bQT} (k1 : (60 ≤ x4) → Q [uI 0] M) (s1 : (¬ 60 ≤ x4) → 0 ≤ ((60 * x1) + x4) ∧ ((60 * x1) + x4) < 240 := by intros; omega) (s2 : (¬ 60 ≤ x4) → -2147483648 ≤ x4 + 1 ∧ x4 + 1 < 2147483648 := by intros; omega) (k2 : (¬ 60 ≤ x4) → bB 330 52 [uR 11 84, uI x1, uX 0, uX 0, uI (x4 + 1)] [] (dsSet M 113 ((60 * x1) + x4) 0) Q) :
    bB 330 52 [uR 11 84, uI x1, uX 0, uX 0, uI x4] [] M Q := by
  refine b_iload (d330 (j := 30) rfl) rfl ?_
  refine b_bipush (d330 (j := 31) rfl) (by decide) ?_
  refine b_icmp_ge (d330 (j := 32) rfl) (fun c1 => ?_) (fun c1 => ?_)
  ·
    refine b_iconst (d330 (j := 44) rfl) (by decide) ?_
    exact b_iret (d330 (j := 45) rfl) rfl (k1 c1)
  ·
    refine b_aload_n (d330 (j := 33) rfl) rfl ?_
    refine b_getR (d330 (j := 34) rfl) rfl rfl rfl rfl ?_
    refine b_stk [uR 45 113] rfl ?_
    refine b_bipush (d330 (j := 35) rfl) (by decide) ?_
    refine b_iload_n (d330 (j := 36) rfl) rfl ?_
    refine b_imul (d330 (j := 37) rfl) rfl rfl ?_
    refine b_iload (d330 (j := 38) rfl) rfl ?_
    refine b_iadd (d330 (j := 39) rfl) (dsw_dsw _) rfl ?_
    refine b_lconst (d330 (j := 40) rfl) ?_
    refine b_stk [uJ 0, uI (dsw (((60 * x1) + x4))), uR 45 113] rfl ?_
    refine b_stk [uJ 0, uI ((60 * x1) + x4), uR 45 113] (by rw [dsw_b (s1 c1) (by decide)]) ?_
    refine b_lastore (d330 (j := 41) rfl) rfl (s1 c1) ?_
    refine b_iinc [uR 11 84, uI x1, uX 0, uX 0, uI (x4 + 1)] (d330 (j := 42) rfl) rfl (by decide) (s2 c1) rfl ?_
    refine b_goto (d330 (j := 43) rfl) ?_
    exact (k2 c1)
def L331 : List (Nat × Instr × Nat × Nat) := [(0, .iload_n 1, 1, 0), (1, .invokestatic 417, 4, 0), (4, .ifCond .ne 6, 7, 10), (7, .bipush (-2), 9, 0), (9, .ireturn, 10, 0), (10, .aload_n 0, 11, 0), (11, .getfield 94, 14, 0), (14, .iload_n 1, 15, 0), (15, .iaload, 16, 0), (16, .iconst (-1), 17, 0), (17, .if_icmp .ne 6, 20, 23), (20, .bipush (-6), 22, 0), (22, .ireturn, 23, 0), (23, .iload_n 2, 24, 0), (24, .i2l, 25, 0), (25, .lconst 0, 26, 0), (26, .aload_n 0, 27, 0), (27, .getfield 94, 30, 0), (30, .iload_n 1, 31, 0), (31, .iaload, 32, 0), (32, .iconst 1, 33, 0), (33, .isub, 34, 0), (34, .i2l, 35, 0), (35, .invokestatic 112, 38, 0), (38, .ifCond .ne 6, 41, 44), (41, .bipush (-7), 43, 0), (43, .ireturn, 44, 0), (44, .aload_n 0, 45, 0), (45, .getfield 100, 48, 0), (48, .bipush 60, 50, 0), (50, .iload_n 1, 51, 0), (51, .imul, 52, 0), (52, .iload_n 2, 53, 0), (53, .iadd, 54, 0), (54, .lload_n 3, 55, 0), (55, .aload_n 0, 56, 0), (56, .getfield 97, 59, 0), (59, .iload_n 1, 60, 0), (60, .iaload, 61, 0), (61, .invokestatic 524, 64, 0), (64, .lastore, 65, 0), (65, .iconst 0, 66, 0), (66, .ireturn, 67, 0)]
set_option maxRecDepth 100000 in
theorem L331_ok : L331.all (dck 331) = true := by decide +kernel
theorem d331 {j pc nx tg : Nat} {ins : Instr} (hj : L331[j]? = some (pc, ins, nx, tg)) : dcd 331 pc ins nx tg := dcl_ok L331_ok hj
set_option maxRecDepth 100000 in
set_option maxHeartbeats 4000000 in
theorem r331_0 {x1 x2 x3 : Int}  {M : dsMem} {Q : bQT} (s1 : ((0 ≤ x1 ∧ x1 ≤ 3)) → 0 ≤ x1 ∧ x1 < 4 := by intros; omega) (s2 : ((0 ≤ x1 ∧ x1 ≤ 3)) → (¬ (M 111 x1) = -1) → -2147483648 ≤ ((M 111 x1) - 1) ∧ ((M 111 x1) - 1) < 2147483648 := by intros; omega) (s3 : ((0 ≤ x1 ∧ x1 ≤ 3)) → (¬ (M 111 x1) = -1) → ((0 ≤ x2 ∧ x2 ≤ ((M 111 x1) - 1))) → -2147483648 ≤ (64 - (dsShl 8 (M 112 x1))) ∧ (64 - (dsShl 8 (M 112 x1))) < 2147483648 := by intros; omega) (s4 : ((0 ≤ x1 ∧ x1 ≤ 3)) → (¬ (M 111 x1) = -1) → ((0 ≤ x2 ∧ x2 ≤ ((M 111 x1) - 1))) → 0 ≤ ((60 * x1) + x2) ∧ ((60 * x1) + x2) < 240 := by intros; omega) (k1 : ((0 ≤ x1 ∧ x1 ≤ 3)) → (¬ (M 111 x1) = -1) → ((0 ≤ x2 ∧ x2 ≤ ((M 111 x1) - 1))) → Q [uI 0] (dsSet M 113 ((60 * x1) + x2) (v329 M x3 (M 112 x1)))) (k2 : ((0 ≤ x1 ∧ x1 ≤ 3)) → (¬ (M 111 x1) = -1) → (¬ (0 ≤ x2 ∧ x2 ≤ ((M 111 x1) - 1))) → Q [uI (-7)] M) (k3 : ((0 ≤ x1 ∧ x1 ≤ 3)) → ((M 111 x1) = -1) → Q [uI (-6)] M) (k4 : (¬ (0 ≤ x1 ∧ x1 ≤ 3)) → Q [uI (-2)] M) :
    bB 331 0 [uR 11 84, uI x1, uI x2, uJ x3, uX 0] [] M Q := by
  refine b_iload_n (d331 (j := 0) rfl) rfl ?_
  refine b_callS (d331 (j := 1) rfl) (Or.inl rfl) rfl (bCk_mk (n := 0) (k := 1) (by decide +kernel) rfl rfl) (pu328  ?_)
  refine b_stk [uI (if (0 ≤ x1 ∧ x1 ≤ 3) then 1 else 0)] rfl ?_
  refine b_ifneP (d331 (j := 2) rfl) (fun c1 => ?_) (fun c1 => ?_)
  ·
    refine b_aload_n (d331 (j := 5) rfl) rfl ?_
    refine b_getR (d331 (j := 6) rfl) rfl rfl rfl rfl ?_
    refine b_stk [uR 44 111] rfl ?_
    refine b_iload_n (d331 (j := 7) rfl) rfl ?_
    refine b_iaload (d331 (j := 8) rfl) rfl (s1 c1) ?_
    refine b_iconst (d331 (j := 9) rfl) (by decide) ?_
    refine b_icmp_ne (d331 (j := 10) rfl) (fun c2 => ?_) (fun c2 => ?_)
    ·
      refine b_iload_n (d331 (j := 13) rfl) rfl ?_
      refine b_i2l (d331 (j := 14) rfl) ?_
      refine b_lconst (d331 (j := 15) rfl) ?_
      refine b_stk [uJ 0, uJ x2] rfl ?_
      refine b_aload_n (d331 (j := 16) rfl) rfl ?_
      refine b_getR (d331 (j := 17) rfl) rfl rfl rfl rfl ?_
      refine b_stk [uR 44 111, uJ 0, uJ x2] rfl ?_
      refine b_iload_n (d331 (j := 18) rfl) rfl ?_
      refine b_iaload (d331 (j := 19) rfl) rfl (s1 c1) ?_
      refine b_iconst (d331 (j := 20) rfl) (by decide) ?_
      refine b_isub (d331 (j := 21) rfl) rfl rfl ?_
      refine b_stk [uI ((M 111 x1) - 1), uJ 0, uJ x2] (by rw [dsw_r (s2 c1 c2)]) ?_
      refine b_i2l (d331 (j := 22) rfl) ?_
      refine b_callS (d331 (j := 23) rfl) (Or.inl rfl) rfl (bCk_mk (n := 0) (k := 6) (by decide +kernel) rfl rfl) (pu177  ?_)
      refine b_stk [uI (if (0 ≤ x2 ∧ x2 ≤ ((M 111 x1) - 1)) then 1 else 0)] rfl ?_
      refine b_ifneP (d331 (j := 24) rfl) (fun c3 => ?_) (fun c3 => ?_)
      ·
        refine b_aload_n (d331 (j := 27) rfl) rfl ?_
        refine b_getR (d331 (j := 28) rfl) rfl rfl rfl rfl ?_
        refine b_stk [uR 45 113] rfl ?_
        refine b_bipush (d331 (j := 29) rfl) (by decide) ?_
        refine b_iload_n (d331 (j := 30) rfl) rfl ?_
        refine b_imul (d331 (j := 31) rfl) rfl rfl ?_
        refine b_iload_n (d331 (j := 32) rfl) rfl ?_
        refine b_iadd (d331 (j := 33) rfl) (dsw_dsw _) rfl ?_
        refine b_lload_n (d331 (j := 34) rfl) rfl ?_
        refine b_aload_n (d331 (j := 35) rfl) rfl ?_
        refine b_getR (d331 (j := 36) rfl) rfl rfl rfl rfl ?_
        refine b_stk [uR 44 112, uJ x3, uI (dsw (((60 * x1) + x2))), uR 45 113] rfl ?_
        refine b_iload_n (d331 (j := 37) rfl) rfl ?_
        refine b_iaload (d331 (j := 38) rfl) rfl (s1 c1) ?_
        refine b_callS (d331 (j := 39) rfl) (Or.inl rfl) rfl (bCk_mk (n := 2) (k := 3) (by decide +kernel) rfl rfl) (fx329 (s3 c1 c2 c3) ?_)
        refine b_stk [uJ (v329 M x3 (M 112 x1)), uI (dsw (((60 * x1) + x2))), uR 45 113] rfl ?_
        refine b_stk [uJ (v329 M x3 (M 112 x1)), uI ((60 * x1) + x2), uR 45 113] (by rw [dsw_b (s4 c1 c2 c3) (by decide)]) ?_
        refine b_lastore (d331 (j := 40) rfl) rfl (s4 c1 c2 c3) ?_
        refine b_iconst (d331 (j := 41) rfl) (by decide) ?_
        exact b_iret (d331 (j := 42) rfl) rfl (k1 c1 c2 c3)
      ·
        refine b_bipush (d331 (j := 25) rfl) (by decide) ?_
        exact b_iret (d331 (j := 26) rfl) rfl (k2 c1 c2 c3)
    ·
      refine b_bipush (d331 (j := 11) rfl) (by decide) ?_
      exact b_iret (d331 (j := 12) rfl) rfl (k3 c1 c2)
  ·
    refine b_bipush (d331 (j := 3) rfl) (by decide) ?_
    exact b_iret (d331 (j := 4) rfl) rfl (k4 c1)
def L332 : List (Nat × Instr × Nat × Nat) := [(0, .iload_n 1, 1, 0), (1, .invokestatic 417, 4, 0), (4, .ifCond .eq 10, 7, 14), (7, .iload_n 3, 8, 0), (8, .invokestatic 417, 11, 0), (11, .ifCond .ne 6, 14, 17), (14, .bipush (-2), 16, 0), (16, .ireturn, 17, 0), (17, .aload_n 0, 18, 0), (18, .getfield 94, 21, 0), (21, .iload_n 1, 22, 0), (22, .iaload, 23, 0), (23, .iconst (-1), 24, 0), (24, .if_icmp .eq 13, 27, 37), (27, .aload_n 0, 28, 0), (28, .getfield 94, 31, 0), (31, .iload_n 3, 32, 0), (32, .iaload, 33, 0), (33, .iconst (-1), 34, 0), (34, .if_icmp .ne 6, 37, 40), (37, .bipush (-6), 39, 0), (39, .ireturn, 40, 0), (40, .aload_n 0, 41, 0), (41, .getfield 97, 44, 0), (44, .iload_n 1, 45, 0), (45, .iaload, 46, 0), (46, .aload_n 0, 47, 0), (47, .getfield 97, 50, 0), (50, .iload_n 3, 51, 0), (51, .iaload, 52, 0), (52, .if_icmp .eq 6, 55, 58), (55, .bipush (-8), 57, 0), (57, .ireturn, 58, 0), (58, .iload_n 2, 59, 0), (59, .ifCond .lt 48, 62, 107), (62, .iload 4, 64, 0), (64, .ifCond .lt 43, 67, 107), (67, .iload 5, 69, 0), (69, .ifCond .lt 38, 72, 107), (72, .iload_n 2, 73, 0), (73, .i2l, 74, 0), (74, .iload 5, 76, 0), (76, .i2l, 77, 0), (77, .ladd, 78, 0), (78, .aload_n 0, 79, 0), (79, .getfield 94, 82, 0), (82, .iload_n 1, 83, 0), (83, .iaload, 84, 0), (84, .i2l, 85, 0), (85, .lcmp, 86, 0), (86, .ifCond .gt 21, 89, 107), (89, .iload 4, 91, 0), (91, .i2l, 92, 0), (92, .iload 5, 94, 0), (94, .i2l, 95, 0), (95, .ladd, 96, 0), (96, .aload_n 0, 97, 0), (97, .getfield 94, 100, 0), (100, .iload_n 3, 101, 0), (101, .iaload, 102, 0), (102, .i2l, 103, 0), (103, .lcmp, 104, 0), (104, .ifCond .le 6, 107, 110), (107, .bipush (-7), 109, 0), (109, .ireturn, 110, 0), (110, .iconst 0, 111, 0), (111, .istore 6, 113, 0), (113, .iload 6, 115, 0), (115, .iload 5, 117, 0), (117, .if_icmp .ge 30, 120, 147), (120, .aload_n 0, 121, 0), (121, .getfield 104, 124, 0), (124, .iload 6, 126, 0), (126, .aload_n 0, 127, 0), (127, .getfield 100, 130, 0), (130, .bipush 60, 132, 0), (132, .iload_n 1, 133, 0), (133, .imul, 134, 0), (134, .iload_n 2, 135, 0), (135, .iadd, 136, 0), (136, .iload 6, 138, 0), (138, .iadd, 139, 0), (139, .laload, 140, 0), (140, .lastore, 141, 0), (141, .iinc 6 1, 144, 0), (144, .goto (-31), 147, 113), (147, .iconst 0, 148, 0), (148, .istore 6, 150, 0), (150, .iload 6, 152, 0), (152, .iload 5, 154, 0), (154, .if_icmp .ge 31, 157, 185), (157, .aload_n 0, 158, 0), (158, .getfield 100, 161, 0), (161, .bipush 60, 163, 0), (163, .iload_n 3, 164, 0), (164, .imul, 165, 0), (165, .iload 4, 167, 0), (167, .iadd, 168, 0), (168, .iload 6, 170, 0), (170, .iadd, 171, 0), (171, .aload_n 0, 172, 0), (172, .getfield 104, 175, 0), (175, .iload 6, 177, 0), (177, .laload, 178, 0), (178, .lastore, 179, 0), (179, .iinc 6 1, 182, 0), (182, .goto (-32), 185, 150), (185, .iconst 0, 186, 0), (186, .ireturn, 187, 0)]
set_option maxRecDepth 100000 in
theorem L332_ok : L332.all (dck 332) = true := by decide +kernel
theorem d332 {j pc nx tg : Nat} {ins : Instr} (hj : L332[j]? = some (pc, ins, nx, tg)) : dcd 332 pc ins nx tg := dcl_ok L332_ok hj
set_option maxRecDepth 100000 in
set_option maxHeartbeats 4000000 in
theorem r332_0 {x1 x2 x3 x4 x5 : Int}  {M : dsMem} {Q : bQT} (k1 : (¬ (0 ≤ x1 ∧ x1 ≤ 3)) → Q [uI (-2)] M) (s1 : ((0 ≤ x1 ∧ x1 ≤ 3)) → ((0 ≤ x3 ∧ x3 ≤ 3)) → 0 ≤ x1 ∧ x1 < 4 := by intros; omega) (k2 : ((0 ≤ x1 ∧ x1 ≤ 3)) → ((0 ≤ x3 ∧ x3 ≤ 3)) → ((M 111 x1) = -1) → Q [uI (-6)] M) (s2 : ((0 ≤ x1 ∧ x1 ≤ 3)) → ((0 ≤ x3 ∧ x3 ≤ 3)) → (¬ (M 111 x1) = -1) → 0 ≤ x3 ∧ x3 < 4 := by intros; omega) (k3 : ((0 ≤ x1 ∧ x1 ≤ 3)) → ((0 ≤ x3 ∧ x3 ≤ 3)) → (¬ (M 111 x1) = -1) → (¬ (M 111 x3) = -1) → ((M 112 x1) = (M 112 x3)) → (x2 < 0) → Q [uI (-7)] M) (k4 : ((0 ≤ x1 ∧ x1 ≤ 3)) → ((0 ≤ x3 ∧ x3 ≤ 3)) → (¬ (M 111 x1) = -1) → (¬ (M 111 x3) = -1) → ((M 112 x1) = (M 112 x3)) → (¬ x2 < 0) → (x4 < 0) → Q [uI (-7)] M) (k5 : ((0 ≤ x1 ∧ x1 ≤ 3)) → ((0 ≤ x3 ∧ x3 ≤ 3)) → (¬ (M 111 x1) = -1) → (¬ (M 111 x3) = -1) → ((M 112 x1) = (M 112 x3)) → (¬ x2 < 0) → (¬ x4 < 0) → (x5 < 0) → Q [uI (-7)] M) (s3 : ((0 ≤ x1 ∧ x1 ≤ 3)) → ((0 ≤ x3 ∧ x3 ≤ 3)) → (¬ (M 111 x1) = -1) → (¬ (M 111 x3) = -1) → ((M 112 x1) = (M 112 x3)) → (¬ x2 < 0) → (¬ x4 < 0) → (¬ x5 < 0) → -9223372036854775808 ≤ (x2 + x5) ∧ (x2 + x5) < 9223372036854775808 := by intros; omega) (k6 : ((0 ≤ x1 ∧ x1 ≤ 3)) → ((0 ≤ x3 ∧ x3 ≤ 3)) → (¬ (M 111 x1) = -1) → (¬ (M 111 x3) = -1) → ((M 112 x1) = (M 112 x3)) → (¬ x2 < 0) → (¬ x4 < 0) → (¬ x5 < 0) → ((M 111 x1) < (x2 + x5)) → Q [uI (-7)] M) (s4 : ((0 ≤ x1 ∧ x1 ≤ 3)) → ((0 ≤ x3 ∧ x3 ≤ 3)) → (¬ (M 111 x1) = -1) → (¬ (M 111 x3) = -1) → ((M 112 x1) = (M 112 x3)) → (¬ x2 < 0) → (¬ x4 < 0) → (¬ x5 < 0) → (¬ (M 111 x1) < (x2 + x5)) → -9223372036854775808 ≤ (x4 + x5) ∧ (x4 + x5) < 9223372036854775808 := by intros; omega) (k7 : ((0 ≤ x1 ∧ x1 ≤ 3)) → ((0 ≤ x3 ∧ x3 ≤ 3)) → (¬ (M 111 x1) = -1) → (¬ (M 111 x3) = -1) → ((M 112 x1) = (M 112 x3)) → (¬ x2 < 0) → (¬ x4 < 0) → (¬ x5 < 0) → (¬ (M 111 x1) < (x2 + x5)) → ((x4 + x5) ≤ (M 111 x3)) → bB 332 113 [uR 11 84, uI x1, uI x2, uI x3, uI x4, uI x5, uI 0] [] M Q) (k8 : ((0 ≤ x1 ∧ x1 ≤ 3)) → ((0 ≤ x3 ∧ x3 ≤ 3)) → (¬ (M 111 x1) = -1) → (¬ (M 111 x3) = -1) → ((M 112 x1) = (M 112 x3)) → (¬ x2 < 0) → (¬ x4 < 0) → (¬ x5 < 0) → (¬ (M 111 x1) < (x2 + x5)) → (¬ (x4 + x5) ≤ (M 111 x3)) → Q [uI (-7)] M) (k9 : ((0 ≤ x1 ∧ x1 ≤ 3)) → ((0 ≤ x3 ∧ x3 ≤ 3)) → (¬ (M 111 x1) = -1) → (¬ (M 111 x3) = -1) → (¬ (M 112 x1) = (M 112 x3)) → Q [uI (-8)] M) (k10 : ((0 ≤ x1 ∧ x1 ≤ 3)) → ((0 ≤ x3 ∧ x3 ≤ 3)) → (¬ (M 111 x1) = -1) → ((M 111 x3) = -1) → Q [uI (-6)] M) (k11 : ((0 ≤ x1 ∧ x1 ≤ 3)) → (¬ (0 ≤ x3 ∧ x3 ≤ 3)) → Q [uI (-2)] M) :
    bB 332 0 [uR 11 84, uI x1, uI x2, uI x3, uI x4, uI x5, uX 0] [] M Q := by
  refine b_iload_n (d332 (j := 0) rfl) rfl ?_
  refine b_callS (d332 (j := 1) rfl) (Or.inl rfl) rfl (bCk_mk (n := 0) (k := 1) (by decide +kernel) rfl rfl) (pu328  ?_)
  refine b_stk [uI (if (0 ≤ x1 ∧ x1 ≤ 3) then 1 else 0)] rfl ?_
  refine b_ifeqP (d332 (j := 2) rfl) (fun c1 => ?_) (fun c1 => ?_)
  ·
    refine b_bipush (d332 (j := 6) rfl) (by decide) ?_
    exact b_iret (d332 (j := 7) rfl) rfl (k1 c1)
  ·
    refine b_iload_n (d332 (j := 3) rfl) rfl ?_
    refine b_callS (d332 (j := 4) rfl) (Or.inl rfl) rfl (bCk_mk (n := 0) (k := 1) (by decide +kernel) rfl rfl) (pu328  ?_)
    refine b_stk [uI (if (0 ≤ x3 ∧ x3 ≤ 3) then 1 else 0)] rfl ?_
    refine b_ifneP (d332 (j := 5) rfl) (fun c2 => ?_) (fun c2 => ?_)
    ·
      refine b_aload_n (d332 (j := 8) rfl) rfl ?_
      refine b_getR (d332 (j := 9) rfl) rfl rfl rfl rfl ?_
      refine b_stk [uR 44 111] rfl ?_
      refine b_iload_n (d332 (j := 10) rfl) rfl ?_
      refine b_iaload (d332 (j := 11) rfl) rfl (s1 c1 c2) ?_
      refine b_iconst (d332 (j := 12) rfl) (by decide) ?_
      refine b_icmp_eq (d332 (j := 13) rfl) (fun c3 => ?_) (fun c3 => ?_)
      ·
        refine b_bipush (d332 (j := 20) rfl) (by decide) ?_
        exact b_iret (d332 (j := 21) rfl) rfl (k2 c1 c2 c3)
      ·
        refine b_aload_n (d332 (j := 14) rfl) rfl ?_
        refine b_getR (d332 (j := 15) rfl) rfl rfl rfl rfl ?_
        refine b_stk [uR 44 111] rfl ?_
        refine b_iload_n (d332 (j := 16) rfl) rfl ?_
        refine b_iaload (d332 (j := 17) rfl) rfl (s2 c1 c2 c3) ?_
        refine b_iconst (d332 (j := 18) rfl) (by decide) ?_
        refine b_icmp_ne (d332 (j := 19) rfl) (fun c4 => ?_) (fun c4 => ?_)
        ·
          refine b_aload_n (d332 (j := 22) rfl) rfl ?_
          refine b_getR (d332 (j := 23) rfl) rfl rfl rfl rfl ?_
          refine b_stk [uR 44 112] rfl ?_
          refine b_iload_n (d332 (j := 24) rfl) rfl ?_
          refine b_iaload (d332 (j := 25) rfl) rfl (s1 c1 c2) ?_
          refine b_aload_n (d332 (j := 26) rfl) rfl ?_
          refine b_getR (d332 (j := 27) rfl) rfl rfl rfl rfl ?_
          refine b_stk [uR 44 112, uI (M 112 x1)] rfl ?_
          refine b_iload_n (d332 (j := 28) rfl) rfl ?_
          refine b_iaload (d332 (j := 29) rfl) rfl (s2 c1 c2 c3) ?_
          refine b_icmp_eq (d332 (j := 30) rfl) (fun c5 => ?_) (fun c5 => ?_)
          ·
            refine b_iload_n (d332 (j := 33) rfl) rfl ?_
            refine b_if_lt (d332 (j := 34) rfl) (fun c6 => ?_) (fun c6 => ?_)
            ·
              refine b_bipush (d332 (j := 63) rfl) (by decide) ?_
              exact b_iret (d332 (j := 64) rfl) rfl (k3 c1 c2 c3 c4 c5 c6)
            ·
              refine b_iload (d332 (j := 35) rfl) rfl ?_
              refine b_if_lt (d332 (j := 36) rfl) (fun c7 => ?_) (fun c7 => ?_)
              ·
                refine b_bipush (d332 (j := 63) rfl) (by decide) ?_
                exact b_iret (d332 (j := 64) rfl) rfl (k4 c1 c2 c3 c4 c5 c6 c7)
              ·
                refine b_iload (d332 (j := 37) rfl) rfl ?_
                refine b_if_lt (d332 (j := 38) rfl) (fun c8 => ?_) (fun c8 => ?_)
                ·
                  refine b_bipush (d332 (j := 63) rfl) (by decide) ?_
                  exact b_iret (d332 (j := 64) rfl) rfl (k5 c1 c2 c3 c4 c5 c6 c7 c8)
                ·
                  refine b_iload_n (d332 (j := 39) rfl) rfl ?_
                  refine b_i2l (d332 (j := 40) rfl) ?_
                  refine b_iload (d332 (j := 41) rfl) rfl ?_
                  refine b_i2l (d332 (j := 42) rfl) ?_
                  refine b_ladd (d332 (j := 43) rfl) rfl rfl ?_
                  refine b_aload_n (d332 (j := 44) rfl) rfl ?_
                  refine b_getR (d332 (j := 45) rfl) rfl rfl rfl rfl ?_
                  refine b_stk [uR 44 111, uJ (dsw64 ((x2 + x5)))] rfl ?_
                  refine b_iload_n (d332 (j := 46) rfl) rfl ?_
                  refine b_iaload (d332 (j := 47) rfl) rfl (s1 c1 c2) ?_
                  refine b_i2l (d332 (j := 48) rfl) ?_
                  refine b_stk [uJ (M 111 x1), uJ (x2 + x5)] (by rw [dsw64_r (s3 c1 c2 c3 c4 c5 c6 c7 c8)]) ?_
                  refine b_lcmp (d332 (j := 49) rfl) ?_
                  refine b_lif_gt (d332 (j := 50) rfl) (fun c9 => ?_) (fun c9 => ?_)
                  ·
                    refine b_bipush (d332 (j := 63) rfl) (by decide) ?_
                    exact b_iret (d332 (j := 64) rfl) rfl (k6 c1 c2 c3 c4 c5 c6 c7 c8 c9)
                  ·
                    refine b_iload (d332 (j := 51) rfl) rfl ?_
                    refine b_i2l (d332 (j := 52) rfl) ?_
                    refine b_iload (d332 (j := 53) rfl) rfl ?_
                    refine b_i2l (d332 (j := 54) rfl) ?_
                    refine b_ladd (d332 (j := 55) rfl) rfl rfl ?_
                    refine b_aload_n (d332 (j := 56) rfl) rfl ?_
                    refine b_getR (d332 (j := 57) rfl) rfl rfl rfl rfl ?_
                    refine b_stk [uR 44 111, uJ (dsw64 ((x4 + x5)))] rfl ?_
                    refine b_iload_n (d332 (j := 58) rfl) rfl ?_
                    refine b_iaload (d332 (j := 59) rfl) rfl (s2 c1 c2 c3) ?_
                    refine b_i2l (d332 (j := 60) rfl) ?_
                    refine b_stk [uJ (M 111 x3), uJ (x4 + x5)] (by rw [dsw64_r (s4 c1 c2 c3 c4 c5 c6 c7 c8 c9)]) ?_
                    refine b_lcmp (d332 (j := 61) rfl) ?_
                    refine b_lif_le (d332 (j := 62) rfl) (fun c10 => ?_) (fun c10 => ?_)
                    ·
                      refine b_iconst (d332 (j := 65) rfl) (by decide) ?_
                      refine b_istore [uR 11 84, uI x1, uI x2, uI x3, uI x4, uI x5, uI 0] (d332 (j := 66) rfl) (by decide) rfl ?_
                      exact (k7 c1 c2 c3 c4 c5 c6 c7 c8 c9 c10)
                    ·
                      refine b_bipush (d332 (j := 63) rfl) (by decide) ?_
                      exact b_iret (d332 (j := 64) rfl) rfl (k8 c1 c2 c3 c4 c5 c6 c7 c8 c9 c10)
          ·
            refine b_bipush (d332 (j := 31) rfl) (by decide) ?_
            exact b_iret (d332 (j := 32) rfl) rfl (k9 c1 c2 c3 c4 c5)
        ·
          refine b_bipush (d332 (j := 20) rfl) (by decide) ?_
          exact b_iret (d332 (j := 21) rfl) rfl (k10 c1 c2 c3 c4)
    ·
      refine b_bipush (d332 (j := 6) rfl) (by decide) ?_
      exact b_iret (d332 (j := 7) rfl) rfl (k11 c1 c2)
set_option maxRecDepth 100000 in
set_option maxHeartbeats 4000000 in
theorem r332_113 {x1 x2 x3 x4 x5 x6 : Int}  {M : dsMem} {Q : bQT} (k1 : (x5 ≤ x6) → bB 332 150 [uR 11 84, uX 0, uX 0, uI x3, uI x4, uI x5, uI 0] [] M Q) (s1 : (¬ x5 ≤ x6) → 0 ≤ (((60 * x1) + x2) + x6) ∧ (((60 * x1) + x2) + x6) < 240 := by intros; omega) (s2 : (¬ x5 ≤ x6) → 0 ≤ x6 ∧ x6 < 60 := by intros; omega) (s3 : (¬ x5 ≤ x6) → -2147483648 ≤ x6 + 1 ∧ x6 + 1 < 2147483648 := by intros; omega) (k2 : (¬ x5 ≤ x6) → bB 332 113 [uR 11 84, uI x1, uI x2, uI x3, uI x4, uI x5, uI (x6 + 1)] [] (dsSet M 114 x6 (M 113 (((60 * x1) + x2) + x6))) Q) :
    bB 332 113 [uR 11 84, uI x1, uI x2, uI x3, uI x4, uI x5, uI x6] [] M Q := by
  refine b_iload (d332 (j := 67) rfl) rfl ?_
  refine b_iload (d332 (j := 68) rfl) rfl ?_
  refine b_icmp_ge (d332 (j := 69) rfl) (fun c1 => ?_) (fun c1 => ?_)
  ·
    refine b_iconst (d332 (j := 86) rfl) (by decide) ?_
    refine b_istore [uR 11 84, uI x1, uI x2, uI x3, uI x4, uI x5, uI 0] (d332 (j := 87) rfl) (by decide) rfl ?_
    exact bB_le _ (bLe_s (bLe_x (bLe_x (bLe_s (bLe_s (bLe_s (bLe_s bLe_nil))))))) (k1 c1)
  ·
    refine b_aload_n (d332 (j := 70) rfl) rfl ?_
    refine b_getR (d332 (j := 71) rfl) rfl rfl rfl rfl ?_
    refine b_stk [uR 34 114] rfl ?_
    refine b_iload (d332 (j := 72) rfl) rfl ?_
    refine b_aload_n (d332 (j := 73) rfl) rfl ?_
    refine b_getR (d332 (j := 74) rfl) rfl rfl rfl rfl ?_
    refine b_stk [uR 45 113, uI x6, uR 34 114] rfl ?_
    refine b_bipush (d332 (j := 75) rfl) (by decide) ?_
    refine b_iload_n (d332 (j := 76) rfl) rfl ?_
    refine b_imul (d332 (j := 77) rfl) rfl rfl ?_
    refine b_iload_n (d332 (j := 78) rfl) rfl ?_
    refine b_iadd (d332 (j := 79) rfl) (dsw_dsw _) rfl ?_
    refine b_iload (d332 (j := 80) rfl) rfl ?_
    refine b_iadd (d332 (j := 81) rfl) (dsw_dsw _) rfl ?_
    refine b_stk [uI (((60 * x1) + x2) + x6), uR 45 113, uI x6, uR 34 114] (by rw [dsw_b (s1 c1) (by decide)]) ?_
    refine b_laload (d332 (j := 82) rfl) rfl (s1 c1) ?_
    refine b_lastore (d332 (j := 83) rfl) rfl (s2 c1) ?_
    refine b_iinc [uR 11 84, uI x1, uI x2, uI x3, uI x4, uI x5, uI (x6 + 1)] (d332 (j := 84) rfl) rfl (by decide) (s3 c1) rfl ?_
    refine b_goto (d332 (j := 85) rfl) ?_
    exact (k2 c1)
set_option maxRecDepth 100000 in
set_option maxHeartbeats 4000000 in
theorem r332_150 {x3 x4 x5 x6 : Int}  {M : dsMem} {Q : bQT} (k1 : (x5 ≤ x6) → Q [uI 0] M) (s1 : (¬ x5 ≤ x6) → 0 ≤ x6 ∧ x6 < 60 := by intros; omega) (s2 : (¬ x5 ≤ x6) → 0 ≤ (((60 * x3) + x4) + x6) ∧ (((60 * x3) + x4) + x6) < 240 := by intros; omega) (s3 : (¬ x5 ≤ x6) → -2147483648 ≤ x6 + 1 ∧ x6 + 1 < 2147483648 := by intros; omega) (k2 : (¬ x5 ≤ x6) → bB 332 150 [uR 11 84, uX 0, uX 0, uI x3, uI x4, uI x5, uI (x6 + 1)] [] (dsSet M 113 (((60 * x3) + x4) + x6) (M 114 x6)) Q) :
    bB 332 150 [uR 11 84, uX 0, uX 0, uI x3, uI x4, uI x5, uI x6] [] M Q := by
  refine b_iload (d332 (j := 88) rfl) rfl ?_
  refine b_iload (d332 (j := 89) rfl) rfl ?_
  refine b_icmp_ge (d332 (j := 90) rfl) (fun c1 => ?_) (fun c1 => ?_)
  ·
    refine b_iconst (d332 (j := 107) rfl) (by decide) ?_
    exact b_iret (d332 (j := 108) rfl) rfl (k1 c1)
  ·
    refine b_aload_n (d332 (j := 91) rfl) rfl ?_
    refine b_getR (d332 (j := 92) rfl) rfl rfl rfl rfl ?_
    refine b_stk [uR 45 113] rfl ?_
    refine b_bipush (d332 (j := 93) rfl) (by decide) ?_
    refine b_iload_n (d332 (j := 94) rfl) rfl ?_
    refine b_imul (d332 (j := 95) rfl) rfl rfl ?_
    refine b_iload (d332 (j := 96) rfl) rfl ?_
    refine b_iadd (d332 (j := 97) rfl) (dsw_dsw _) rfl ?_
    refine b_iload (d332 (j := 98) rfl) rfl ?_
    refine b_iadd (d332 (j := 99) rfl) (dsw_dsw _) rfl ?_
    refine b_aload_n (d332 (j := 100) rfl) rfl ?_
    refine b_getR (d332 (j := 101) rfl) rfl rfl rfl rfl ?_
    refine b_stk [uR 34 114, uI (dsw ((((60 * x3) + x4) + x6))), uR 45 113] rfl ?_
    refine b_iload (d332 (j := 102) rfl) rfl ?_
    refine b_laload (d332 (j := 103) rfl) rfl (s1 c1) ?_
    refine b_stk [uJ (M 114 x6), uI (((60 * x3) + x4) + x6), uR 45 113] (by rw [dsw_b (s2 c1) (by decide)]) ?_
    refine b_lastore (d332 (j := 104) rfl) rfl (s2 c1) ?_
    refine b_iinc [uR 11 84, uX 0, uX 0, uI x3, uI x4, uI x5, uI (x6 + 1)] (d332 (j := 105) rfl) rfl (by decide) (s3 c1) rfl ?_
    refine b_goto (d332 (j := 106) rfl) ?_
    exact (k2 c1)
