def L180 : List (Nat × Instr × Nat × Nat) := [(0, .iload_n 1, 1, 0), (1, .i2l, 2, 0), (2, .lconst 0, 3, 0), (3, .ldc2_w 110, 6, 0), (6, .invokestatic 112, 9, 0), (9, .ifCond .ne 6, 12, 15), (12, .bipush (-2), 14, 0), (14, .ireturn, 15, 0), (15, .iconst 0, 16, 0), (16, .istore_n 2, 17, 0), (17, .iload_n 2, 18, 0), (18, .bipush 105, 20, 0), (20, .if_icmp .ge 26, 23, 46), (23, .aload_n 0, 24, 0), (24, .getfield 13, 27, 0), (27, .bipush 105, 29, 0), (29, .iload_n 1, 30, 0), (30, .imul, 31, 0), (31, .iload_n 2, 32, 0), (32, .iadd, 33, 0), (33, .aload_n 0, 34, 0), (34, .getfield 9, 37, 0), (37, .iload_n 2, 38, 0), (38, .iaload, 39, 0), (39, .iastore, 40, 0), (40, .iinc 2 1, 43, 0), (43, .goto (-26), 46, 17), (46, .aload_n 0, 47, 0), (47, .getfield 16, 50, 0), (50, .iload_n 1, 51, 0), (51, .iconst 1, 52, 0), (52, .bastore, 53, 0), (53, .iconst 0, 54, 0), (54, .ireturn, 55, 0)]
set_option maxRecDepth 100000 in
theorem L180_ok : L180.all (dck 180) = true := by decide +kernel
theorem d180 {j pc nx tg : Nat} {ins : Instr} (hj : L180[j]? = some (pc, ins, nx, tg)) : dcd 180 pc ins nx tg := dcl_ok L180_ok hj
set_option maxRecDepth 100000 in
set_option maxHeartbeats 4000000 in
theorem r180_0 {x1 : Int}  {M : dsMem} {Q : bQT} (k1 : ((0 ≤ x1 ∧ x1 ≤ 2)) → bB 180 17 [uR 11 84, uI x1, uI 0] [] M Q) (k2 : (¬ (0 ≤ x1 ∧ x1 ≤ 2)) → Q [uI (-2)] M) :
    bB 180 0 [uR 11 84, uI x1, uX 0] [] M Q := by
  refine b_iload_n (d180 (j := 0) rfl) rfl ?_
  refine b_i2l (d180 (j := 1) rfl) ?_
  refine b_lconst (d180 (j := 2) rfl) ?_
  refine b_stk [uJ 0, uJ x1] rfl ?_
  refine b_ldc2 (d180 (j := 3) rfl) rfl ?_
  refine b_callS (d180 (j := 4) rfl) (Or.inl rfl) rfl (bCk_mk (n := 0) (k := 6) (by decide +kernel) rfl rfl) (pu177  ?_)
  refine b_stk [uI (if (0 ≤ x1 ∧ x1 ≤ 2) then 1 else 0)] rfl ?_
  refine b_ifneP (d180 (j := 5) rfl) (fun c1 => ?_) (fun c1 => ?_)
  ·
    refine b_iconst (d180 (j := 8) rfl) (by decide) ?_
    refine b_istore_n [uR 11 84, uI x1, uI 0] (d180 (j := 9) rfl) (by decide) rfl ?_
    exact (k1 c1)
  ·
    refine b_bipush (d180 (j := 6) rfl) (by decide) ?_
    exact b_iret (d180 (j := 7) rfl) rfl (k2 c1)
set_option maxRecDepth 100000 in
set_option maxHeartbeats 4000000 in
theorem r180_17 {x1 x2 : Int}  {M : dsMem} {Q : bQT} (s1 : (105 ≤ x2) → 0 ≤ x1 ∧ x1 < 3 := by intros; omega) (k1 : (105 ≤ x2) → Q [uI 0] (dsSet M 87 x1 1)) (s2 : (¬ 105 ≤ x2) → 0 ≤ x2 ∧ x2 < 105 := by intros; omega) (s3 : (¬ 105 ≤ x2) → 0 ≤ ((105 * x1) + x2) ∧ ((105 * x1) + x2) < 315 := by intros; omega) (s4 : (¬ 105 ≤ x2) → -2147483648 ≤ x2 + 1 ∧ x2 + 1 < 2147483648 := by intros; omega) (k2 : (¬ 105 ≤ x2) → bB 180 17 [uR 11 84, uI x1, uI (x2 + 1)] [] (dsSet M 86 ((105 * x1) + x2) (M 85 x2)) Q) :
    bB 180 17 [uR 11 84, uI x1, uI x2] [] M Q := by
  refine b_iload_n (d180 (j := 10) rfl) rfl ?_
  refine b_bipush (d180 (j := 11) rfl) (by decide) ?_
  refine b_icmp_ge (d180 (j := 12) rfl) (fun c1 => ?_) (fun c1 => ?_)
  ·
    refine b_aload_n (d180 (j := 27) rfl) rfl ?_
    refine b_getR (d180 (j := 28) rfl) rfl rfl rfl rfl ?_
    refine b_stk [uR 40 87] rfl ?_
    refine b_iload_n (d180 (j := 29) rfl) rfl ?_
    refine b_iconst (d180 (j := 30) rfl) (by decide) ?_
    refine b_zastore (d180 (j := 31) rfl) rfl (by decide) (s1 c1) ?_
    refine b_iconst (d180 (j := 32) rfl) (by decide) ?_
    exact b_iret (d180 (j := 33) rfl) rfl (k1 c1)
  ·
    refine b_aload_n (d180 (j := 13) rfl) rfl ?_
    refine b_getR (d180 (j := 14) rfl) rfl rfl rfl rfl ?_
    refine b_stk [uR 39 86] rfl ?_
    refine b_bipush (d180 (j := 15) rfl) (by decide) ?_
    refine b_iload_n (d180 (j := 16) rfl) rfl ?_
    refine b_imul (d180 (j := 17) rfl) rfl rfl ?_
    refine b_iload_n (d180 (j := 18) rfl) rfl ?_
    refine b_iadd (d180 (j := 19) rfl) (dsw_dsw _) rfl ?_
    refine b_aload_n (d180 (j := 20) rfl) rfl ?_
    refine b_getR (d180 (j := 21) rfl) rfl rfl rfl rfl ?_
    refine b_stk [uR 38 85, uI (dsw (((105 * x1) + x2))), uR 39 86] rfl ?_
    refine b_iload_n (d180 (j := 22) rfl) rfl ?_
    refine b_iaload (d180 (j := 23) rfl) rfl (s2 c1) ?_
    refine b_stk [uI (M 85 x2), uI ((105 * x1) + x2), uR 39 86] (by rw [dsw_b (s3 c1) (by decide)]) ?_
    refine b_iastore (d180 (j := 24) rfl) rfl (s3 c1) ?_
    refine b_iinc [uR 11 84, uI x1, uI (x2 + 1)] (d180 (j := 25) rfl) rfl (by decide) (s4 c1) rfl ?_
    refine b_goto (d180 (j := 26) rfl) ?_
    exact (k2 c1)
def L181 : List (Nat × Instr × Nat × Nat) := [(0, .iload_n 1, 1, 0), (1, .i2l, 2, 0), (2, .lconst 0, 3, 0), (3, .ldc2_w 110, 6, 0), (6, .invokestatic 112, 9, 0), (9, .ifCond .ne 6, 12, 15), (12, .bipush (-2), 14, 0), (14, .ireturn, 15, 0), (15, .aload_n 0, 16, 0), (16, .getfield 16, 19, 0), (19, .iload_n 1, 20, 0), (20, .baload, 21, 0), (21, .ifCond .ne 6, 24, 27), (24, .bipush (-6), 26, 0), (26, .ireturn, 27, 0), (27, .iconst 0, 28, 0), (28, .istore_n 2, 29, 0), (29, .iload_n 2, 30, 0), (30, .bipush 105, 32, 0), (32, .if_icmp .ge 26, 35, 58), (35, .aload_n 0, 36, 0), (36, .getfield 9, 39, 0), (39, .iload_n 2, 40, 0), (40, .aload_n 0, 41, 0), (41, .getfield 13, 44, 0), (44, .bipush 105, 46, 0), (46, .iload_n 1, 47, 0), (47, .imul, 48, 0), (48, .iload_n 2, 49, 0), (49, .iadd, 50, 0), (50, .iaload, 51, 0), (51, .iastore, 52, 0), (52, .iinc 2 1, 55, 0), (55, .goto (-26), 58, 29), (58, .iconst 0, 59, 0), (59, .ireturn, 60, 0)]
set_option maxRecDepth 100000 in
theorem L181_ok : L181.all (dck 181) = true := by decide +kernel
theorem d181 {j pc nx tg : Nat} {ins : Instr} (hj : L181[j]? = some (pc, ins, nx, tg)) : dcd 181 pc ins nx tg := dcl_ok L181_ok hj
set_option maxRecDepth 100000 in
set_option maxHeartbeats 4000000 in
theorem r181_0 {x1 : Int}  {M : dsMem} {Q : bQT} (s1 : ((0 ≤ x1 ∧ x1 ≤ 2)) → 0 ≤ x1 ∧ x1 < 3 := by intros; omega) (k1 : ((0 ≤ x1 ∧ x1 ≤ 2)) → (¬ (M 87 x1) = 0) → bB 181 29 [uR 11 84, uI x1, uI 0] [] M Q) (k2 : ((0 ≤ x1 ∧ x1 ≤ 2)) → ((M 87 x1) = 0) → Q [uI (-6)] M) (k3 : (¬ (0 ≤ x1 ∧ x1 ≤ 2)) → Q [uI (-2)] M) :
    bB 181 0 [uR 11 84, uI x1, uX 0] [] M Q := by
  refine b_iload_n (d181 (j := 0) rfl) rfl ?_
  refine b_i2l (d181 (j := 1) rfl) ?_
  refine b_lconst (d181 (j := 2) rfl) ?_
  refine b_stk [uJ 0, uJ x1] rfl ?_
  refine b_ldc2 (d181 (j := 3) rfl) rfl ?_
  refine b_callS (d181 (j := 4) rfl) (Or.inl rfl) rfl (bCk_mk (n := 0) (k := 6) (by decide +kernel) rfl rfl) (pu177  ?_)
  refine b_stk [uI (if (0 ≤ x1 ∧ x1 ≤ 2) then 1 else 0)] rfl ?_
  refine b_ifneP (d181 (j := 5) rfl) (fun c1 => ?_) (fun c1 => ?_)
  ·
    refine b_aload_n (d181 (j := 8) rfl) rfl ?_
    refine b_getR (d181 (j := 9) rfl) rfl rfl rfl rfl ?_
    refine b_stk [uR 40 87] rfl ?_
    refine b_iload_n (d181 (j := 10) rfl) rfl ?_
    refine b_baload (d181 (j := 11) rfl) (Or.inr rfl) (s1 c1) ?_
    refine b_if_ne (d181 (j := 12) rfl) (fun c2 => ?_) (fun c2 => ?_)
    ·
      refine b_iconst (d181 (j := 15) rfl) (by decide) ?_
      refine b_istore_n [uR 11 84, uI x1, uI 0] (d181 (j := 16) rfl) (by decide) rfl ?_
      exact (k1 c1 c2)
    ·
      refine b_bipush (d181 (j := 13) rfl) (by decide) ?_
      exact b_iret (d181 (j := 14) rfl) rfl (k2 c1 c2)
  ·
    refine b_bipush (d181 (j := 6) rfl) (by decide) ?_
    exact b_iret (d181 (j := 7) rfl) rfl (k3 c1)
set_option maxRecDepth 100000 in
set_option maxHeartbeats 4000000 in
theorem r181_29 {x1 x2 : Int}  {M : dsMem} {Q : bQT} (k1 : (105 ≤ x2) → Q [uI 0] M) (s1 : (¬ 105 ≤ x2) → 0 ≤ ((105 * x1) + x2) ∧ ((105 * x1) + x2) < 315 := by intros; omega) (s2 : (¬ 105 ≤ x2) → 0 ≤ x2 ∧ x2 < 105 := by intros; omega) (s3 : (¬ 105 ≤ x2) → -2147483648 ≤ x2 + 1 ∧ x2 + 1 < 2147483648 := by intros; omega) (k2 : (¬ 105 ≤ x2) → bB 181 29 [uR 11 84, uI x1, uI (x2 + 1)] [] (dsSet M 85 x2 (M 86 ((105 * x1) + x2))) Q) :
    bB 181 29 [uR 11 84, uI x1, uI x2] [] M Q := by
  refine b_iload_n (d181 (j := 17) rfl) rfl ?_
  refine b_bipush (d181 (j := 18) rfl) (by decide) ?_
  refine b_icmp_ge (d181 (j := 19) rfl) (fun c1 => ?_) (fun c1 => ?_)
  ·
    refine b_iconst (d181 (j := 34) rfl) (by decide) ?_
    exact b_iret (d181 (j := 35) rfl) rfl (k1 c1)
  ·
    refine b_aload_n (d181 (j := 20) rfl) rfl ?_
    refine b_getR (d181 (j := 21) rfl) rfl rfl rfl rfl ?_
    refine b_stk [uR 38 85] rfl ?_
    refine b_iload_n (d181 (j := 22) rfl) rfl ?_
    refine b_aload_n (d181 (j := 23) rfl) rfl ?_
    refine b_getR (d181 (j := 24) rfl) rfl rfl rfl rfl ?_
    refine b_stk [uR 39 86, uI x2, uR 38 85] rfl ?_
    refine b_bipush (d181 (j := 25) rfl) (by decide) ?_
    refine b_iload_n (d181 (j := 26) rfl) rfl ?_
    refine b_imul (d181 (j := 27) rfl) rfl rfl ?_
    refine b_iload_n (d181 (j := 28) rfl) rfl ?_
    refine b_iadd (d181 (j := 29) rfl) (dsw_dsw _) rfl ?_
    refine b_stk [uI ((105 * x1) + x2), uR 39 86, uI x2, uR 38 85] (by rw [dsw_b (s1 c1) (by decide)]) ?_
    refine b_iaload (d181 (j := 30) rfl) rfl (s1 c1) ?_
    refine b_iastore (d181 (j := 31) rfl) rfl (s2 c1) ?_
    refine b_iinc [uR 11 84, uI x1, uI (x2 + 1)] (d181 (j := 32) rfl) rfl (by decide) (s3 c1) rfl ?_
    refine b_goto (d181 (j := 33) rfl) ?_
    exact (k2 c1)
def L194 : List (Nat × Instr × Nat × Nat) := [(0, .aload_n 0, 1, 0), (1, .getfield 136, 4, 0), (4, .bipush 20, 6, 0), (6, .iadd, 7, 0), (7, .sipush 600, 10, 0), (10, .if_icmp .le 5, 13, 15), (13, .iconst (-1), 14, 0), (14, .ireturn, 15, 0), (15, .aload_n 0, 16, 0), (16, .getfield 24, 19, 0), (19, .iconst 0, 20, 0), (20, .iload_n 1, 21, 0), (21, .iastore, 22, 0), (22, .aload_n 0, 23, 0), (23, .getfield 24, 26, 0), (26, .iconst 1, 27, 0), (27, .iload_n 2, 28, 0), (28, .iastore, 29, 0), (29, .aload_n 0, 30, 0), (30, .getfield 24, 33, 0), (33, .iconst 2, 34, 0), (34, .iload_n 3, 35, 0), (35, .iastore, 36, 0), (36, .aload_n 0, 37, 0), (37, .getfield 24, 40, 0), (40, .iconst 3, 41, 0), (41, .iload 4, 43, 0), (43, .iastore, 44, 0), (44, .aload_n 0, 45, 0), (45, .getfield 24, 48, 0), (48, .iconst 4, 49, 0), (49, .iload 5, 51, 0), (51, .iastore, 52, 0), (52, .iconst 0, 53, 0), (53, .istore 6, 55, 0), (55, .iload 6, 57, 0), (57, .bipush 20, 59, 0), (59, .if_icmp .ge 42, 62, 101), (62, .aload_n 0, 63, 0), (63, .getfield 20, 66, 0), (66, .aload_n 0, 67, 0), (67, .getfield 136, 70, 0), (70, .iload 6, 72, 0), (72, .iadd, 73, 0), (73, .aload_n 0, 74, 0), (74, .getfield 24, 77, 0), (77, .iload 6, 79, 0), (79, .iconst 4, 80, 0), (80, .idiv, 81, 0), (81, .iaload, 82, 0), (82, .bipush 24, 84, 0), (84, .bipush 8, 86, 0), (86, .iload 6, 88, 0), (88, .iconst 4, 89, 0), (89, .irem, 90, 0), (90, .imul, 91, 0), (91, .isub, 92, 0), (92, .ishr, 93, 0), (93, .i2b, 94, 0), (94, .bastore, 95, 0), (95, .iinc 6 1, 98, 0), (98, .goto (-43), 101, 55), (101, .aload_n 0, 102, 0), (102, .dup, 103, 0), (103, .getfield 136, 106, 0), (106, .bipush 20, 108, 0), (108, .iadd, 109, 0), (109, .putfield 136, 112, 0), (112, .aload_n 0, 113, 0), (113, .getfield 136, 116, 0), (116, .ireturn, 117, 0)]
set_option maxRecDepth 100000 in
theorem L194_ok : L194.all (dck 194) = true := by decide +kernel
theorem d194 {j pc nx tg : Nat} {ins : Instr} (hj : L194[j]? = some (pc, ins, nx, tg)) : dcd 194 pc ins nx tg := dcl_ok L194_ok hj
set_option maxRecDepth 100000 in
set_option maxHeartbeats 4000000 in
theorem r194_0 {x1 x2 x3 x4 x5 : Int}  {M : dsMem} {Q : bQT} (s1 : -2147483648 ≤ ((M 84 5) + 20) ∧ ((M 84 5) + 20) < 2147483648 := by intros; omega) (k1 : (((M 84 5) + 20) ≤ 600) → bB 194 55 [uR 11 84, uX 0, uX 0, uX 0, uX 0, uX 0, uI 0] [] (dsSet (dsSet (dsSet (dsSet (dsSet M 89 0 x1) 89 1 x2) 89 2 x3) 89 3 x4) 89 4 x5) Q) (k2 : (¬ ((M 84 5) + 20) ≤ 600) → Q [uI (-1)] M) :
    bB 194 0 [uR 11 84, uI x1, uI x2, uI x3, uI x4, uI x5, uX 0] [] M Q := by
  refine b_aload_n (d194 (j := 0) rfl) rfl ?_
  refine b_getI (d194 (j := 1) rfl) rfl rfl rfl rfl (Or.inl rfl) ?_
  refine b_stk [uI (M 84 5)] rfl ?_
  refine b_bipush (d194 (j := 2) rfl) (by decide) ?_
  refine b_iadd (d194 (j := 3) rfl) rfl rfl ?_
  refine b_sipush (d194 (j := 4) rfl) (by decide) ?_
  refine b_stk [uI 600, uI ((M 84 5) + 20)] (by rw [dsw_r s1]) ?_
  refine b_icmp_le (d194 (j := 5) rfl) (fun c1 => ?_) (fun c1 => ?_)
  ·
    refine b_aload_n (d194 (j := 8) rfl) rfl ?_
    refine b_getR (d194 (j := 9) rfl) rfl rfl rfl rfl ?_
    refine b_stk [uR 41 89] rfl ?_
    refine b_iconst (d194 (j := 10) rfl) (by decide) ?_
    refine b_iload_n (d194 (j := 11) rfl) rfl ?_
    refine b_iastore (d194 (j := 12) rfl) rfl (by decide) ?_
    refine b_aload_n (d194 (j := 13) rfl) rfl ?_
    refine b_getR (d194 (j := 14) rfl) rfl rfl rfl rfl ?_
    refine b_stk [uR 41 89] rfl ?_
    refine b_iconst (d194 (j := 15) rfl) (by decide) ?_
    refine b_iload_n (d194 (j := 16) rfl) rfl ?_
    refine b_iastore (d194 (j := 17) rfl) rfl (by decide) ?_
    refine b_aload_n (d194 (j := 18) rfl) rfl ?_
    refine b_getR (d194 (j := 19) rfl) rfl rfl rfl rfl ?_
    refine b_stk [uR 41 89] rfl ?_
    refine b_iconst (d194 (j := 20) rfl) (by decide) ?_
    refine b_iload_n (d194 (j := 21) rfl) rfl ?_
    refine b_iastore (d194 (j := 22) rfl) rfl (by decide) ?_
    refine b_aload_n (d194 (j := 23) rfl) rfl ?_
    refine b_getR (d194 (j := 24) rfl) rfl rfl rfl rfl ?_
    refine b_stk [uR 41 89] rfl ?_
    refine b_iconst (d194 (j := 25) rfl) (by decide) ?_
    refine b_iload (d194 (j := 26) rfl) rfl ?_
    refine b_iastore (d194 (j := 27) rfl) rfl (by decide) ?_
    refine b_aload_n (d194 (j := 28) rfl) rfl ?_
    refine b_getR (d194 (j := 29) rfl) rfl rfl rfl rfl ?_
    refine b_stk [uR 41 89] rfl ?_
    refine b_iconst (d194 (j := 30) rfl) (by decide) ?_
    refine b_iload (d194 (j := 31) rfl) rfl ?_
    refine b_iastore (d194 (j := 32) rfl) rfl (by decide) ?_
    refine b_iconst (d194 (j := 33) rfl) (by decide) ?_
    refine b_istore [uR 11 84, uI x1, uI x2, uI x3, uI x4, uI x5, uI 0] (d194 (j := 34) rfl) (by decide) rfl ?_
    exact bB_le _ (bLe_s (bLe_x (bLe_x (bLe_x (bLe_x (bLe_x (bLe_s bLe_nil))))))) (k1 c1)
  ·
    refine b_iconst (d194 (j := 6) rfl) (by decide) ?_
    exact b_iret (d194 (j := 7) rfl) rfl (k2 c1)
set_option maxRecDepth 100000 in
set_option maxHeartbeats 4000000 in
theorem r194_55 {x6 : Int}  {M : dsMem} {Q : bQT} (s1 : (20 ≤ x6) → -2147483648 ≤ ((M 84 5) + 20) ∧ ((M 84 5) + 20) < 2147483648 := by intros; omega) (k1 : (20 ≤ x6) → Q [uI ((M 84 5) + 20)] (dsSet M 84 5 ((M 84 5) + 20))) (s2 : (¬ 20 ≤ x6) → (0 ≤ x6 ∧ x6 < 2147483648) ∧ (0 : Int) < 4 := by intros; omega) (s3 : (¬ 20 ≤ x6) → 0 ≤ (x6 / 4) ∧ (x6 / 4) < 5 := by intros; omega) (s4 : (¬ 20 ≤ x6) → 0 ≤ x6 ∧ (0 : Int) < 4 := by intros; omega) (s5 : (¬ 20 ≤ x6) → -2147483648 ≤ (24 - (8 * (x6 % 4))) ∧ (24 - (8 * (x6 % 4))) < 2147483648 := by intros; omega) (s6 : (¬ 20 ≤ x6) → 0 ≤ ((M 84 5) + x6) ∧ ((M 84 5) + x6) < 600 := by intros; omega) (s7 : (¬ 20 ≤ x6) → -128 ≤ (dsB (dsShr (M 89 (x6 / 4)) (24 - (8 * (x6 % 4))))) ∧ (dsB (dsShr (M 89 (x6 / 4)) (24 - (8 * (x6 % 4))))) ≤ 127 := by intros; omega) (s8 : (¬ 20 ≤ x6) → -2147483648 ≤ x6 + 1 ∧ x6 + 1 < 2147483648 := by intros; omega) (k2 : (¬ 20 ≤ x6) → bB 194 55 [uR 11 84, uX 0, uX 0, uX 0, uX 0, uX 0, uI (x6 + 1)] [] (dsSet M 88 ((M 84 5) + x6) (dsB (dsShr (M 89 (x6 / 4)) (24 - (8 * (x6 % 4)))))) Q) :
    bB 194 55 [uR 11 84, uX 0, uX 0, uX 0, uX 0, uX 0, uI x6] [] M Q := by
  refine b_iload (d194 (j := 35) rfl) rfl ?_
  refine b_bipush (d194 (j := 36) rfl) (by decide) ?_
  refine b_icmp_ge (d194 (j := 37) rfl) (fun c1 => ?_) (fun c1 => ?_)
  ·
    refine b_aload_n (d194 (j := 62) rfl) rfl ?_
    refine b_dup (d194 (j := 63) rfl) rfl ?_
    refine b_getI (d194 (j := 64) rfl) rfl rfl rfl rfl (Or.inl rfl) ?_
    refine b_stk [uI (M 84 5), uR 11 84] rfl ?_
    refine b_bipush (d194 (j := 65) rfl) (by decide) ?_
    refine b_iadd (d194 (j := 66) rfl) rfl rfl ?_
    refine b_stk [uI ((M 84 5) + 20), uR 11 84] (by rw [dsw_r (s1 c1)]) ?_
    refine b_putI (d194 (j := 67) rfl) rfl ⟨rfl, rfl⟩ rfl rfl ?_
    refine b_aload_n (d194 (j := 68) rfl) rfl ?_
    refine b_getI (d194 (j := 69) rfl) rfl rfl rfl rfl (Or.inl rfl) ?_
    refine b_stk [uI ((M 84 5) + 20)] (by rw [ds_get_eq] <;> rfl) ?_
    exact b_iret (d194 (j := 70) rfl) rfl (k1 c1)
  ·
    refine b_aload_n (d194 (j := 38) rfl) rfl ?_
    refine b_getR (d194 (j := 39) rfl) rfl rfl rfl rfl ?_
    refine b_stk [uR 29 88] rfl ?_
    refine b_aload_n (d194 (j := 40) rfl) rfl ?_
    refine b_getI (d194 (j := 41) rfl) rfl rfl rfl rfl (Or.inl rfl) ?_
    refine b_stk [uI (M 84 5), uR 29 88] rfl ?_
    refine b_iload (d194 (j := 42) rfl) rfl ?_
    refine b_iadd (d194 (j := 43) rfl) rfl rfl ?_
    refine b_aload_n (d194 (j := 44) rfl) rfl ?_
    refine b_getR (d194 (j := 45) rfl) rfl rfl rfl rfl ?_
    refine b_stk [uR 41 89, uI (dsw (((M 84 5) + x6))), uR 29 88] rfl ?_
    refine b_iload (d194 (j := 46) rfl) rfl ?_
    refine b_iconst (d194 (j := 47) rfl) (by decide) ?_
    refine b_idivP (d194 (j := 48) rfl) (s2 c1) ?_
    refine b_iaload (d194 (j := 49) rfl) rfl (s3 c1) ?_
    refine b_bipush (d194 (j := 50) rfl) (by decide) ?_
    refine b_bipush (d194 (j := 51) rfl) (by decide) ?_
    refine b_iload (d194 (j := 52) rfl) rfl ?_
    refine b_iconst (d194 (j := 53) rfl) (by decide) ?_
    refine b_iremP (d194 (j := 54) rfl) (s4 c1) ?_
    refine b_imul (d194 (j := 55) rfl) rfl rfl ?_
    refine b_isub (d194 (j := 56) rfl) rfl (dsw_dsw _) ?_
    refine b_stk [uI (24 - (8 * (x6 % 4))), uI (M 89 (x6 / 4)), uI (dsw (((M 84 5) + x6))), uR 29 88] (by rw [dsw_r (s5 c1)]) ?_
    refine b_ishr (d194 (j := 57) rfl) ?_
    refine b_i2b (d194 (j := 58) rfl) ?_
    refine b_stk [uI (dsB (dsShr (M 89 (x6 / 4)) (24 - (8 * (x6 % 4))))), uI ((M 84 5) + x6), uR 29 88] (by rw [dsw_b (s6 c1) (by decide)]) ?_
    refine b_bastore (d194 (j := 59) rfl) rfl (s7 c1) (s6 c1) ?_
    refine b_iinc [uR 11 84, uX 0, uX 0, uX 0, uX 0, uX 0, uI (x6 + 1)] (d194 (j := 60) rfl) rfl (by decide) (s8 c1) rfl ?_
    refine b_goto (d194 (j := 61) rfl) ?_
    exact (k2 c1)
def L195 : List (Nat × Instr × Nat × Nat) := [(0, .iload_n 1, 1, 0), (1, .i2l, 2, 0), (2, .lconst 0, 3, 0), (3, .aload_n 0, 4, 0), (4, .getfield 136, 7, 0), (7, .i2l, 8, 0), (8, .invokestatic 112, 11, 0), (11, .ifCond .ne 5, 14, 16), (14, .iconst (-1), 15, 0), (15, .ireturn, 16, 0), (16, .aload_n 0, 17, 0), (17, .iload_n 1, 18, 0), (18, .putfield 136, 21, 0), (21, .iload_n 1, 22, 0), (22, .ireturn, 23, 0)]
set_option maxRecDepth 100000 in
theorem L195_ok : L195.all (dck 195) = true := by decide +kernel
theorem d195 {j pc nx tg : Nat} {ins : Instr} (hj : L195[j]? = some (pc, ins, nx, tg)) : dcd 195 pc ins nx tg := dcl_ok L195_ok hj
set_option maxRecDepth 100000 in
set_option maxHeartbeats 4000000 in
theorem r195_0 {x1 : Int}  {M : dsMem} {Q : bQT} (k1 : ((0 ≤ x1 ∧ x1 ≤ (M 84 5))) → Q [uI x1] (dsSet M 84 5 x1)) (k2 : (¬ (0 ≤ x1 ∧ x1 ≤ (M 84 5))) → Q [uI (-1)] M) :
    bB 195 0 [uR 11 84, uI x1] [] M Q := by
  refine b_iload_n (d195 (j := 0) rfl) rfl ?_
  refine b_i2l (d195 (j := 1) rfl) ?_
  refine b_lconst (d195 (j := 2) rfl) ?_
  refine b_stk [uJ 0, uJ x1] rfl ?_
  refine b_aload_n (d195 (j := 3) rfl) rfl ?_
  refine b_getI (d195 (j := 4) rfl) rfl rfl rfl rfl (Or.inl rfl) ?_
  refine b_stk [uI (M 84 5), uJ 0, uJ x1] rfl ?_
  refine b_i2l (d195 (j := 5) rfl) ?_
  refine b_callS (d195 (j := 6) rfl) (Or.inl rfl) rfl (bCk_mk (n := 0) (k := 6) (by decide +kernel) rfl rfl) (pu177  ?_)
  refine b_stk [uI (if (0 ≤ x1 ∧ x1 ≤ (M 84 5)) then 1 else 0)] rfl ?_
  refine b_ifneP (d195 (j := 7) rfl) (fun c1 => ?_) (fun c1 => ?_)
  ·
    refine b_aload_n (d195 (j := 10) rfl) rfl ?_
    refine b_iload_n (d195 (j := 11) rfl) rfl ?_
    refine b_putI (d195 (j := 12) rfl) rfl ⟨rfl, rfl⟩ rfl rfl ?_
    refine b_iload_n (d195 (j := 13) rfl) rfl ?_
    exact b_iret (d195 (j := 14) rfl) rfl (k1 c1)
  ·
    refine b_iconst (d195 (j := 8) rfl) (by decide) ?_
    exact b_iret (d195 (j := 9) rfl) rfl (k2 c1)
def L197 : List (Nat × Instr × Nat × Nat) := [(0, .aload_n 0, 1, 0), (1, .aload_n 0, 2, 0), (2, .getfield 142, 5, 0), (5, .invokevirtual 145, 8, 0), (8, .bipush 32, 10, 0), (10, .if_icmp .eq 16, 13, 26), (13, .aload_n 0, 14, 0), (14, .aload_n 0, 15, 0), (15, .getfield 142, 18, 0), (18, .invokevirtual 145, 21, 0), (21, .bipush 10, 23, 0), (23, .if_icmp .ne 16, 26, 39), (26, .aload_n 0, 27, 0), (27, .dup, 28, 0), (28, .getfield 142, 31, 0), (31, .iconst 1, 32, 0), (32, .iadd, 33, 0), (33, .putfield 142, 36, 0), (36, .goto (-36), 39, 0), (39, .aload_n 0, 40, 0), (40, .aload_n 0, 41, 0), (41, .getfield 142, 44, 0), (44, .putfield 149, 47, 0), (47, .aload_n 0, 48, 0), (48, .aload_n 0, 49, 0), (49, .getfield 142, 52, 0), (52, .invokevirtual 145, 55, 0), (55, .istore_n 1, 56, 0), (56, .iload_n 1, 57, 0), (57, .iconst (-1), 58, 0), (58, .if_icmp .ne 11, 61, 69), (61, .aload_n 0, 62, 0), (62, .iconst 0, 63, 0), (63, .putfield 152, 66, 0), (66, .goto 173, 69, 239), (69, .iload_n 1, 70, 0), (70, .i2l, 71, 0), (71, .ldc2_w 155, 74, 0), (74, .ldc2_w 157, 77, 0), (77, .invokestatic 112, 80, 0), (80, .ifCond .eq 45, 83, 125), (83, .aload_n 0, 84, 0), (84, .aload_n 0, 85, 0), (85, .getfield 142, 88, 0), (88, .invokevirtual 145, 91, 0), (91, .i2l, 92, 0), (92, .ldc2_w 155, 95, 0), (95, .ldc2_w 157, 98, 0), (98, .invokestatic 112, 101, 0), (101, .ifCond .eq 16, 104, 117), (104, .aload_n 0, 105, 0), (105, .dup, 106, 0), (106, .getfield 142, 109, 0), (109, .iconst 1, 110, 0), (110, .iadd, 111, 0), (111, .putfield 142, 114, 0), (114, .goto (-31), 117, 83), (117, .aload_n 0, 118, 0), (118, .iconst 1, 119, 0), (119, .putfield 152, 122, 0), (122, .goto 117, 125, 239), (125, .iload_n 1, 126, 0), (126, .i2l, 127, 0), (127, .ldc2_w 159, 130, 0), (130, .ldc2_w 161, 133, 0), (133, .invokestatic 112, 136, 0), (136, .ifCond .eq 78, 139, 214), (139, .aload_n 0, 140, 0), (140, .iconst 0, 141, 0), (141, .putfield 163, 144, 0), (144, .aload_n 0, 145, 0), (145, .aload_n 0, 146, 0), (146, .getfield 142, 149, 0), (149, .invokevirtual 145, 152, 0), (152, .i2l, 153, 0), (153, .ldc2_w 159, 156, 0), (156, .ldc2_w 161, 159, 0), (159, .invokestatic 112, 162, 0), (162, .ifCond .eq 44, 165, 206), (165, .aload_n 0, 166, 0), (166, .ldc 166, 168, 0), (168, .bipush 10, 170, 0), (170, .aload_n 0, 171, 0), (171, .getfield 163, 174, 0), (174, .imul, 175, 0), (175, .aload_n 0, 176, 0), (176, .aload_n 0, 177, 0), (177, .getfield 142, 180, 0), (180, .invokevirtual 145, 183, 0), (183, .iadd, 184, 0), (184, .bipush 48, 186, 0), (186, .isub, 187, 0), (187, .invokestatic 167, 190, 0), (190, .putfield 163, 193, 0), (193, .aload_n 0, 194, 0), (194, .dup, 195, 0), (195, .getfield 142, 198, 0), (198, .iconst 1, 199, 0), (199, .iadd, 200, 0), (200, .putfield 142, 203, 0), (203, .goto (-59), 206, 144), (206, .aload_n 0, 207, 0), (207, .iconst 2, 208, 0), (208, .putfield 152, 211, 0), (211, .goto 28, 214, 239), (214, .aload_n 0, 215, 0), (215, .iload_n 1, 216, 0), (216, .bipush 59, 218, 0), (218, .if_icmp .ne 7, 221, 225), (221, .iconst 3, 222, 0), (222, .goto 4, 225, 226), (225, .iconst 4, 226, 0), (226, .putfield 152, 229, 0), (229, .aload_n 0, 230, 0), (230, .dup, 231, 0), (231, .getfield 142, 234, 0), (234, .iconst 1, 235, 0), (235, .iadd, 236, 0), (236, .putfield 142, 239, 0), (239, .return_, 240, 0)]
set_option maxRecDepth 100000 in
theorem L197_ok : L197.all (dck 197) = true := by decide +kernel
theorem d197 {j pc nx tg : Nat} {ins : Instr} (hj : L197[j]? = some (pc, ins, nx, tg)) : dcd 197 pc ins nx tg := dcl_ok L197_ok hj
set_option maxRecDepth 100000 in
set_option maxHeartbeats 4000000 in
theorem r197_0   {M : dsMem} {Q : bQT} (s1 : (¬ (M 84 7) ≤ (M 84 8)) → 0 ≤ (M 84 8) ∧ (M 84 8) < 600 := by intros; omega) (s2 : ((v196 M (M 84 8)) = 32) → -2147483648 ≤ ((M 84 8) + 1) ∧ ((M 84 8) + 1) < 2147483648 := by intros; omega) (k1 : ((v196 M (M 84 8)) = 32) → bB 197 0 [uR 11 84, uX 0] [] (dsSet M 84 8 ((M 84 8) + 1)) Q) (s3 : (¬ (v196 M (M 84 8)) = 32) → (¬ (v196 M (M 84 8)) = 10) → (¬ ((dsSet M 84 9 (M 84 8)) 84 7) ≤ (M 84 8)) → 0 ≤ (M 84 8) ∧ (M 84 8) < 600 := by intros; omega) (s4 : (¬ (v196 M (M 84 8)) = 32) → (¬ (v196 M (M 84 8)) = 10) → (¬ (v196 (dsSet M 84 9 (M 84 8)) (M 84 8)) = -1) → (¬ (97 ≤ (v196 (dsSet M 84 9 (M 84 8)) (M 84 8)) ∧ (v196 (dsSet M 84 9 (M 84 8)) (M 84 8)) ≤ 122)) → (¬ (48 ≤ (v196 (dsSet M 84 9 (M 84 8)) (M 84 8)) ∧ (v196 (dsSet M 84 9 (M 84 8)) (M 84 8)) ≤ 57)) → (¬ (v196 (dsSet M 84 9 (M 84 8)) (M 84 8)) = 59) → -2147483648 ≤ ((M 84 8) + 1) ∧ ((M 84 8) + 1) < 2147483648 := by intros; omega) (k2 : (¬ (v196 M (M 84 8)) = 32) → (¬ (v196 M (M 84 8)) = 10) → (¬ (v196 (dsSet M 84 9 (M 84 8)) (M 84 8)) = -1) → (¬ (97 ≤ (v196 (dsSet M 84 9 (M 84 8)) (M 84 8)) ∧ (v196 (dsSet M 84 9 (M 84 8)) (M 84 8)) ≤ 122)) → (¬ (48 ≤ (v196 (dsSet M 84 9 (M 84 8)) (M 84 8)) ∧ (v196 (dsSet M 84 9 (M 84 8)) (M 84 8)) ≤ 57)) → (¬ (v196 (dsSet M 84 9 (M 84 8)) (M 84 8)) = 59) → Q [] (dsSet (dsSet (dsSet M 84 9 (M 84 8)) 84 10 4) 84 8 ((M 84 8) + 1))) (s5 : (¬ (v196 M (M 84 8)) = 32) → (¬ (v196 M (M 84 8)) = 10) → (¬ (v196 (dsSet M 84 9 (M 84 8)) (M 84 8)) = -1) → (¬ (97 ≤ (v196 (dsSet M 84 9 (M 84 8)) (M 84 8)) ∧ (v196 (dsSet M 84 9 (M 84 8)) (M 84 8)) ≤ 122)) → (¬ (48 ≤ (v196 (dsSet M 84 9 (M 84 8)) (M 84 8)) ∧ (v196 (dsSet M 84 9 (M 84 8)) (M 84 8)) ≤ 57)) → ((v196 (dsSet M 84 9 (M 84 8)) (M 84 8)) = 59) → -2147483648 ≤ ((M 84 8) + 1) ∧ ((M 84 8) + 1) < 2147483648 := by intros; omega) (k3 : (¬ (v196 M (M 84 8)) = 32) → (¬ (v196 M (M 84 8)) = 10) → (¬ (v196 (dsSet M 84 9 (M 84 8)) (M 84 8)) = -1) → (¬ (97 ≤ (v196 (dsSet M 84 9 (M 84 8)) (M 84 8)) ∧ (v196 (dsSet M 84 9 (M 84 8)) (M 84 8)) ≤ 122)) → (¬ (48 ≤ (v196 (dsSet M 84 9 (M 84 8)) (M 84 8)) ∧ (v196 (dsSet M 84 9 (M 84 8)) (M 84 8)) ≤ 57)) → ((v196 (dsSet M 84 9 (M 84 8)) (M 84 8)) = 59) → Q [] (dsSet (dsSet (dsSet M 84 9 (M 84 8)) 84 10 3) 84 8 ((M 84 8) + 1))) (k4 : (¬ (v196 M (M 84 8)) = 32) → (¬ (v196 M (M 84 8)) = 10) → (¬ (v196 (dsSet M 84 9 (M 84 8)) (M 84 8)) = -1) → (¬ (97 ≤ (v196 (dsSet M 84 9 (M 84 8)) (M 84 8)) ∧ (v196 (dsSet M 84 9 (M 84 8)) (M 84 8)) ≤ 122)) → ((48 ≤ (v196 (dsSet M 84 9 (M 84 8)) (M 84 8)) ∧ (v196 (dsSet M 84 9 (M 84 8)) (M 84 8)) ≤ 57)) → bB 197 144 [uR 11 84, uX 0] [] (dsSet (dsSet M 84 9 (M 84 8)) 84 11 0) Q) (k5 : (¬ (v196 M (M 84 8)) = 32) → (¬ (v196 M (M 84 8)) = 10) → (¬ (v196 (dsSet M 84 9 (M 84 8)) (M 84 8)) = -1) → ((97 ≤ (v196 (dsSet M 84 9 (M 84 8)) (M 84 8)) ∧ (v196 (dsSet M 84 9 (M 84 8)) (M 84 8)) ≤ 122)) → bB 197 83 [uR 11 84, uX 0] [] (dsSet M 84 9 (M 84 8)) Q) (k6 : (¬ (v196 M (M 84 8)) = 32) → (¬ (v196 M (M 84 8)) = 10) → ((v196 (dsSet M 84 9 (M 84 8)) (M 84 8)) = -1) → Q [] (dsSet (dsSet M 84 9 (M 84 8)) 84 10 0)) (s6 : (¬ (v196 M (M 84 8)) = 32) → ((v196 M (M 84 8)) = 10) → -2147483648 ≤ ((M 84 8) + 1) ∧ ((M 84 8) + 1) < 2147483648 := by intros; omega) (k7 : (¬ (v196 M (M 84 8)) = 32) → ((v196 M (M 84 8)) = 10) → bB 197 0 [uR 11 84, uX 0] [] (dsSet M 84 8 ((M 84 8) + 1)) Q) :
    bB 197 0 [uR 11 84, uX 0] [] M Q := by
  refine b_aload_n (d197 (j := 0) rfl) rfl ?_
  refine b_aload_n (d197 (j := 1) rfl) rfl ?_
  refine b_getI (d197 (j := 2) rfl) rfl rfl rfl rfl (Or.inl rfl) ?_
  refine b_stk [uI (M 84 8), uR 11 84] rfl ?_
  refine b_callV (d197 (j := 3) rfl) rfl rfl (Or.inl rfl) rfl (bCk_mk (n := 0) (k := 2) (by decide +kernel) rfl rfl) (fx196 s1 ?_)
  refine b_stk [uI (v196 M (M 84 8))] rfl ?_
  refine b_bipush (d197 (j := 4) rfl) (by decide) ?_
  refine b_icmp_eq (d197 (j := 5) rfl) (fun c1 => ?_) (fun c1 => ?_)
  ·
    refine b_aload_n (d197 (j := 12) rfl) rfl ?_
    refine b_dup (d197 (j := 13) rfl) rfl ?_
    refine b_getI (d197 (j := 14) rfl) rfl rfl rfl rfl (Or.inl rfl) ?_
    refine b_stk [uI (M 84 8), uR 11 84] rfl ?_
    refine b_iconst (d197 (j := 15) rfl) (by decide) ?_
    refine b_iadd (d197 (j := 16) rfl) rfl rfl ?_
    refine b_stk [uI ((M 84 8) + 1), uR 11 84] (by rw [dsw_r (s2 c1)]) ?_
    refine b_putI (d197 (j := 17) rfl) rfl ⟨rfl, rfl⟩ rfl rfl ?_
    refine b_goto (d197 (j := 18) rfl) ?_
    exact (k1 c1)
  ·
    refine b_aload_n (d197 (j := 6) rfl) rfl ?_
    refine b_aload_n (d197 (j := 7) rfl) rfl ?_
    refine b_getI (d197 (j := 8) rfl) rfl rfl rfl rfl (Or.inl rfl) ?_
    refine b_stk [uI (M 84 8), uR 11 84] rfl ?_
    refine b_callV (d197 (j := 9) rfl) rfl rfl (Or.inl rfl) rfl (bCk_mk (n := 0) (k := 2) (by decide +kernel) rfl rfl) (fx196 s1 ?_)
    refine b_stk [uI (v196 M (M 84 8))] rfl ?_
    refine b_bipush (d197 (j := 10) rfl) (by decide) ?_
    refine b_icmp_ne (d197 (j := 11) rfl) (fun c2 => ?_) (fun c2 => ?_)
    ·
      refine b_aload_n (d197 (j := 19) rfl) rfl ?_
      refine b_aload_n (d197 (j := 20) rfl) rfl ?_
      refine b_getI (d197 (j := 21) rfl) rfl rfl rfl rfl (Or.inl rfl) ?_
      refine b_stk [uI (M 84 8), uR 11 84] rfl ?_
      refine b_putI (d197 (j := 22) rfl) rfl ⟨rfl, rfl⟩ rfl rfl ?_
      refine b_aload_n (d197 (j := 23) rfl) rfl ?_
      refine b_aload_n (d197 (j := 24) rfl) rfl ?_
      refine b_getI (d197 (j := 25) rfl) rfl rfl rfl rfl (Or.inl rfl) ?_
      refine b_stk [uI (M 84 8), uR 11 84] (by rw [ds_get_ni (by omega)] <;> rfl) ?_
      refine b_callV (d197 (j := 26) rfl) rfl rfl (Or.inl rfl) rfl (bCk_mk (n := 0) (k := 2) (by decide +kernel) rfl rfl) (fx196 (s3 c1 c2) ?_)
      refine b_stk [uI (v196 (dsSet M 84 9 (M 84 8)) (M 84 8))] rfl ?_
      refine b_istore_n [uR 11 84, uI (v196 (dsSet M 84 9 (M 84 8)) (M 84 8))] (d197 (j := 27) rfl) (by decide) rfl ?_
      refine b_iload_n (d197 (j := 28) rfl) rfl ?_
      refine b_iconst (d197 (j := 29) rfl) (by decide) ?_
      refine b_icmp_ne (d197 (j := 30) rfl) (fun c3 => ?_) (fun c3 => ?_)
      ·
        refine b_iload_n (d197 (j := 35) rfl) rfl ?_
        refine b_i2l (d197 (j := 36) rfl) ?_
        refine b_ldc2 (d197 (j := 37) rfl) rfl ?_
        refine b_ldc2 (d197 (j := 38) rfl) rfl ?_
        refine b_callS (d197 (j := 39) rfl) (Or.inl rfl) rfl (bCk_mk (n := 0) (k := 6) (by decide +kernel) rfl rfl) (pu177  ?_)
        refine b_stk [uI (if (97 ≤ (v196 (dsSet M 84 9 (M 84 8)) (M 84 8)) ∧ (v196 (dsSet M 84 9 (M 84 8)) (M 84 8)) ≤ 122) then 1 else 0)] rfl ?_
        refine b_ifeqP (d197 (j := 40) rfl) (fun c4 => ?_) (fun c4 => ?_)
        ·
          refine b_iload_n (d197 (j := 61) rfl) rfl ?_
          refine b_i2l (d197 (j := 62) rfl) ?_
          refine b_ldc2 (d197 (j := 63) rfl) rfl ?_
          refine b_ldc2 (d197 (j := 64) rfl) rfl ?_
          refine b_callS (d197 (j := 65) rfl) (Or.inl rfl) rfl (bCk_mk (n := 0) (k := 6) (by decide +kernel) rfl rfl) (pu177  ?_)
          refine b_stk [uI (if (48 ≤ (v196 (dsSet M 84 9 (M 84 8)) (M 84 8)) ∧ (v196 (dsSet M 84 9 (M 84 8)) (M 84 8)) ≤ 57) then 1 else 0)] rfl ?_
          refine b_ifeqP (d197 (j := 66) rfl) (fun c5 => ?_) (fun c5 => ?_)
          ·
            refine b_aload_n (d197 (j := 105) rfl) rfl ?_
            refine b_iload_n (d197 (j := 106) rfl) rfl ?_
            refine b_bipush (d197 (j := 107) rfl) (by decide) ?_
            refine b_icmp_ne (d197 (j := 108) rfl) (fun c6 => ?_) (fun c6 => ?_)
            ·
              refine b_iconst (d197 (j := 111) rfl) (by decide) ?_
              refine b_putI (d197 (j := 112) rfl) rfl ⟨rfl, rfl⟩ rfl rfl ?_
              refine b_aload_n (d197 (j := 113) rfl) rfl ?_
              refine b_dup (d197 (j := 114) rfl) rfl ?_
              refine b_getI (d197 (j := 115) rfl) rfl rfl rfl rfl (Or.inl rfl) ?_
              refine b_stk [uI (M 84 8), uR 11 84] (by rw [ds_get_ni (by omega), ds_get_ni (by omega)] <;> rfl) ?_
              refine b_iconst (d197 (j := 116) rfl) (by decide) ?_
              refine b_iadd (d197 (j := 117) rfl) rfl rfl ?_
              refine b_stk [uI ((M 84 8) + 1), uR 11 84] (by rw [dsw_r (s4 c1 c2 c3 c4 c5 c6)]) ?_
              refine b_putI (d197 (j := 118) rfl) rfl ⟨rfl, rfl⟩ rfl rfl ?_
              exact b_vret (d197 (j := 119) rfl) rfl (k2 c1 c2 c3 c4 c5 c6)
            ·
              refine b_iconst (d197 (j := 109) rfl) (by decide) ?_
              refine b_goto (d197 (j := 110) rfl) ?_
              refine b_putI (d197 (j := 112) rfl) rfl ⟨rfl, rfl⟩ rfl rfl ?_
              refine b_aload_n (d197 (j := 113) rfl) rfl ?_
              refine b_dup (d197 (j := 114) rfl) rfl ?_
              refine b_getI (d197 (j := 115) rfl) rfl rfl rfl rfl (Or.inl rfl) ?_
              refine b_stk [uI (M 84 8), uR 11 84] (by rw [ds_get_ni (by omega), ds_get_ni (by omega)] <;> rfl) ?_
              refine b_iconst (d197 (j := 116) rfl) (by decide) ?_
              refine b_iadd (d197 (j := 117) rfl) rfl rfl ?_
              refine b_stk [uI ((M 84 8) + 1), uR 11 84] (by rw [dsw_r (s5 c1 c2 c3 c4 c5 c6)]) ?_
              refine b_putI (d197 (j := 118) rfl) rfl ⟨rfl, rfl⟩ rfl rfl ?_
              exact b_vret (d197 (j := 119) rfl) rfl (k3 c1 c2 c3 c4 c5 c6)
          ·
            refine b_aload_n (d197 (j := 67) rfl) rfl ?_
            refine b_iconst (d197 (j := 68) rfl) (by decide) ?_
            refine b_putI (d197 (j := 69) rfl) rfl ⟨rfl, rfl⟩ rfl rfl ?_
            exact bB_le _ (bLe_s (bLe_x bLe_nil)) (k4 c1 c2 c3 c4 c5)
        ·
          exact bB_le _ (bLe_s (bLe_x bLe_nil)) (k5 c1 c2 c3 c4)
      ·
        refine b_aload_n (d197 (j := 31) rfl) rfl ?_
        refine b_iconst (d197 (j := 32) rfl) (by decide) ?_
        refine b_putI (d197 (j := 33) rfl) rfl ⟨rfl, rfl⟩ rfl rfl ?_
        refine b_goto (d197 (j := 34) rfl) ?_
        exact b_vret (d197 (j := 119) rfl) rfl (k6 c1 c2 c3)
    ·
      refine b_aload_n (d197 (j := 12) rfl) rfl ?_
      refine b_dup (d197 (j := 13) rfl) rfl ?_
      refine b_getI (d197 (j := 14) rfl) rfl rfl rfl rfl (Or.inl rfl) ?_
      refine b_stk [uI (M 84 8), uR 11 84] rfl ?_
      refine b_iconst (d197 (j := 15) rfl) (by decide) ?_
      refine b_iadd (d197 (j := 16) rfl) rfl rfl ?_
      refine b_stk [uI ((M 84 8) + 1), uR 11 84] (by rw [dsw_r (s6 c1 c2)]) ?_
      refine b_putI (d197 (j := 17) rfl) rfl ⟨rfl, rfl⟩ rfl rfl ?_
      refine b_goto (d197 (j := 18) rfl) ?_
      exact (k7 c1 c2)
set_option maxRecDepth 100000 in
set_option maxHeartbeats 4000000 in
theorem r197_144   {M : dsMem} {Q : bQT} (s1 : (¬ (M 84 7) ≤ (M 84 8)) → 0 ≤ (M 84 8) ∧ (M 84 8) < 600 := by intros; omega) (k1 : (¬ (48 ≤ (v196 M (M 84 8)) ∧ (v196 M (M 84 8)) ≤ 57)) → Q [] (dsSet M 84 10 2)) (s2 : ((48 ≤ (v196 M (M 84 8)) ∧ (v196 M (M 84 8)) ≤ 57)) → -2147483648 ≤ ((M 84 8) + 1) ∧ ((M 84 8) + 1) < 2147483648 := by intros; omega) (k2 : ((48 ≤ (v196 M (M 84 8)) ∧ (v196 M (M 84 8)) ≤ 57)) → bB 197 144 [uR 11 84, uX 0] [] (dsSet (dsSet M 84 11 (if (dsw ((((10 * (M 84 11)) + (v196 M (M 84 8))) - 48))) < 99999 then (dsw ((((10 * (M 84 11)) + (v196 M (M 84 8))) - 48))) else 99999)) 84 8 ((M 84 8) + 1)) Q) :
    bB 197 144 [uR 11 84, uX 0] [] M Q := by
  refine b_aload_n (d197 (j := 70) rfl) rfl ?_
  refine b_aload_n (d197 (j := 71) rfl) rfl ?_
  refine b_getI (d197 (j := 72) rfl) rfl rfl rfl rfl (Or.inl rfl) ?_
  refine b_stk [uI (M 84 8), uR 11 84] rfl ?_
  refine b_callV (d197 (j := 73) rfl) rfl rfl (Or.inl rfl) rfl (bCk_mk (n := 0) (k := 2) (by decide +kernel) rfl rfl) (fx196 s1 ?_)
  refine b_stk [uI (v196 M (M 84 8))] rfl ?_
  refine b_i2l (d197 (j := 74) rfl) ?_
  refine b_ldc2 (d197 (j := 75) rfl) rfl ?_
  refine b_ldc2 (d197 (j := 76) rfl) rfl ?_
  refine b_callS (d197 (j := 77) rfl) (Or.inl rfl) rfl (bCk_mk (n := 0) (k := 6) (by decide +kernel) rfl rfl) (pu177  ?_)
  refine b_stk [uI (if (48 ≤ (v196 M (M 84 8)) ∧ (v196 M (M 84 8)) ≤ 57) then 1 else 0)] rfl ?_
  refine b_ifeqP (d197 (j := 78) rfl) (fun c1 => ?_) (fun c1 => ?_)
  ·
    refine b_aload_n (d197 (j := 101) rfl) rfl ?_
    refine b_iconst (d197 (j := 102) rfl) (by decide) ?_
    refine b_putI (d197 (j := 103) rfl) rfl ⟨rfl, rfl⟩ rfl rfl ?_
    refine b_goto (d197 (j := 104) rfl) ?_
    exact b_vret (d197 (j := 119) rfl) rfl (k1 c1)
  ·
    refine b_aload_n (d197 (j := 79) rfl) rfl ?_
    refine b_ldcI (d197 (j := 80) rfl) rfl ?_
    refine b_bipush (d197 (j := 81) rfl) (by decide) ?_
    refine b_aload_n (d197 (j := 82) rfl) rfl ?_
    refine b_getI (d197 (j := 83) rfl) rfl rfl rfl rfl (Or.inl rfl) ?_
    refine b_stk [uI (M 84 11), uI 10, uI 99999, uR 11 84] rfl ?_
    refine b_imul (d197 (j := 84) rfl) rfl rfl ?_
    refine b_aload_n (d197 (j := 85) rfl) rfl ?_
    refine b_aload_n (d197 (j := 86) rfl) rfl ?_
    refine b_getI (d197 (j := 87) rfl) rfl rfl rfl rfl (Or.inl rfl) ?_
    refine b_stk [uI (M 84 8), uR 11 84, uI (dsw ((10 * (M 84 11)))), uI 99999, uR 11 84] rfl ?_
    refine b_callV (d197 (j := 88) rfl) rfl rfl (Or.inl rfl) rfl (bCk_mk (n := 3) (k := 2) (by decide +kernel) rfl rfl) (fx196 s1 ?_)
    refine b_stk [uI (v196 M (M 84 8)), uI (dsw ((10 * (M 84 11)))), uI 99999, uR 11 84] rfl ?_
    refine b_iadd (d197 (j := 89) rfl) (dsw_dsw _) rfl ?_
    refine b_bipush (d197 (j := 90) rfl) (by decide) ?_
    refine b_isub (d197 (j := 91) rfl) (dsw_dsw _) rfl ?_
    refine b_min (d197 (j := 92) rfl) rfl ⟨by decide, Nat.le_of_ble_eq_true rfl⟩ ?_
    refine b_putI (d197 (j := 93) rfl) rfl ⟨rfl, rfl⟩ rfl rfl ?_
    refine b_aload_n (d197 (j := 94) rfl) rfl ?_
    refine b_dup (d197 (j := 95) rfl) rfl ?_
    refine b_getI (d197 (j := 96) rfl) rfl rfl rfl rfl (Or.inl rfl) ?_
    refine b_stk [uI (M 84 8), uR 11 84] (by rw [ds_get_ni (by omega)] <;> rfl) ?_
    refine b_iconst (d197 (j := 97) rfl) (by decide) ?_
    refine b_iadd (d197 (j := 98) rfl) rfl rfl ?_
    refine b_stk [uI ((M 84 8) + 1), uR 11 84] (by rw [dsw_r (s2 c1)]) ?_
    refine b_putI (d197 (j := 99) rfl) rfl ⟨rfl, rfl⟩ rfl rfl ?_
    refine b_goto (d197 (j := 100) rfl) ?_
    exact (k2 c1)
set_option maxRecDepth 100000 in
set_option maxHeartbeats 4000000 in
theorem r197_83   {M : dsMem} {Q : bQT} (s1 : (¬ (M 84 7) ≤ (M 84 8)) → 0 ≤ (M 84 8) ∧ (M 84 8) < 600 := by intros; omega) (k1 : (¬ (97 ≤ (v196 M (M 84 8)) ∧ (v196 M (M 84 8)) ≤ 122)) → Q [] (dsSet M 84 10 1)) (s2 : ((97 ≤ (v196 M (M 84 8)) ∧ (v196 M (M 84 8)) ≤ 122)) → -2147483648 ≤ ((M 84 8) + 1) ∧ ((M 84 8) + 1) < 2147483648 := by intros; omega) (k2 : ((97 ≤ (v196 M (M 84 8)) ∧ (v196 M (M 84 8)) ≤ 122)) → bB 197 83 [uR 11 84, uX 0] [] (dsSet M 84 8 ((M 84 8) + 1)) Q) :
    bB 197 83 [uR 11 84, uX 0] [] M Q := by
  refine b_aload_n (d197 (j := 41) rfl) rfl ?_
  refine b_aload_n (d197 (j := 42) rfl) rfl ?_
  refine b_getI (d197 (j := 43) rfl) rfl rfl rfl rfl (Or.inl rfl) ?_
  refine b_stk [uI (M 84 8), uR 11 84] rfl ?_
  refine b_callV (d197 (j := 44) rfl) rfl rfl (Or.inl rfl) rfl (bCk_mk (n := 0) (k := 2) (by decide +kernel) rfl rfl) (fx196 s1 ?_)
  refine b_stk [uI (v196 M (M 84 8))] rfl ?_
  refine b_i2l (d197 (j := 45) rfl) ?_
  refine b_ldc2 (d197 (j := 46) rfl) rfl ?_
  refine b_ldc2 (d197 (j := 47) rfl) rfl ?_
  refine b_callS (d197 (j := 48) rfl) (Or.inl rfl) rfl (bCk_mk (n := 0) (k := 6) (by decide +kernel) rfl rfl) (pu177  ?_)
  refine b_stk [uI (if (97 ≤ (v196 M (M 84 8)) ∧ (v196 M (M 84 8)) ≤ 122) then 1 else 0)] rfl ?_
  refine b_ifeqP (d197 (j := 49) rfl) (fun c1 => ?_) (fun c1 => ?_)
  ·
    refine b_aload_n (d197 (j := 57) rfl) rfl ?_
    refine b_iconst (d197 (j := 58) rfl) (by decide) ?_
    refine b_putI (d197 (j := 59) rfl) rfl ⟨rfl, rfl⟩ rfl rfl ?_
    refine b_goto (d197 (j := 60) rfl) ?_
    exact b_vret (d197 (j := 119) rfl) rfl (k1 c1)
  ·
    refine b_aload_n (d197 (j := 50) rfl) rfl ?_
    refine b_dup (d197 (j := 51) rfl) rfl ?_
    refine b_getI (d197 (j := 52) rfl) rfl rfl rfl rfl (Or.inl rfl) ?_
    refine b_stk [uI (M 84 8), uR 11 84] rfl ?_
    refine b_iconst (d197 (j := 53) rfl) (by decide) ?_
    refine b_iadd (d197 (j := 54) rfl) rfl rfl ?_
    refine b_stk [uI ((M 84 8) + 1), uR 11 84] (by rw [dsw_r (s2 c1)]) ?_
    refine b_putI (d197 (j := 55) rfl) rfl ⟨rfl, rfl⟩ rfl rfl ?_
    refine b_goto (d197 (j := 56) rfl) ?_
    exact (k2 c1)
def L199 : List (Nat × Instr × Nat × Nat) := [(0, .aload_n 0, 1, 0), (1, .invokevirtual 175, 4, 0), (4, .ifCond .ne 4, 7, 8), (7, .return_, 8, 0), (8, .aload_n 0, 9, 0), (9, .iload_n 1, 10, 0), (10, .putfield 172, 13, 0), (13, .aload_n 0, 14, 0), (14, .aload_n 0, 15, 0), (15, .getfield 149, 18, 0), (18, .putfield 27, 21, 0), (21, .return_, 22, 0)]
set_option maxRecDepth 100000 in
theorem L199_ok : L199.all (dck 199) = true := by decide +kernel
theorem d199 {j pc nx tg : Nat} {ins : Instr} (hj : L199[j]? = some (pc, ins, nx, tg)) : dcd 199 pc ins nx tg := dcl_ok L199_ok hj
set_option maxRecDepth 100000 in
set_option maxHeartbeats 4000000 in
theorem r199_0 {x1 : Int}  {M : dsMem} {Q : bQT} (k1 : (((M 84 12) = 0)) → Q [] (dsSet (dsSet M 84 12 x1) 84 13 (M 84 9))) (k2 : (¬ ((M 84 12) = 0)) → Q [] M) :
    bB 199 0 [uR 11 84, uI x1] [] M Q := by
  refine b_aload_n (d199 (j := 0) rfl) rfl ?_
  refine b_callV (d199 (j := 1) rfl) rfl rfl (Or.inl rfl) rfl (bCk_mk (n := 0) (k := 1) (by decide +kernel) rfl rfl) (pu198  ?_)
  refine b_stk [uI (if ((M 84 12) = 0) then 1 else 0)] rfl ?_
  refine b_ifneP (d199 (j := 2) rfl) (fun c1 => ?_) (fun c1 => ?_)
  ·
    refine b_aload_n (d199 (j := 4) rfl) rfl ?_
    refine b_iload_n (d199 (j := 5) rfl) rfl ?_
    refine b_putI (d199 (j := 6) rfl) rfl ⟨rfl, rfl⟩ rfl rfl ?_
    refine b_aload_n (d199 (j := 7) rfl) rfl ?_
    refine b_aload_n (d199 (j := 8) rfl) rfl ?_
    refine b_getI (d199 (j := 9) rfl) rfl rfl rfl rfl (Or.inl rfl) ?_
    refine b_stk [uI (M 84 9), uR 11 84] (by rw [ds_get_ni (by omega)] <;> rfl) ?_
    refine b_putI (d199 (j := 10) rfl) rfl ⟨rfl, rfl⟩ rfl rfl ?_
    exact b_vret (d199 (j := 11) rfl) rfl (k1 c1)
  ·
    exact b_vret (d199 (j := 3) rfl) rfl (k2 c1)
def L200 : List (Nat × Instr × Nat × Nat) := [(0, .aload_n 0, 1, 0), (1, .invokevirtual 175, 4, 0), (4, .ifCond .eq 31, 7, 35), (7, .aload_n 0, 8, 0), (8, .getfield 152, 11, 0), (11, .iconst 1, 12, 0), (12, .if_icmp .ne 23, 15, 35), (15, .aload_n 0, 16, 0), (16, .getfield 142, 19, 0), (19, .aload_n 0, 20, 0), (20, .getfield 149, 23, 0), (23, .isub, 24, 0), (24, .aload_n 1, 25, 0), (25, .invokevirtual 178, 28, 0), (28, .if_icmp .ne 7, 31, 35), (31, .iconst 1, 32, 0), (32, .goto 4, 35, 36), (35, .iconst 0, 36, 0), (36, .istore_n 2, 37, 0), (37, .iconst 0, 38, 0), (38, .istore_n 3, 39, 0), (39, .iload_n 3, 40, 0), (40, .aload_n 1, 41, 0), (41, .invokevirtual 178, 44, 0), (44, .if_icmp .ge 38, 47, 82), (47, .iload_n 2, 48, 0), (48, .ifCond .eq 34, 51, 82), (51, .aload_n 0, 52, 0), (52, .getfield 20, 55, 0), (55, .aload_n 0, 56, 0), (56, .getfield 149, 59, 0), (59, .iload_n 3, 60, 0), (60, .iadd, 61, 0), (61, .baload, 62, 0), (62, .aload_n 1, 63, 0), (63, .iload_n 3, 64, 0), (64, .invokevirtual 183, 67, 0), (67, .if_icmp .ne 7, 70, 74), (70, .iconst 1, 71, 0), (71, .goto 4, 74, 75), (74, .iconst 0, 75, 0), (75, .istore_n 2, 76, 0), (76, .iinc 3 1, 79, 0), (79, .goto (-40), 82, 39), (82, .iload_n 2, 83, 0), (83, .ireturn, 84, 0)]
set_option maxRecDepth 100000 in
theorem L200_ok : L200.all (dck 200) = true := by decide +kernel
theorem d200 {j pc nx tg : Nat} {ins : Instr} (hj : L200[j]? = some (pc, ins, nx, tg)) : dcd 200 pc ins nx tg := dcl_ok L200_ok hj
set_option maxRecDepth 100000 in
set_option maxHeartbeats 4000000 in
theorem r200_0  {x1 : Nat}  {M : dsMem} {Q : bQT} (k1 : (¬ ((M 84 12) = 0)) → bB 200 39 [uR 11 84, uX (x1 + 2), uI 0, uI 0] [] M Q) (k2 : (((M 84 12) = 0)) → (¬ (M 84 10) = 1) → bB 200 39 [uR 11 84, uX (x1 + 2), uI 0, uI 0] [] M Q) (s1 : (((M 84 12) = 0)) → ((M 84 10) = 1) → x1 < 15 := by intros; omega) (s2 : (((M 84 12) = 0)) → ((M 84 10) = 1) → -2147483648 ≤ ((M 84 8) - (M 84 9)) ∧ ((M 84 8) - (M 84 9)) < 2147483648 := by intros; omega) (k3 : (((M 84 12) = 0)) → ((M 84 10) = 1) → (¬ ((M 84 8) - (M 84 9)) = (dsLen x1)) → bB 200 39 [uR 11 84, uX (x1 + 2), uI 0, uI 0] [] M Q) (k4 : (((M 84 12) = 0)) → ((M 84 10) = 1) → (((M 84 8) - (M 84 9)) = (dsLen x1)) → bB 200 39 [uR 11 84, uX (x1 + 2), uI 1, uI 0] [] M Q) :
    bB 200 0 [uR 11 84, uX (x1 + 2), uX 0, uX 0] [] M Q := by
  refine b_aload_n (d200 (j := 0) rfl) rfl ?_
  refine b_callV (d200 (j := 1) rfl) rfl rfl (Or.inl rfl) rfl (bCk_mk (n := 0) (k := 1) (by decide +kernel) rfl rfl) (pu198  ?_)
  refine b_stk [uI (if ((M 84 12) = 0) then 1 else 0)] rfl ?_
  refine b_ifeqP (d200 (j := 2) rfl) (fun c1 => ?_) (fun c1 => ?_)
  ·
    refine b_iconst (d200 (j := 17) rfl) (by decide) ?_
    refine b_istore_n [uR 11 84, uX (x1 + 2), uI 0, uX 0] (d200 (j := 18) rfl) (by decide) rfl ?_
    refine b_iconst (d200 (j := 19) rfl) (by decide) ?_
    refine b_istore_n [uR 11 84, uX (x1 + 2), uI 0, uI 0] (d200 (j := 20) rfl) (by decide) rfl ?_
    exact (k1 c1)
  ·
    refine b_aload_n (d200 (j := 3) rfl) rfl ?_
    refine b_getI (d200 (j := 4) rfl) rfl rfl rfl rfl (Or.inl rfl) ?_
    refine b_stk [uI (M 84 10)] rfl ?_
    refine b_iconst (d200 (j := 5) rfl) (by decide) ?_
    refine b_icmp_ne (d200 (j := 6) rfl) (fun c2 => ?_) (fun c2 => ?_)
    ·
      refine b_iconst (d200 (j := 17) rfl) (by decide) ?_
      refine b_istore_n [uR 11 84, uX (x1 + 2), uI 0, uX 0] (d200 (j := 18) rfl) (by decide) rfl ?_
      refine b_iconst (d200 (j := 19) rfl) (by decide) ?_
      refine b_istore_n [uR 11 84, uX (x1 + 2), uI 0, uI 0] (d200 (j := 20) rfl) (by decide) rfl ?_
      exact (k2 c1 c2)
    ·
      refine b_aload_n (d200 (j := 7) rfl) rfl ?_
      refine b_getI (d200 (j := 8) rfl) rfl rfl rfl rfl (Or.inl rfl) ?_
      refine b_stk [uI (M 84 8)] rfl ?_
      refine b_aload_n (d200 (j := 9) rfl) rfl ?_
      refine b_getI (d200 (j := 10) rfl) rfl rfl rfl rfl (Or.inl rfl) ?_
      refine b_stk [uI (M 84 9), uI (M 84 8)] rfl ?_
      refine b_isub (d200 (j := 11) rfl) rfl rfl ?_
      refine b_aload_nX (d200 (j := 12) rfl) rfl ?_
      refine b_slen (d200 (j := 13) rfl) rfl ⟨by decide, Nat.le_of_ble_eq_true rfl⟩ (s1 c1 c2) ?_
      refine b_stk [uI (dsLen x1), uI ((M 84 8) - (M 84 9))] (by rw [dsw_r (s2 c1 c2)]) ?_
      refine b_icmp_ne (d200 (j := 14) rfl) (fun c3 => ?_) (fun c3 => ?_)
      ·
        refine b_iconst (d200 (j := 17) rfl) (by decide) ?_
        refine b_istore_n [uR 11 84, uX (x1 + 2), uI 0, uX 0] (d200 (j := 18) rfl) (by decide) rfl ?_
        refine b_iconst (d200 (j := 19) rfl) (by decide) ?_
        refine b_istore_n [uR 11 84, uX (x1 + 2), uI 0, uI 0] (d200 (j := 20) rfl) (by decide) rfl ?_
        exact (k3 c1 c2 c3)
      ·
        refine b_iconst (d200 (j := 15) rfl) (by decide) ?_
        refine b_goto (d200 (j := 16) rfl) ?_
        refine b_istore_n [uR 11 84, uX (x1 + 2), uI 1, uX 0] (d200 (j := 18) rfl) (by decide) rfl ?_
        refine b_iconst (d200 (j := 19) rfl) (by decide) ?_
        refine b_istore_n [uR 11 84, uX (x1 + 2), uI 1, uI 0] (d200 (j := 20) rfl) (by decide) rfl ?_
        exact (k4 c1 c2 c3)
set_option maxRecDepth 100000 in
set_option maxHeartbeats 4000000 in
theorem r200_39 {x2 x3 : Int} {x1 : Nat}  {M : dsMem} {Q : bQT} (s1 : x1 < 15 := by intros; omega) (k1 : ((dsLen x1) ≤ x3) → Q [uI x2] M) (s2 : ((dsLen x1) ≤ x3) → x2 = 0 ∨ x2 = 1 := by intros; omega) (k2 : (¬ (dsLen x1) ≤ x3) → (x2 = 0) → Q [uI x2] M) (s3 : (¬ (dsLen x1) ≤ x3) → (x2 = 0) → x2 = 0 ∨ x2 = 1 := by intros; omega) (s4 : (¬ (dsLen x1) ≤ x3) → (¬ x2 = 0) → 0 ≤ ((M 84 9) + x3) ∧ ((M 84 9) + x3) < 600 := by intros; omega) (s5 : (¬ (dsLen x1) ≤ x3) → (¬ x2 = 0) → x1 < 15 ∧ 0 ≤ x3 ∧ x3 < dsLen x1 := by intros; omega) (s6 : (¬ (dsLen x1) ≤ x3) → (¬ x2 = 0) → (¬ (M 88 ((M 84 9) + x3)) = (dsChr x1 x3)) → -2147483648 ≤ x3 + 1 ∧ x3 + 1 < 2147483648 := by intros; omega) (k3 : (¬ (dsLen x1) ≤ x3) → (¬ x2 = 0) → (¬ (M 88 ((M 84 9) + x3)) = (dsChr x1 x3)) → bB 200 39 [uR 11 84, uX (x1 + 2), uI 0, uI (x3 + 1)] [] M Q) (s7 : (¬ (dsLen x1) ≤ x3) → (¬ x2 = 0) → ((M 88 ((M 84 9) + x3)) = (dsChr x1 x3)) → -2147483648 ≤ x3 + 1 ∧ x3 + 1 < 2147483648 := by intros; omega) (k4 : (¬ (dsLen x1) ≤ x3) → (¬ x2 = 0) → ((M 88 ((M 84 9) + x3)) = (dsChr x1 x3)) → bB 200 39 [uR 11 84, uX (x1 + 2), uI 1, uI (x3 + 1)] [] M Q) :
    bB 200 39 [uR 11 84, uX (x1 + 2), uI x2, uI x3] [] M Q := by
  refine b_iload_n (d200 (j := 21) rfl) rfl ?_
  refine b_aload_nX (d200 (j := 22) rfl) rfl ?_
  refine b_slen (d200 (j := 23) rfl) rfl ⟨by decide, Nat.le_of_ble_eq_true rfl⟩ s1 ?_
  refine b_icmp_ge (d200 (j := 24) rfl) (fun c1 => ?_) (fun c1 => ?_)
  ·
    refine b_iload_n (d200 (j := 44) rfl) rfl ?_
    exact b_zret (d200 (j := 45) rfl) rfl (s2 c1) (k1 c1)
  ·
    refine b_iload_n (d200 (j := 25) rfl) rfl ?_
    refine b_if_eq (d200 (j := 26) rfl) (fun c2 => ?_) (fun c2 => ?_)
    ·
      refine b_iload_n (d200 (j := 44) rfl) rfl ?_
      exact b_zret (d200 (j := 45) rfl) rfl (s3 c1 c2) (k2 c1 c2)
    ·
      refine b_aload_n (d200 (j := 27) rfl) rfl ?_
      refine b_getR (d200 (j := 28) rfl) rfl rfl rfl rfl ?_
      refine b_stk [uR 29 88] rfl ?_
      refine b_aload_n (d200 (j := 29) rfl) rfl ?_
      refine b_getI (d200 (j := 30) rfl) rfl rfl rfl rfl (Or.inl rfl) ?_
      refine b_stk [uI (M 84 9), uR 29 88] rfl ?_
      refine b_iload_n (d200 (j := 31) rfl) rfl ?_
      refine b_iadd (d200 (j := 32) rfl) rfl rfl ?_
      refine b_stk [uI ((M 84 9) + x3), uR 29 88] (by rw [dsw_b (s4 c1 c2) (by decide)]) ?_
      refine b_baload (d200 (j := 33) rfl) (Or.inl rfl) (s4 c1 c2) ?_
      refine b_aload_nX (d200 (j := 34) rfl) rfl ?_
      refine b_iload_n (d200 (j := 35) rfl) rfl ?_
      refine b_schr (d200 (j := 36) rfl) rfl ⟨by decide, Nat.le_of_ble_eq_true rfl⟩ (s5 c1 c2) ?_
      refine b_icmp_ne (d200 (j := 37) rfl) (fun c3 => ?_) (fun c3 => ?_)
      ·
        refine b_iconst (d200 (j := 40) rfl) (by decide) ?_
        refine b_istore_n [uR 11 84, uX (x1 + 2), uI 0, uI x3] (d200 (j := 41) rfl) (by decide) rfl ?_
        refine b_iinc [uR 11 84, uX (x1 + 2), uI 0, uI (x3 + 1)] (d200 (j := 42) rfl) rfl (by decide) (s6 c1 c2 c3) rfl ?_
        refine b_goto (d200 (j := 43) rfl) ?_
        exact (k3 c1 c2 c3)
      ·
        refine b_iconst (d200 (j := 38) rfl) (by decide) ?_
        refine b_goto (d200 (j := 39) rfl) ?_
        refine b_istore_n [uR 11 84, uX (x1 + 2), uI 1, uI x3] (d200 (j := 41) rfl) (by decide) rfl ?_
        refine b_iinc [uR 11 84, uX (x1 + 2), uI 1, uI (x3 + 1)] (d200 (j := 42) rfl) rfl (by decide) (s7 c1 c2 c3) rfl ?_
        refine b_goto (d200 (j := 43) rfl) ?_
        exact (k4 c1 c2 c3)
def L201 : List (Nat × Instr × Nat × Nat) := [(0, .aload_n 0, 1, 0), (1, .aload_n 1, 2, 0), (2, .invokevirtual 187, 5, 0), (5, .istore_n 2, 6, 0), (6, .iload_n 2, 7, 0), (7, .ifCond .eq 7, 10, 14), (10, .aload_n 0, 11, 0), (11, .invokevirtual 191, 14, 0), (14, .iload_n 2, 15, 0), (15, .ireturn, 16, 0)]
set_option maxRecDepth 100000 in
theorem L201_ok : L201.all (dck 201) = true := by decide +kernel
theorem d201 {j pc nx tg : Nat} {ins : Instr} (hj : L201[j]? = some (pc, ins, nx, tg)) : dcd 201 pc ins nx tg := dcl_ok L201_ok hj
set_option maxRecDepth 100000 in
set_option maxHeartbeats 4000000 in
theorem r201_0  {x1 : Nat} {R1 : dsMem → Prop} {g1 : dsMem → Int} {R2 : dsMem → dsMem → Prop} {M : dsMem} {Q : bQT} (hA1 : bCt 200 [uR 11 84, uX (x1 + 2), uX 0, uX 0] M (fun M1 => [uI (g1 M1)]) R1) (k1 : ∀ M1 : dsMem, R1 M1 → ((g1 M1) = 0) → Q [uI (g1 M1)] M1) (s1 : ∀ M1 : dsMem, R1 M1 → ((g1 M1) = 0) → (g1 M1) = 0 ∨ (g1 M1) = 1 := by intros; omega) (hA2 : ∀ M1 : dsMem, R1 M1 → (¬ (g1 M1) = 0) → bCt 197 [uR 11 84, uX 0] M1 (fun _ => []) (R2 M1)) (k2 : ∀ M1 : dsMem, R1 M1 → (¬ (g1 M1) = 0) → ∀ M2 : dsMem, R2 M1 M2 → Q [uI (g1 M1)] M2) (s2 : ∀ M1 : dsMem, R1 M1 → (¬ (g1 M1) = 0) → ∀ M2 : dsMem, R2 M1 M2 → (g1 M1) = 0 ∨ (g1 M1) = 1 := by intros; omega) :
    bB 201 0 [uR 11 84, uX (x1 + 2), uX 0] [] M Q := by
  refine b_aload_n (d201 (j := 0) rfl) rfl ?_
  refine b_aload_nX (d201 (j := 1) rfl) rfl ?_
  refine b_callV (d201 (j := 2) rfl) rfl rfl (Or.inl rfl) rfl (bCk_mk (n := 0) (k := 2) (by decide +kernel) rfl rfl) ((hA1) _ (fun M1 hR1 => ?_))
  refine b_stk [uI (g1 M1)] rfl ?_
  refine b_istore_n [uR 11 84, uX (x1 + 2), uI (g1 M1)] (d201 (j := 3) rfl) (by decide) rfl ?_
  refine b_iload_n (d201 (j := 4) rfl) rfl ?_
  refine b_if_eq (d201 (j := 5) rfl) (fun c1 => ?_) (fun c1 => ?_)
  ·
    refine b_iload_n (d201 (j := 8) rfl) rfl ?_
    exact b_zret (d201 (j := 9) rfl) rfl (s1 M1 hR1 c1) (k1 M1 hR1 c1)
  ·
    refine b_aload_n (d201 (j := 6) rfl) rfl ?_
    refine b_callV (d201 (j := 7) rfl) rfl rfl (Or.inl rfl) rfl (bCk_mk (n := 0) (k := 1) (by decide +kernel) rfl rfl) ((hA2 M1 hR1 c1) _ (fun M2 hR2 => ?_))
    refine b_stk [] rfl ?_
    refine b_iload_n (d201 (j := 8) rfl) rfl ?_
    exact b_zret (d201 (j := 9) rfl) rfl (s2 M1 hR1 c1 M2 hR2) (k2 M1 hR1 c1 M2 hR2)
def L202 : List (Nat × Instr × Nat × Nat) := [(0, .aload_n 0, 1, 0), (1, .aload_n 1, 2, 0), (2, .invokevirtual 194, 5, 0), (5, .ifCond .ne 8, 8, 13), (8, .aload_n 0, 9, 0), (9, .iconst 1, 10, 0), (10, .invokevirtual 197, 13, 0), (13, .return_, 14, 0)]
set_option maxRecDepth 100000 in
theorem L202_ok : L202.all (dck 202) = true := by decide +kernel
theorem d202 {j pc nx tg : Nat} {ins : Instr} (hj : L202[j]? = some (pc, ins, nx, tg)) : dcd 202 pc ins nx tg := dcl_ok L202_ok hj
set_option maxRecDepth 100000 in
set_option maxHeartbeats 4000000 in
theorem r202_0  {x1 : Nat} {R1 : dsMem → Prop} {g1 : dsMem → Int} {R2 : dsMem → dsMem → Prop} {M : dsMem} {Q : bQT} (hA1 : bCt 201 [uR 11 84, uX (x1 + 2), uX 0] M (fun M1 => [uI (g1 M1)]) R1) (k1 : ∀ M1 : dsMem, R1 M1 → (¬ (g1 M1) = 0) → Q [] M1) (hA2 : ∀ M1 : dsMem, R1 M1 → ((g1 M1) = 0) → bCt 199 [uR 11 84, uI 1] M1 (fun _ => []) (R2 M1)) (k2 : ∀ M1 : dsMem, R1 M1 → ((g1 M1) = 0) → ∀ M2 : dsMem, R2 M1 M2 → Q [] M2) :
    bB 202 0 [uR 11 84, uX (x1 + 2)] [] M Q := by
  refine b_aload_n (d202 (j := 0) rfl) rfl ?_
  refine b_aload_nX (d202 (j := 1) rfl) rfl ?_
  refine b_callV (d202 (j := 2) rfl) rfl rfl (Or.inl rfl) rfl (bCk_mk (n := 0) (k := 2) (by decide +kernel) rfl rfl) ((hA1) _ (fun M1 hR1 => ?_))
  refine b_stk [uI (g1 M1)] rfl ?_
  refine b_if_ne (d202 (j := 3) rfl) (fun c1 => ?_) (fun c1 => ?_)
  ·
    exact b_vret (d202 (j := 7) rfl) rfl (k1 M1 hR1 c1)
  ·
    refine b_aload_n (d202 (j := 4) rfl) rfl ?_
    refine b_iconst (d202 (j := 5) rfl) (by decide) ?_
    refine b_callV (d202 (j := 6) rfl) rfl rfl (Or.inl rfl) rfl (bCk_mk (n := 0) (k := 2) (by decide +kernel) rfl rfl) ((hA2 M1 hR1 c1) _ (fun M2 hR2 => ?_))
    refine b_stk [] rfl ?_
    exact b_vret (d202 (j := 7) rfl) rfl (k2 M1 hR1 c1 M2 hR2)
def L203 : List (Nat × Instr × Nat × Nat) := [(0, .aload_n 0, 1, 0), (1, .invokevirtual 175, 4, 0), (4, .ifCond .eq 16, 7, 20), (7, .aload_n 0, 8, 0), (8, .getfield 152, 11, 0), (11, .iconst 2, 12, 0), (12, .if_icmp .eq 8, 15, 20), (15, .aload_n 0, 16, 0), (16, .iconst 1, 17, 0), (17, .invokevirtual 197, 20, 0), (20, .aload_n 0, 21, 0), (21, .invokevirtual 175, 24, 0), (24, .ifCond .eq 23, 27, 47), (27, .aload_n 0, 28, 0), (28, .getfield 163, 31, 0), (31, .i2l, 32, 0), (32, .iload_n 1, 33, 0), (33, .i2l, 34, 0), (34, .iload_n 2, 35, 0), (35, .i2l, 36, 0), (36, .invokestatic 112, 39, 0), (39, .ifCond .ne 8, 42, 47), (42, .aload_n 0, 43, 0), (43, .iconst 2, 44, 0), (44, .invokevirtual 197, 47, 0), (47, .aload_n 0, 48, 0), (48, .invokevirtual 175, 51, 0), (51, .ifCond .ne 5, 54, 56), (54, .iconst 0, 55, 0), (55, .ireturn, 56, 0), (56, .aload_n 0, 57, 0), (57, .getfield 163, 60, 0), (60, .istore_n 3, 61, 0), (61, .aload_n 0, 62, 0), (62, .invokevirtual 191, 65, 0), (65, .iload_n 3, 66, 0), (66, .ireturn, 67, 0)]
set_option maxRecDepth 100000 in
theorem L203_ok : L203.all (dck 203) = true := by decide +kernel
theorem d203 {j pc nx tg : Nat} {ins : Instr} (hj : L203[j]? = some (pc, ins, nx, tg)) : dcd 203 pc ins nx tg := dcl_ok L203_ok hj
set_option maxRecDepth 100000 in
set_option maxHeartbeats 4000000 in
theorem r203_0 {x1 x2 : Int} {R1 : dsMem → Prop} {R2 : dsMem → Prop} {R3 : dsMem → Prop} {R4 : dsMem → dsMem → Prop} {R5 : dsMem → Prop} {R6 : dsMem → Prop} {R7 : dsMem → Prop} {R8 : dsMem → dsMem → Prop} {R9 : dsMem → Prop} {R10 : dsMem → dsMem → Prop} {R11 : dsMem → dsMem → Prop} {R12 : dsMem → dsMem → Prop} {R13 : dsMem → dsMem → dsMem → Prop} {M : dsMem} {Q : bQT} (hA1 : (¬ ((M 84 12) = 0)) → (¬ ((M 84 12) = 0)) → (((M 84 12) = 0)) → bCt 197 [uR 11 84, uX 0] M (fun _ => []) R1) (k1 : (¬ ((M 84 12) = 0)) → (¬ ((M 84 12) = 0)) → (((M 84 12) = 0)) → ∀ M1 : dsMem, R1 M1 → Q [uI (M 84 11)] M1) (k2 : (¬ ((M 84 12) = 0)) → (¬ ((M 84 12) = 0)) → (¬ ((M 84 12) = 0)) → Q [uI 0] M) (hA2 : (¬ ((M 84 12) = 0)) → (((M 84 12) = 0)) → ((x1 ≤ (M 84 11) ∧ (M 84 11) ≤ x2)) → (((M 84 12) = 0)) → bCt 197 [uR 11 84, uX 0] M (fun _ => []) R2) (k3 : (¬ ((M 84 12) = 0)) → (((M 84 12) = 0)) → ((x1 ≤ (M 84 11) ∧ (M 84 11) ≤ x2)) → (((M 84 12) = 0)) → ∀ M2 : dsMem, R2 M2 → Q [uI (M 84 11)] M2) (k4 : (¬ ((M 84 12) = 0)) → (((M 84 12) = 0)) → ((x1 ≤ (M 84 11) ∧ (M 84 11) ≤ x2)) → (¬ ((M 84 12) = 0)) → Q [uI 0] M) (hA3 : (¬ ((M 84 12) = 0)) → (((M 84 12) = 0)) → (¬ (x1 ≤ (M 84 11) ∧ (M 84 11) ≤ x2)) → bCt 199 [uR 11 84, uI 2] M (fun _ => []) R3) (hA4 : (¬ ((M 84 12) = 0)) → (((M 84 12) = 0)) → (¬ (x1 ≤ (M 84 11) ∧ (M 84 11) ≤ x2)) → ∀ M3 : dsMem, R3 M3 → (((M3 84 12) = 0)) → bCt 197 [uR 11 84, uX 0] M3 (fun _ => []) (R4 M3)) (k5 : (¬ ((M 84 12) = 0)) → (((M 84 12) = 0)) → (¬ (x1 ≤ (M 84 11) ∧ (M 84 11) ≤ x2)) → ∀ M3 : dsMem, R3 M3 → (((M3 84 12) = 0)) → ∀ M4 : dsMem, R4 M3 M4 → Q [uI (M3 84 11)] M4) (k6 : (¬ ((M 84 12) = 0)) → (((M 84 12) = 0)) → (¬ (x1 ≤ (M 84 11) ∧ (M 84 11) ≤ x2)) → ∀ M3 : dsMem, R3 M3 → (¬ ((M3 84 12) = 0)) → Q [uI 0] M3) (hA5 : (((M 84 12) = 0)) → ((M 84 10) = 2) → (¬ ((M 84 12) = 0)) → (((M 84 12) = 0)) → bCt 197 [uR 11 84, uX 0] M (fun _ => []) R5) (k7 : (((M 84 12) = 0)) → ((M 84 10) = 2) → (¬ ((M 84 12) = 0)) → (((M 84 12) = 0)) → ∀ M5 : dsMem, R5 M5 → Q [uI (M 84 11)] M5) (k8 : (((M 84 12) = 0)) → ((M 84 10) = 2) → (¬ ((M 84 12) = 0)) → (¬ ((M 84 12) = 0)) → Q [uI 0] M) (hA6 : (((M 84 12) = 0)) → ((M 84 10) = 2) → (((M 84 12) = 0)) → ((x1 ≤ (M 84 11) ∧ (M 84 11) ≤ x2)) → (((M 84 12) = 0)) → bCt 197 [uR 11 84, uX 0] M (fun _ => []) R6) (k9 : (((M 84 12) = 0)) → ((M 84 10) = 2) → (((M 84 12) = 0)) → ((x1 ≤ (M 84 11) ∧ (M 84 11) ≤ x2)) → (((M 84 12) = 0)) → ∀ M6 : dsMem, R6 M6 → Q [uI (M 84 11)] M6) (k10 : (((M 84 12) = 0)) → ((M 84 10) = 2) → (((M 84 12) = 0)) → ((x1 ≤ (M 84 11) ∧ (M 84 11) ≤ x2)) → (¬ ((M 84 12) = 0)) → Q [uI 0] M) (hA7 : (((M 84 12) = 0)) → ((M 84 10) = 2) → (((M 84 12) = 0)) → (¬ (x1 ≤ (M 84 11) ∧ (M 84 11) ≤ x2)) → bCt 199 [uR 11 84, uI 2] M (fun _ => []) R7) (hA8 : (((M 84 12) = 0)) → ((M 84 10) = 2) → (((M 84 12) = 0)) → (¬ (x1 ≤ (M 84 11) ∧ (M 84 11) ≤ x2)) → ∀ M7 : dsMem, R7 M7 → (((M7 84 12) = 0)) → bCt 197 [uR 11 84, uX 0] M7 (fun _ => []) (R8 M7)) (k11 : (((M 84 12) = 0)) → ((M 84 10) = 2) → (((M 84 12) = 0)) → (¬ (x1 ≤ (M 84 11) ∧ (M 84 11) ≤ x2)) → ∀ M7 : dsMem, R7 M7 → (((M7 84 12) = 0)) → ∀ M8 : dsMem, R8 M7 M8 → Q [uI (M7 84 11)] M8) (k12 : (((M 84 12) = 0)) → ((M 84 10) = 2) → (((M 84 12) = 0)) → (¬ (x1 ≤ (M 84 11) ∧ (M 84 11) ≤ x2)) → ∀ M7 : dsMem, R7 M7 → (¬ ((M7 84 12) = 0)) → Q [uI 0] M7) (hA9 : (((M 84 12) = 0)) → (¬ (M 84 10) = 2) → bCt 199 [uR 11 84, uI 1] M (fun _ => []) R9) (hA10 : (((M 84 12) = 0)) → (¬ (M 84 10) = 2) → ∀ M9 : dsMem, R9 M9 → (¬ ((M9 84 12) = 0)) → (((M9 84 12) = 0)) → bCt 197 [uR 11 84, uX 0] M9 (fun _ => []) (R10 M9)) (k13 : (((M 84 12) = 0)) → (¬ (M 84 10) = 2) → ∀ M9 : dsMem, R9 M9 → (¬ ((M9 84 12) = 0)) → (((M9 84 12) = 0)) → ∀ M10 : dsMem, R10 M9 M10 → Q [uI (M9 84 11)] M10) (k14 : (((M 84 12) = 0)) → (¬ (M 84 10) = 2) → ∀ M9 : dsMem, R9 M9 → (¬ ((M9 84 12) = 0)) → (¬ ((M9 84 12) = 0)) → Q [uI 0] M9) (hA11 : (((M 84 12) = 0)) → (¬ (M 84 10) = 2) → ∀ M9 : dsMem, R9 M9 → (((M9 84 12) = 0)) → ((x1 ≤ (M9 84 11) ∧ (M9 84 11) ≤ x2)) → (((M9 84 12) = 0)) → bCt 197 [uR 11 84, uX 0] M9 (fun _ => []) (R11 M9)) (k15 : (((M 84 12) = 0)) → (¬ (M 84 10) = 2) → ∀ M9 : dsMem, R9 M9 → (((M9 84 12) = 0)) → ((x1 ≤ (M9 84 11) ∧ (M9 84 11) ≤ x2)) → (((M9 84 12) = 0)) → ∀ M11 : dsMem, R11 M9 M11 → Q [uI (M9 84 11)] M11) (k16 : (((M 84 12) = 0)) → (¬ (M 84 10) = 2) → ∀ M9 : dsMem, R9 M9 → (((M9 84 12) = 0)) → ((x1 ≤ (M9 84 11) ∧ (M9 84 11) ≤ x2)) → (¬ ((M9 84 12) = 0)) → Q [uI 0] M9) (hA12 : (((M 84 12) = 0)) → (¬ (M 84 10) = 2) → ∀ M9 : dsMem, R9 M9 → (((M9 84 12) = 0)) → (¬ (x1 ≤ (M9 84 11) ∧ (M9 84 11) ≤ x2)) → bCt 199 [uR 11 84, uI 2] M9 (fun _ => []) (R12 M9)) (hA13 : (((M 84 12) = 0)) → (¬ (M 84 10) = 2) → ∀ M9 : dsMem, R9 M9 → (((M9 84 12) = 0)) → (¬ (x1 ≤ (M9 84 11) ∧ (M9 84 11) ≤ x2)) → ∀ M12 : dsMem, R12 M9 M12 → (((M12 84 12) = 0)) → bCt 197 [uR 11 84, uX 0] M12 (fun _ => []) (R13 M9 M12)) (k17 : (((M 84 12) = 0)) → (¬ (M 84 10) = 2) → ∀ M9 : dsMem, R9 M9 → (((M9 84 12) = 0)) → (¬ (x1 ≤ (M9 84 11) ∧ (M9 84 11) ≤ x2)) → ∀ M12 : dsMem, R12 M9 M12 → (((M12 84 12) = 0)) → ∀ M13 : dsMem, R13 M9 M12 M13 → Q [uI (M12 84 11)] M13) (k18 : (((M 84 12) = 0)) → (¬ (M 84 10) = 2) → ∀ M9 : dsMem, R9 M9 → (((M9 84 12) = 0)) → (¬ (x1 ≤ (M9 84 11) ∧ (M9 84 11) ≤ x2)) → ∀ M12 : dsMem, R12 M9 M12 → (¬ ((M12 84 12) = 0)) → Q [uI 0] M12) :
    bB 203 0 [uR 11 84, uI x1, uI x2, uX 0] [] M Q := by
  refine b_aload_n (d203 (j := 0) rfl) rfl ?_
  refine b_callV (d203 (j := 1) rfl) rfl rfl (Or.inl rfl) rfl (bCk_mk (n := 0) (k := 1) (by decide +kernel) rfl rfl) (pu198  ?_)
  refine b_stk [uI (if ((M 84 12) = 0) then 1 else 0)] rfl ?_
  refine b_ifeqP (d203 (j := 2) rfl) (fun c1 => ?_) (fun c1 => ?_)
  ·
    refine b_aload_n (d203 (j := 10) rfl) rfl ?_
    refine b_callV (d203 (j := 11) rfl) rfl rfl (Or.inl rfl) rfl (bCk_mk (n := 0) (k := 1) (by decide +kernel) rfl rfl) (pu198  ?_)
    refine b_stk [uI (if ((M 84 12) = 0) then 1 else 0)] rfl ?_
    refine b_ifeqP (d203 (j := 12) rfl) (fun c2 => ?_) (fun c2 => ?_)
    ·
      refine b_aload_n (d203 (j := 25) rfl) rfl ?_
      refine b_callV (d203 (j := 26) rfl) rfl rfl (Or.inl rfl) rfl (bCk_mk (n := 0) (k := 1) (by decide +kernel) rfl rfl) (pu198  ?_)
      refine b_stk [uI (if ((M 84 12) = 0) then 1 else 0)] rfl ?_
      refine b_ifneP (d203 (j := 27) rfl) (fun c3 => ?_) (fun c3 => ?_)
      ·
        refine b_aload_n (d203 (j := 30) rfl) rfl ?_
        refine b_getI (d203 (j := 31) rfl) rfl rfl rfl rfl (Or.inl rfl) ?_
        refine b_stk [uI (M 84 11)] rfl ?_
        refine b_istore_n [uR 11 84, uI x1, uI x2, uI (M 84 11)] (d203 (j := 32) rfl) (by decide) rfl ?_
        refine b_aload_n (d203 (j := 33) rfl) rfl ?_
        refine b_callV (d203 (j := 34) rfl) rfl rfl (Or.inl rfl) rfl (bCk_mk (n := 0) (k := 1) (by decide +kernel) rfl rfl) ((hA1 c1 c2 c3) _ (fun M1 hR1 => ?_))
        refine b_stk [] rfl ?_
        refine b_iload_n (d203 (j := 35) rfl) rfl ?_
        exact b_iret (d203 (j := 36) rfl) rfl (k1 c1 c2 c3 M1 hR1)
      ·
        refine b_iconst (d203 (j := 28) rfl) (by decide) ?_
        exact b_iret (d203 (j := 29) rfl) rfl (k2 c1 c2 c3)
    ·
      refine b_aload_n (d203 (j := 13) rfl) rfl ?_
      refine b_getI (d203 (j := 14) rfl) rfl rfl rfl rfl (Or.inl rfl) ?_
      refine b_stk [uI (M 84 11)] rfl ?_
      refine b_i2l (d203 (j := 15) rfl) ?_
      refine b_iload_n (d203 (j := 16) rfl) rfl ?_
      refine b_i2l (d203 (j := 17) rfl) ?_
      refine b_iload_n (d203 (j := 18) rfl) rfl ?_
      refine b_i2l (d203 (j := 19) rfl) ?_
      refine b_callS (d203 (j := 20) rfl) (Or.inl rfl) rfl (bCk_mk (n := 0) (k := 6) (by decide +kernel) rfl rfl) (pu177  ?_)
      refine b_stk [uI (if (x1 ≤ (M 84 11) ∧ (M 84 11) ≤ x2) then 1 else 0)] rfl ?_
      refine b_ifneP (d203 (j := 21) rfl) (fun c4 => ?_) (fun c4 => ?_)
      ·
        refine b_aload_n (d203 (j := 25) rfl) rfl ?_
        refine b_callV (d203 (j := 26) rfl) rfl rfl (Or.inl rfl) rfl (bCk_mk (n := 0) (k := 1) (by decide +kernel) rfl rfl) (pu198  ?_)
        refine b_stk [uI (if ((M 84 12) = 0) then 1 else 0)] rfl ?_
        refine b_ifneP (d203 (j := 27) rfl) (fun c5 => ?_) (fun c5 => ?_)
        ·
          refine b_aload_n (d203 (j := 30) rfl) rfl ?_
          refine b_getI (d203 (j := 31) rfl) rfl rfl rfl rfl (Or.inl rfl) ?_
          refine b_stk [uI (M 84 11)] rfl ?_
          refine b_istore_n [uR 11 84, uI x1, uI x2, uI (M 84 11)] (d203 (j := 32) rfl) (by decide) rfl ?_
          refine b_aload_n (d203 (j := 33) rfl) rfl ?_
          refine b_callV (d203 (j := 34) rfl) rfl rfl (Or.inl rfl) rfl (bCk_mk (n := 0) (k := 1) (by decide +kernel) rfl rfl) ((hA2 c1 c2 c4 c5) _ (fun M2 hR2 => ?_))
          refine b_stk [] rfl ?_
          refine b_iload_n (d203 (j := 35) rfl) rfl ?_
          exact b_iret (d203 (j := 36) rfl) rfl (k3 c1 c2 c4 c5 M2 hR2)
        ·
          refine b_iconst (d203 (j := 28) rfl) (by decide) ?_
          exact b_iret (d203 (j := 29) rfl) rfl (k4 c1 c2 c4 c5)
      ·
        refine b_aload_n (d203 (j := 22) rfl) rfl ?_
        refine b_iconst (d203 (j := 23) rfl) (by decide) ?_
        refine b_callV (d203 (j := 24) rfl) rfl rfl (Or.inl rfl) rfl (bCk_mk (n := 0) (k := 2) (by decide +kernel) rfl rfl) ((hA3 c1 c2 c4) _ (fun M3 hR3 => ?_))
        refine b_stk [] rfl ?_
        refine b_aload_n (d203 (j := 25) rfl) rfl ?_
        refine b_callV (d203 (j := 26) rfl) rfl rfl (Or.inl rfl) rfl (bCk_mk (n := 0) (k := 1) (by decide +kernel) rfl rfl) (pu198  ?_)
        refine b_stk [uI (if ((M3 84 12) = 0) then 1 else 0)] rfl ?_
        refine b_ifneP (d203 (j := 27) rfl) (fun c6 => ?_) (fun c6 => ?_)
        ·
          refine b_aload_n (d203 (j := 30) rfl) rfl ?_
          refine b_getI (d203 (j := 31) rfl) rfl rfl rfl rfl (Or.inl rfl) ?_
          refine b_stk [uI (M3 84 11)] rfl ?_
          refine b_istore_n [uR 11 84, uI x1, uI x2, uI (M3 84 11)] (d203 (j := 32) rfl) (by decide) rfl ?_
          refine b_aload_n (d203 (j := 33) rfl) rfl ?_
          refine b_callV (d203 (j := 34) rfl) rfl rfl (Or.inl rfl) rfl (bCk_mk (n := 0) (k := 1) (by decide +kernel) rfl rfl) ((hA4 c1 c2 c4 M3 hR3 c6) _ (fun M4 hR4 => ?_))
          refine b_stk [] rfl ?_
          refine b_iload_n (d203 (j := 35) rfl) rfl ?_
          exact b_iret (d203 (j := 36) rfl) rfl (k5 c1 c2 c4 M3 hR3 c6 M4 hR4)
        ·
          refine b_iconst (d203 (j := 28) rfl) (by decide) ?_
          exact b_iret (d203 (j := 29) rfl) rfl (k6 c1 c2 c4 M3 hR3 c6)
  ·
    refine b_aload_n (d203 (j := 3) rfl) rfl ?_
    refine b_getI (d203 (j := 4) rfl) rfl rfl rfl rfl (Or.inl rfl) ?_
    refine b_stk [uI (M 84 10)] rfl ?_
    refine b_iconst (d203 (j := 5) rfl) (by decide) ?_
    refine b_icmp_eq (d203 (j := 6) rfl) (fun c7 => ?_) (fun c7 => ?_)
    ·
      refine b_aload_n (d203 (j := 10) rfl) rfl ?_
      refine b_callV (d203 (j := 11) rfl) rfl rfl (Or.inl rfl) rfl (bCk_mk (n := 0) (k := 1) (by decide +kernel) rfl rfl) (pu198  ?_)
      refine b_stk [uI (if ((M 84 12) = 0) then 1 else 0)] rfl ?_
      refine b_ifeqP (d203 (j := 12) rfl) (fun c8 => ?_) (fun c8 => ?_)
      ·
        refine b_aload_n (d203 (j := 25) rfl) rfl ?_
        refine b_callV (d203 (j := 26) rfl) rfl rfl (Or.inl rfl) rfl (bCk_mk (n := 0) (k := 1) (by decide +kernel) rfl rfl) (pu198  ?_)
        refine b_stk [uI (if ((M 84 12) = 0) then 1 else 0)] rfl ?_
        refine b_ifneP (d203 (j := 27) rfl) (fun c9 => ?_) (fun c9 => ?_)
        ·
          refine b_aload_n (d203 (j := 30) rfl) rfl ?_
          refine b_getI (d203 (j := 31) rfl) rfl rfl rfl rfl (Or.inl rfl) ?_
          refine b_stk [uI (M 84 11)] rfl ?_
          refine b_istore_n [uR 11 84, uI x1, uI x2, uI (M 84 11)] (d203 (j := 32) rfl) (by decide) rfl ?_
          refine b_aload_n (d203 (j := 33) rfl) rfl ?_
          refine b_callV (d203 (j := 34) rfl) rfl rfl (Or.inl rfl) rfl (bCk_mk (n := 0) (k := 1) (by decide +kernel) rfl rfl) ((hA5 c1 c7 c8 c9) _ (fun M5 hR5 => ?_))
          refine b_stk [] rfl ?_
          refine b_iload_n (d203 (j := 35) rfl) rfl ?_
          exact b_iret (d203 (j := 36) rfl) rfl (k7 c1 c7 c8 c9 M5 hR5)
        ·
          refine b_iconst (d203 (j := 28) rfl) (by decide) ?_
          exact b_iret (d203 (j := 29) rfl) rfl (k8 c1 c7 c8 c9)
      ·
        refine b_aload_n (d203 (j := 13) rfl) rfl ?_
        refine b_getI (d203 (j := 14) rfl) rfl rfl rfl rfl (Or.inl rfl) ?_
        refine b_stk [uI (M 84 11)] rfl ?_
        refine b_i2l (d203 (j := 15) rfl) ?_
        refine b_iload_n (d203 (j := 16) rfl) rfl ?_
        refine b_i2l (d203 (j := 17) rfl) ?_
        refine b_iload_n (d203 (j := 18) rfl) rfl ?_
        refine b_i2l (d203 (j := 19) rfl) ?_
        refine b_callS (d203 (j := 20) rfl) (Or.inl rfl) rfl (bCk_mk (n := 0) (k := 6) (by decide +kernel) rfl rfl) (pu177  ?_)
        refine b_stk [uI (if (x1 ≤ (M 84 11) ∧ (M 84 11) ≤ x2) then 1 else 0)] rfl ?_
        refine b_ifneP (d203 (j := 21) rfl) (fun c10 => ?_) (fun c10 => ?_)
        ·
          refine b_aload_n (d203 (j := 25) rfl) rfl ?_
          refine b_callV (d203 (j := 26) rfl) rfl rfl (Or.inl rfl) rfl (bCk_mk (n := 0) (k := 1) (by decide +kernel) rfl rfl) (pu198  ?_)
          refine b_stk [uI (if ((M 84 12) = 0) then 1 else 0)] rfl ?_
          refine b_ifneP (d203 (j := 27) rfl) (fun c11 => ?_) (fun c11 => ?_)
          ·
            refine b_aload_n (d203 (j := 30) rfl) rfl ?_
            refine b_getI (d203 (j := 31) rfl) rfl rfl rfl rfl (Or.inl rfl) ?_
            refine b_stk [uI (M 84 11)] rfl ?_
            refine b_istore_n [uR 11 84, uI x1, uI x2, uI (M 84 11)] (d203 (j := 32) rfl) (by decide) rfl ?_
            refine b_aload_n (d203 (j := 33) rfl) rfl ?_
            refine b_callV (d203 (j := 34) rfl) rfl rfl (Or.inl rfl) rfl (bCk_mk (n := 0) (k := 1) (by decide +kernel) rfl rfl) ((hA6 c1 c7 c8 c10 c11) _ (fun M6 hR6 => ?_))
            refine b_stk [] rfl ?_
            refine b_iload_n (d203 (j := 35) rfl) rfl ?_
            exact b_iret (d203 (j := 36) rfl) rfl (k9 c1 c7 c8 c10 c11 M6 hR6)
          ·
            refine b_iconst (d203 (j := 28) rfl) (by decide) ?_
            exact b_iret (d203 (j := 29) rfl) rfl (k10 c1 c7 c8 c10 c11)
        ·
          refine b_aload_n (d203 (j := 22) rfl) rfl ?_
          refine b_iconst (d203 (j := 23) rfl) (by decide) ?_
          refine b_callV (d203 (j := 24) rfl) rfl rfl (Or.inl rfl) rfl (bCk_mk (n := 0) (k := 2) (by decide +kernel) rfl rfl) ((hA7 c1 c7 c8 c10) _ (fun M7 hR7 => ?_))
          refine b_stk [] rfl ?_
          refine b_aload_n (d203 (j := 25) rfl) rfl ?_
          refine b_callV (d203 (j := 26) rfl) rfl rfl (Or.inl rfl) rfl (bCk_mk (n := 0) (k := 1) (by decide +kernel) rfl rfl) (pu198  ?_)
          refine b_stk [uI (if ((M7 84 12) = 0) then 1 else 0)] rfl ?_
          refine b_ifneP (d203 (j := 27) rfl) (fun c12 => ?_) (fun c12 => ?_)
          ·
            refine b_aload_n (d203 (j := 30) rfl) rfl ?_
            refine b_getI (d203 (j := 31) rfl) rfl rfl rfl rfl (Or.inl rfl) ?_
            refine b_stk [uI (M7 84 11)] rfl ?_
            refine b_istore_n [uR 11 84, uI x1, uI x2, uI (M7 84 11)] (d203 (j := 32) rfl) (by decide) rfl ?_
            refine b_aload_n (d203 (j := 33) rfl) rfl ?_
            refine b_callV (d203 (j := 34) rfl) rfl rfl (Or.inl rfl) rfl (bCk_mk (n := 0) (k := 1) (by decide +kernel) rfl rfl) ((hA8 c1 c7 c8 c10 M7 hR7 c12) _ (fun M8 hR8 => ?_))
            refine b_stk [] rfl ?_
            refine b_iload_n (d203 (j := 35) rfl) rfl ?_
            exact b_iret (d203 (j := 36) rfl) rfl (k11 c1 c7 c8 c10 M7 hR7 c12 M8 hR8)
          ·
            refine b_iconst (d203 (j := 28) rfl) (by decide) ?_
            exact b_iret (d203 (j := 29) rfl) rfl (k12 c1 c7 c8 c10 M7 hR7 c12)
    ·
      refine b_aload_n (d203 (j := 7) rfl) rfl ?_
      refine b_iconst (d203 (j := 8) rfl) (by decide) ?_
      refine b_callV (d203 (j := 9) rfl) rfl rfl (Or.inl rfl) rfl (bCk_mk (n := 0) (k := 2) (by decide +kernel) rfl rfl) ((hA9 c1 c7) _ (fun M9 hR9 => ?_))
      refine b_stk [] rfl ?_
      refine b_aload_n (d203 (j := 10) rfl) rfl ?_
      refine b_callV (d203 (j := 11) rfl) rfl rfl (Or.inl rfl) rfl (bCk_mk (n := 0) (k := 1) (by decide +kernel) rfl rfl) (pu198  ?_)
      refine b_stk [uI (if ((M9 84 12) = 0) then 1 else 0)] rfl ?_
      refine b_ifeqP (d203 (j := 12) rfl) (fun c13 => ?_) (fun c13 => ?_)
      ·
        refine b_aload_n (d203 (j := 25) rfl) rfl ?_
        refine b_callV (d203 (j := 26) rfl) rfl rfl (Or.inl rfl) rfl (bCk_mk (n := 0) (k := 1) (by decide +kernel) rfl rfl) (pu198  ?_)
        refine b_stk [uI (if ((M9 84 12) = 0) then 1 else 0)] rfl ?_
        refine b_ifneP (d203 (j := 27) rfl) (fun c14 => ?_) (fun c14 => ?_)
        ·
          refine b_aload_n (d203 (j := 30) rfl) rfl ?_
          refine b_getI (d203 (j := 31) rfl) rfl rfl rfl rfl (Or.inl rfl) ?_
          refine b_stk [uI (M9 84 11)] rfl ?_
          refine b_istore_n [uR 11 84, uI x1, uI x2, uI (M9 84 11)] (d203 (j := 32) rfl) (by decide) rfl ?_
          refine b_aload_n (d203 (j := 33) rfl) rfl ?_
          refine b_callV (d203 (j := 34) rfl) rfl rfl (Or.inl rfl) rfl (bCk_mk (n := 0) (k := 1) (by decide +kernel) rfl rfl) ((hA10 c1 c7 M9 hR9 c13 c14) _ (fun M10 hR10 => ?_))
          refine b_stk [] rfl ?_
          refine b_iload_n (d203 (j := 35) rfl) rfl ?_
          exact b_iret (d203 (j := 36) rfl) rfl (k13 c1 c7 M9 hR9 c13 c14 M10 hR10)
        ·
          refine b_iconst (d203 (j := 28) rfl) (by decide) ?_
          exact b_iret (d203 (j := 29) rfl) rfl (k14 c1 c7 M9 hR9 c13 c14)
      ·
        refine b_aload_n (d203 (j := 13) rfl) rfl ?_
        refine b_getI (d203 (j := 14) rfl) rfl rfl rfl rfl (Or.inl rfl) ?_
        refine b_stk [uI (M9 84 11)] rfl ?_
        refine b_i2l (d203 (j := 15) rfl) ?_
        refine b_iload_n (d203 (j := 16) rfl) rfl ?_
        refine b_i2l (d203 (j := 17) rfl) ?_
        refine b_iload_n (d203 (j := 18) rfl) rfl ?_
        refine b_i2l (d203 (j := 19) rfl) ?_
        refine b_callS (d203 (j := 20) rfl) (Or.inl rfl) rfl (bCk_mk (n := 0) (k := 6) (by decide +kernel) rfl rfl) (pu177  ?_)
        refine b_stk [uI (if (x1 ≤ (M9 84 11) ∧ (M9 84 11) ≤ x2) then 1 else 0)] rfl ?_
        refine b_ifneP (d203 (j := 21) rfl) (fun c15 => ?_) (fun c15 => ?_)
        ·
          refine b_aload_n (d203 (j := 25) rfl) rfl ?_
          refine b_callV (d203 (j := 26) rfl) rfl rfl (Or.inl rfl) rfl (bCk_mk (n := 0) (k := 1) (by decide +kernel) rfl rfl) (pu198  ?_)
          refine b_stk [uI (if ((M9 84 12) = 0) then 1 else 0)] rfl ?_
          refine b_ifneP (d203 (j := 27) rfl) (fun c16 => ?_) (fun c16 => ?_)
          ·
            refine b_aload_n (d203 (j := 30) rfl) rfl ?_
            refine b_getI (d203 (j := 31) rfl) rfl rfl rfl rfl (Or.inl rfl) ?_
            refine b_stk [uI (M9 84 11)] rfl ?_
            refine b_istore_n [uR 11 84, uI x1, uI x2, uI (M9 84 11)] (d203 (j := 32) rfl) (by decide) rfl ?_
            refine b_aload_n (d203 (j := 33) rfl) rfl ?_
            refine b_callV (d203 (j := 34) rfl) rfl rfl (Or.inl rfl) rfl (bCk_mk (n := 0) (k := 1) (by decide +kernel) rfl rfl) ((hA11 c1 c7 M9 hR9 c13 c15 c16) _ (fun M11 hR11 => ?_))
            refine b_stk [] rfl ?_
            refine b_iload_n (d203 (j := 35) rfl) rfl ?_
            exact b_iret (d203 (j := 36) rfl) rfl (k15 c1 c7 M9 hR9 c13 c15 c16 M11 hR11)
          ·
            refine b_iconst (d203 (j := 28) rfl) (by decide) ?_
            exact b_iret (d203 (j := 29) rfl) rfl (k16 c1 c7 M9 hR9 c13 c15 c16)
        ·
          refine b_aload_n (d203 (j := 22) rfl) rfl ?_
          refine b_iconst (d203 (j := 23) rfl) (by decide) ?_
          refine b_callV (d203 (j := 24) rfl) rfl rfl (Or.inl rfl) rfl (bCk_mk (n := 0) (k := 2) (by decide +kernel) rfl rfl) ((hA12 c1 c7 M9 hR9 c13 c15) _ (fun M12 hR12 => ?_))
          refine b_stk [] rfl ?_
          refine b_aload_n (d203 (j := 25) rfl) rfl ?_
          refine b_callV (d203 (j := 26) rfl) rfl rfl (Or.inl rfl) rfl (bCk_mk (n := 0) (k := 1) (by decide +kernel) rfl rfl) (pu198  ?_)
          refine b_stk [uI (if ((M12 84 12) = 0) then 1 else 0)] rfl ?_
          refine b_ifneP (d203 (j := 27) rfl) (fun c17 => ?_) (fun c17 => ?_)
          ·
            refine b_aload_n (d203 (j := 30) rfl) rfl ?_
            refine b_getI (d203 (j := 31) rfl) rfl rfl rfl rfl (Or.inl rfl) ?_
            refine b_stk [uI (M12 84 11)] rfl ?_
            refine b_istore_n [uR 11 84, uI x1, uI x2, uI (M12 84 11)] (d203 (j := 32) rfl) (by decide) rfl ?_
            refine b_aload_n (d203 (j := 33) rfl) rfl ?_
            refine b_callV (d203 (j := 34) rfl) rfl rfl (Or.inl rfl) rfl (bCk_mk (n := 0) (k := 1) (by decide +kernel) rfl rfl) ((hA13 c1 c7 M9 hR9 c13 c15 M12 hR12 c17) _ (fun M13 hR13 => ?_))
            refine b_stk [] rfl ?_
            refine b_iload_n (d203 (j := 35) rfl) rfl ?_
            exact b_iret (d203 (j := 36) rfl) rfl (k17 c1 c7 M9 hR9 c13 c15 M12 hR12 c17 M13 hR13)
          ·
            refine b_iconst (d203 (j := 28) rfl) (by decide) ?_
            exact b_iret (d203 (j := 29) rfl) rfl (k18 c1 c7 M9 hR9 c13 c15 M12 hR12 c17)
def L204 : List (Nat × Instr × Nat × Nat) := [(0, .aload_n 0, 1, 0), (1, .aload_n 1, 2, 0), (2, .invokevirtual 201, 5, 0), (5, .aload_n 0, 6, 0), (6, .iload_n 2, 7, 0), (7, .iload_n 3, 8, 0), (8, .invokevirtual 205, 11, 0), (11, .ireturn, 12, 0)]
set_option maxRecDepth 100000 in
theorem L204_ok : L204.all (dck 204) = true := by decide +kernel
theorem d204 {j pc nx tg : Nat} {ins : Instr} (hj : L204[j]? = some (pc, ins, nx, tg)) : dcd 204 pc ins nx tg := dcl_ok L204_ok hj
set_option maxRecDepth 100000 in
set_option maxHeartbeats 4000000 in
theorem r204_0 {x2 x3 : Int} {x1 : Nat} {R1 : dsMem → Prop} {R2 : dsMem → dsMem → Prop} {g2 : dsMem → dsMem → Int} {M : dsMem} {Q : bQT} (hA1 : bCt 202 [uR 11 84, uX (x1 + 2)] M (fun _ => []) R1) (hA2 : ∀ M1 : dsMem, R1 M1 → bCt 203 [uR 11 84, uI x2, uI x3, uX 0] M1 (fun M2 => [uI (g2 M1 M2)]) (R2 M1)) (k1 : ∀ M1 : dsMem, R1 M1 → ∀ M2 : dsMem, R2 M1 M2 → Q [uI (g2 M1 M2)] M2) :
    bB 204 0 [uR 11 84, uX (x1 + 2), uI x2, uI x3] [] M Q := by
  refine b_aload_n (d204 (j := 0) rfl) rfl ?_
  refine b_aload_nX (d204 (j := 1) rfl) rfl ?_
  refine b_callV (d204 (j := 2) rfl) rfl rfl (Or.inl rfl) rfl (bCk_mk (n := 0) (k := 2) (by decide +kernel) rfl rfl) ((hA1) _ (fun M1 hR1 => ?_))
  refine b_stk [] rfl ?_
  refine b_aload_n (d204 (j := 3) rfl) rfl ?_
  refine b_iload_n (d204 (j := 4) rfl) rfl ?_
  refine b_iload_n (d204 (j := 5) rfl) rfl ?_
  refine b_callV (d204 (j := 6) rfl) rfl rfl (Or.inl rfl) rfl (bCk_mk (n := 0) (k := 3) (by decide +kernel) rfl rfl) ((hA2 M1 hR1) _ (fun M2 hR2 => ?_))
  refine b_stk [uI (g2 M1 M2)] rfl ?_
  exact b_iret (d204 (j := 7) rfl) rfl (k1 M1 hR1 M2 hR2)
def L205 : List (Nat × Instr × Nat × Nat) := [(0, .iload_n 1, 1, 0), (1, .ifCond .ne 10, 4, 11), (4, .aload_n 0, 5, 0), (5, .getfield 172, 8, 0), (8, .goto 16, 11, 24), (11, .iload_n 1, 12, 0), (12, .iconst 1, 13, 0), (13, .if_icmp .ne 10, 16, 23), (16, .aload_n 0, 17, 0), (17, .getfield 27, 20, 0), (20, .goto 4, 23, 24), (23, .iconst (-1), 24, 0), (24, .ireturn, 25, 0)]
set_option maxRecDepth 100000 in
theorem L205_ok : L205.all (dck 205) = true := by decide +kernel
theorem d205 {j pc nx tg : Nat} {ins : Instr} (hj : L205[j]? = some (pc, ins, nx, tg)) : dcd 205 pc ins nx tg := dcl_ok L205_ok hj
set_option maxRecDepth 100000 in
set_option maxHeartbeats 4000000 in
theorem r205_0 {x1 : Int}  {M : dsMem} {Q : bQT} (k1 : (¬ x1 = 0) → (¬ x1 = 1) → Q [uI (-1)] M) (k2 : (¬ x1 = 0) → (x1 = 1) → Q [uI (M 84 13)] M) (k3 : (x1 = 0) → Q [uI (M 84 12)] M) :
    bB 205 0 [uR 11 84, uI x1] [] M Q := by
  refine b_iload_n (d205 (j := 0) rfl) rfl ?_
  refine b_if_ne (d205 (j := 1) rfl) (fun c1 => ?_) (fun c1 => ?_)
  ·
    refine b_iload_n (d205 (j := 5) rfl) rfl ?_
    refine b_iconst (d205 (j := 6) rfl) (by decide) ?_
    refine b_icmp_ne (d205 (j := 7) rfl) (fun c2 => ?_) (fun c2 => ?_)
    ·
      refine b_iconst (d205 (j := 11) rfl) (by decide) ?_
      exact b_iret (d205 (j := 12) rfl) rfl (k1 c1 c2)
    ·
      refine b_aload_n (d205 (j := 8) rfl) rfl ?_
      refine b_getI (d205 (j := 9) rfl) rfl rfl rfl rfl (Or.inl rfl) ?_
      refine b_stk [uI (M 84 13)] rfl ?_
      refine b_goto (d205 (j := 10) rfl) ?_
      exact b_iret (d205 (j := 12) rfl) rfl (k2 c1 c2)
  ·
    refine b_aload_n (d205 (j := 2) rfl) rfl ?_
    refine b_getI (d205 (j := 3) rfl) rfl rfl rfl rfl (Or.inl rfl) ?_
    refine b_stk [uI (M 84 12)] rfl ?_
    refine b_goto (d205 (j := 4) rfl) ?_
    exact b_iret (d205 (j := 12) rfl) rfl (k3 c1)
def L206 : List (Nat × Instr × Nat × Nat) := [(0, .aload_n 0, 1, 0), (1, .ldc 208, 3, 0), (3, .invokevirtual 201, 6, 0), (6, .aload_n 0, 7, 0), (7, .getfield 31, 10, 0), (10, .iconst 0, 11, 0), (11, .aload_n 0, 12, 0), (12, .ldc 210, 14, 0), (14, .iconst 1, 15, 0), (15, .bipush 12, 17, 0), (17, .invokevirtual 211, 20, 0), (20, .iastore, 21, 0), (21, .aload_n 0, 22, 0), (22, .getfield 31, 25, 0), (25, .iconst 1, 26, 0), (26, .aload_n 0, 27, 0), (27, .ldc 215, 29, 0), (29, .iconst 0, 30, 0), (30, .iconst 3, 31, 0), (31, .invokevirtual 211, 34, 0), (34, .iastore, 35, 0), (35, .aload_n 0, 36, 0), (36, .getfield 31, 39, 0), (39, .iconst 2, 40, 0), (40, .aload_n 0, 41, 0), (41, .ldc 217, 43, 0), (43, .iconst 0, 44, 0), (44, .bipush 10, 46, 0), (46, .invokevirtual 211, 49, 0), (49, .iastore, 50, 0), (50, .return_, 51, 0)]
set_option maxRecDepth 100000 in
theorem L206_ok : L206.all (dck 206) = true := by decide +kernel
theorem d206 {j pc nx tg : Nat} {ins : Instr} (hj : L206[j]? = some (pc, ins, nx, tg)) : dcd 206 pc ins nx tg := dcl_ok L206_ok hj
set_option maxRecDepth 100000 in
set_option maxHeartbeats 4000000 in
theorem r206_0  {R1 : dsMem → Prop} {R2 : dsMem → dsMem → Prop} {g2 : dsMem → dsMem → Int} {R3 : dsMem → dsMem → dsMem → Prop} {g3 : dsMem → dsMem → dsMem → Int} {R4 : dsMem → dsMem → dsMem → dsMem → Prop} {g4 : dsMem → dsMem → dsMem → dsMem → Int} {M : dsMem} {Q : bQT} (hA1 : bCt 202 [uR 11 84, uX 2] M (fun _ => []) R1) (hA2 : ∀ M1 : dsMem, R1 M1 → bCt 204 [uR 11 84, uX 3, uI 1, uI 12] M1 (fun M2 => [uI (g2 M1 M2)]) (R2 M1)) (hA3 : ∀ M1 : dsMem, R1 M1 → ∀ M2 : dsMem, R2 M1 M2 → bCt 204 [uR 11 84, uX 4, uI 0, uI 3] (dsSet M2 90 0 (g2 M1 M2)) (fun M3 => [uI (g3 M1 M2 M3)]) (R3 M1 M2)) (hA4 : ∀ M1 : dsMem, R1 M1 → ∀ M2 : dsMem, R2 M1 M2 → ∀ M3 : dsMem, R3 M1 M2 M3 → bCt 204 [uR 11 84, uX 5, uI 0, uI 10] (dsSet M3 90 1 (g3 M1 M2 M3)) (fun M4 => [uI (g4 M1 M2 M3 M4)]) (R4 M1 M2 M3)) (k1 : ∀ M1 : dsMem, R1 M1 → ∀ M2 : dsMem, R2 M1 M2 → ∀ M3 : dsMem, R3 M1 M2 M3 → ∀ M4 : dsMem, R4 M1 M2 M3 M4 → Q [] (dsSet M4 90 2 (g4 M1 M2 M3 M4))) :
    bB 206 0 [uR 11 84] [] M Q := by
  refine b_aload_n (d206 (j := 0) rfl) rfl ?_
  refine b_ldcS (d206 (j := 1) rfl) rfl rfl ?_
  refine b_stk [uX 2, uR 11 84] rfl ?_
  refine b_callV (d206 (j := 2) rfl) rfl rfl (Or.inl rfl) rfl (bCk_mk (n := 0) (k := 2) (by decide +kernel) rfl rfl) ((hA1) _ (fun M1 hR1 => ?_))
  refine b_stk [] rfl ?_
  refine b_aload_n (d206 (j := 3) rfl) rfl ?_
  refine b_getR (d206 (j := 4) rfl) rfl rfl rfl rfl ?_
  refine b_stk [uR 38 90] rfl ?_
  refine b_iconst (d206 (j := 5) rfl) (by decide) ?_
  refine b_aload_n (d206 (j := 6) rfl) rfl ?_
  refine b_ldcS (d206 (j := 7) rfl) rfl rfl ?_
  refine b_stk [uX 3, uR 11 84, uI 0, uR 38 90] rfl ?_
  refine b_iconst (d206 (j := 8) rfl) (by decide) ?_
  refine b_bipush (d206 (j := 9) rfl) (by decide) ?_
  refine b_callV (d206 (j := 10) rfl) rfl rfl (Or.inl rfl) rfl (bCk_mk (n := 2) (k := 4) (by decide +kernel) rfl rfl) ((hA2 M1 hR1) _ (fun M2 hR2 => ?_))
  refine b_stk [uI (g2 M1 M2), uI 0, uR 38 90] rfl ?_
  refine b_iastore (d206 (j := 11) rfl) rfl (by decide) ?_
  refine b_aload_n (d206 (j := 12) rfl) rfl ?_
  refine b_getR (d206 (j := 13) rfl) rfl rfl rfl rfl ?_
  refine b_stk [uR 38 90] rfl ?_
  refine b_iconst (d206 (j := 14) rfl) (by decide) ?_
  refine b_aload_n (d206 (j := 15) rfl) rfl ?_
  refine b_ldcS (d206 (j := 16) rfl) rfl rfl ?_
  refine b_stk [uX 4, uR 11 84, uI 1, uR 38 90] rfl ?_
  refine b_iconst (d206 (j := 17) rfl) (by decide) ?_
  refine b_iconst (d206 (j := 18) rfl) (by decide) ?_
  refine b_callV (d206 (j := 19) rfl) rfl rfl (Or.inl rfl) rfl (bCk_mk (n := 2) (k := 4) (by decide +kernel) rfl rfl) ((hA3 M1 hR1 M2 hR2) _ (fun M3 hR3 => ?_))
  refine b_stk [uI (g3 M1 M2 M3), uI 1, uR 38 90] rfl ?_
  refine b_iastore (d206 (j := 20) rfl) rfl (by decide) ?_
  refine b_aload_n (d206 (j := 21) rfl) rfl ?_
  refine b_getR (d206 (j := 22) rfl) rfl rfl rfl rfl ?_
  refine b_stk [uR 38 90] rfl ?_
  refine b_iconst (d206 (j := 23) rfl) (by decide) ?_
  refine b_aload_n (d206 (j := 24) rfl) rfl ?_
  refine b_ldcS (d206 (j := 25) rfl) rfl rfl ?_
  refine b_stk [uX 5, uR 11 84, uI 2, uR 38 90] rfl ?_
  refine b_iconst (d206 (j := 26) rfl) (by decide) ?_
  refine b_bipush (d206 (j := 27) rfl) (by decide) ?_
  refine b_callV (d206 (j := 28) rfl) rfl rfl (Or.inl rfl) rfl (bCk_mk (n := 2) (k := 4) (by decide +kernel) rfl rfl) ((hA4 M1 hR1 M2 hR2 M3 hR3) _ (fun M4 hR4 => ?_))
  refine b_stk [uI (g4 M1 M2 M3 M4), uI 2, uR 38 90] rfl ?_
  refine b_iastore (d206 (j := 29) rfl) rfl (by decide) ?_
  exact b_vret (d206 (j := 30) rfl) rfl (k1 M1 hR1 M2 hR2 M3 hR3 M4 hR4)
def L207 : List (Nat × Instr × Nat × Nat) := [(0, .bipush 9, 2, 0), (2, .iconst 2, 3, 0), (3, .aload_n 0, 4, 0), (4, .getfield 31, 7, 0), (7, .iconst 3, 8, 0), (8, .iaload, 9, 0), (9, .imul, 10, 0), (10, .iadd, 11, 0), (11, .istore_n 1, 12, 0), (12, .aload_n 0, 13, 0), (13, .getfield 31, 16, 0), (16, .iload_n 1, 17, 0), (17, .aload_n 0, 18, 0), (18, .ldc 219, 20, 0), (20, .iconst 0, 21, 0), (21, .sipush 300, 24, 0), (24, .invokevirtual 211, 27, 0), (27, .iastore, 28, 0), (28, .aload_n 0, 29, 0), (29, .getfield 31, 32, 0), (32, .iload_n 1, 33, 0), (33, .iconst 1, 34, 0), (34, .iadd, 35, 0), (35, .aload_n 0, 36, 0), (36, .ldc 221, 38, 0), (38, .iconst 1, 39, 0), (39, .bipush 60, 41, 0), (41, .invokevirtual 211, 44, 0), (44, .iastore, 45, 0), (45, .aload_n 0, 46, 0), (46, .getfield 31, 49, 0), (49, .iconst 3, 50, 0), (50, .dup2, 51, 0), (51, .iaload, 52, 0), (52, .iconst 1, 53, 0), (53, .iadd, 54, 0), (54, .iastore, 55, 0), (55, .return_, 56, 0)]
set_option maxRecDepth 100000 in
theorem L207_ok : L207.all (dck 207) = true := by decide +kernel
theorem d207 {j pc nx tg : Nat} {ins : Instr} (hj : L207[j]? = some (pc, ins, nx, tg)) : dcd 207 pc ins nx tg := dcl_ok L207_ok hj
set_option maxRecDepth 100000 in
set_option maxHeartbeats 4000000 in
theorem r207_0  {R1 : dsMem → Prop} {g1 : dsMem → Int} {R2 : dsMem → dsMem → Prop} {g2 : dsMem → dsMem → Int} {M : dsMem} {Q : bQT} (s1 : -2147483648 ≤ (9 + (2 * (M 90 3))) ∧ (9 + (2 * (M 90 3))) < 2147483648 := by intros; omega) (hA1 : bCt 204 [uR 11 84, uX 7, uI 0, uI 300] M (fun M1 => [uI (g1 M1)]) R1) (s2 : ∀ M1 : dsMem, R1 M1 → 0 ≤ (9 + (2 * (M 90 3))) ∧ (9 + (2 * (M 90 3))) < 105 := by intros; omega) (hA2 : ∀ M1 : dsMem, R1 M1 → bCt 204 [uR 11 84, uX 8, uI 1, uI 60] (dsSet M1 90 (9 + (2 * (M 90 3))) (g1 M1)) (fun M2 => [uI (g2 M1 M2)]) (R2 M1)) (s3 : ∀ M1 : dsMem, R1 M1 → ∀ M2 : dsMem, R2 M1 M2 → 0 ≤ ((9 + (2 * (M 90 3))) + 1) ∧ ((9 + (2 * (M 90 3))) + 1) < 105 := by intros; omega) (s4 : ∀ M1 : dsMem, R1 M1 → ∀ M2 : dsMem, R2 M1 M2 → -2147483648 ≤ (((dsSet M2 90 ((9 + (2 * (M 90 3))) + 1) (g2 M1 M2)) 90 3) + 1) ∧ (((dsSet M2 90 ((9 + (2 * (M 90 3))) + 1) (g2 M1 M2)) 90 3) + 1) < 2147483648 := by intros; omega) (k1 : ∀ M1 : dsMem, R1 M1 → ∀ M2 : dsMem, R2 M1 M2 → Q [] (dsSet (dsSet M2 90 ((9 + (2 * (M 90 3))) + 1) (g2 M1 M2)) 90 3 (((dsSet M2 90 ((9 + (2 * (M 90 3))) + 1) (g2 M1 M2)) 90 3) + 1))) :
    bB 207 0 [uR 11 84, uX 0] [] M Q := by
  refine b_bipush (d207 (j := 0) rfl) (by decide) ?_
  refine b_iconst (d207 (j := 1) rfl) (by decide) ?_
  refine b_aload_n (d207 (j := 2) rfl) rfl ?_
  refine b_getR (d207 (j := 3) rfl) rfl rfl rfl rfl ?_
  refine b_stk [uR 38 90, uI 2, uI 9] rfl ?_
  refine b_iconst (d207 (j := 4) rfl) (by decide) ?_
  refine b_iaload (d207 (j := 5) rfl) rfl (by decide) ?_
  refine b_imul (d207 (j := 6) rfl) rfl rfl ?_
  refine b_iadd (d207 (j := 7) rfl) rfl (dsw_dsw _) ?_
  refine b_stk [uI (9 + (2 * (M 90 3)))] (by rw [dsw_r s1]) ?_
  refine b_istore_n [uR 11 84, uI (9 + (2 * (M 90 3)))] (d207 (j := 8) rfl) (by decide) rfl ?_
  refine b_aload_n (d207 (j := 9) rfl) rfl ?_
  refine b_getR (d207 (j := 10) rfl) rfl rfl rfl rfl ?_
  refine b_stk [uR 38 90] rfl ?_
  refine b_iload_n (d207 (j := 11) rfl) rfl ?_
  refine b_aload_n (d207 (j := 12) rfl) rfl ?_
  refine b_ldcS (d207 (j := 13) rfl) rfl rfl ?_
  refine b_stk [uX 7, uR 11 84, uI (9 + (2 * (M 90 3))), uR 38 90] rfl ?_
  refine b_iconst (d207 (j := 14) rfl) (by decide) ?_
  refine b_sipush (d207 (j := 15) rfl) (by decide) ?_
  refine b_callV (d207 (j := 16) rfl) rfl rfl (Or.inl rfl) rfl (bCk_mk (n := 2) (k := 4) (by decide +kernel) rfl rfl) ((hA1) _ (fun M1 hR1 => ?_))
  refine b_stk [uI (g1 M1), uI (9 + (2 * (M 90 3))), uR 38 90] rfl ?_
  refine b_iastore (d207 (j := 17) rfl) rfl (s2 M1 hR1) ?_
  refine b_aload_n (d207 (j := 18) rfl) rfl ?_
  refine b_getR (d207 (j := 19) rfl) rfl rfl rfl rfl ?_
  refine b_stk [uR 38 90] rfl ?_
  refine b_iload_n (d207 (j := 20) rfl) rfl ?_
  refine b_iconst (d207 (j := 21) rfl) (by decide) ?_
  refine b_iadd (d207 (j := 22) rfl) rfl rfl ?_
  refine b_aload_n (d207 (j := 23) rfl) rfl ?_
  refine b_ldcS (d207 (j := 24) rfl) rfl rfl ?_
  refine b_stk [uX 8, uR 11 84, uI (dsw (((9 + (2 * (M 90 3))) + 1))), uR 38 90] rfl ?_
  refine b_iconst (d207 (j := 25) rfl) (by decide) ?_
  refine b_bipush (d207 (j := 26) rfl) (by decide) ?_
  refine b_callV (d207 (j := 27) rfl) rfl rfl (Or.inl rfl) rfl (bCk_mk (n := 2) (k := 4) (by decide +kernel) rfl rfl) ((hA2 M1 hR1) _ (fun M2 hR2 => ?_))
  refine b_stk [uI (g2 M1 M2), uI (dsw (((9 + (2 * (M 90 3))) + 1))), uR 38 90] rfl ?_
  refine b_stk [uI (g2 M1 M2), uI ((9 + (2 * (M 90 3))) + 1), uR 38 90] (by rw [dsw_b (s3 M1 hR1 M2 hR2) (by decide)]) ?_
  refine b_iastore (d207 (j := 28) rfl) rfl (s3 M1 hR1 M2 hR2) ?_
  refine b_aload_n (d207 (j := 29) rfl) rfl ?_
  refine b_getR (d207 (j := 30) rfl) rfl rfl rfl rfl ?_
  refine b_stk [uR 38 90] rfl ?_
  refine b_iconst (d207 (j := 31) rfl) (by decide) ?_
  refine b_dup2 (d207 (j := 32) rfl) ?_
  refine b_iaload (d207 (j := 33) rfl) rfl (by decide) ?_
  refine b_iconst (d207 (j := 34) rfl) (by decide) ?_
  refine b_iadd (d207 (j := 35) rfl) rfl rfl ?_
  refine b_stk [uI (((dsSet M2 90 ((9 + (2 * (M 90 3))) + 1) (g2 M1 M2)) 90 3) + 1), uI 3, uR 38 90] (by rw [dsw_r (s4 M1 hR1 M2 hR2)]) ?_
  refine b_iastore (d207 (j := 36) rfl) rfl (by decide) ?_
  exact b_vret (d207 (j := 37) rfl) rfl (k1 M1 hR1 M2 hR2)
def L208 : List (Nat × Instr × Nat × Nat) := [(0, .bipush 15, 2, 0), (2, .iconst 3, 3, 0), (3, .aload_n 0, 4, 0), (4, .getfield 31, 7, 0), (7, .iconst 4, 8, 0), (8, .iaload, 9, 0), (9, .imul, 10, 0), (10, .iadd, 11, 0), (11, .istore_n 1, 12, 0), (12, .aload_n 0, 13, 0), (13, .getfield 31, 16, 0), (16, .iload_n 1, 17, 0), (17, .aload_n 0, 18, 0), (18, .ldc 223, 20, 0), (20, .iconst 1, 21, 0), (21, .bipush 60, 23, 0), (23, .invokevirtual 211, 26, 0), (26, .iastore, 27, 0), (27, .aload_n 0, 28, 0), (28, .getfield 31, 31, 0), (31, .iload_n 1, 32, 0), (32, .iconst 1, 33, 0), (33, .iadd, 34, 0), (34, .aload_n 0, 35, 0), (35, .ldc 225, 37, 0), (37, .iconst 1, 38, 0), (38, .iconst 4, 39, 0), (39, .invokevirtual 211, 42, 0), (42, .iastore, 43, 0), (43, .aload_n 0, 44, 0), (44, .getfield 31, 47, 0), (47, .iload_n 1, 48, 0), (48, .iconst 2, 49, 0), (49, .iadd, 50, 0), (50, .aload_n 0, 51, 0), (51, .ldc 227, 53, 0), (53, .iconst 0, 54, 0), (54, .aload_n 0, 55, 0), (55, .getfield 31, 58, 0), (58, .iconst 3, 59, 0), (59, .iaload, 60, 0), (60, .iconst 1, 61, 0), (61, .isub, 62, 0), (62, .invokevirtual 211, 65, 0), (65, .iastore, 66, 0), (66, .aload_n 0, 67, 0), (67, .getfield 31, 70, 0), (70, .iconst 4, 71, 0), (71, .dup2, 72, 0), (72, .iaload, 73, 0), (73, .iconst 1, 74, 0), (74, .iadd, 75, 0), (75, .iastore, 76, 0), (76, .return_, 77, 0)]
set_option maxRecDepth 100000 in
theorem L208_ok : L208.all (dck 208) = true := by decide +kernel
theorem d208 {j pc nx tg : Nat} {ins : Instr} (hj : L208[j]? = some (pc, ins, nx, tg)) : dcd 208 pc ins nx tg := dcl_ok L208_ok hj
set_option maxRecDepth 100000 in
set_option maxHeartbeats 4000000 in
theorem r208_0  {R1 : dsMem → Prop} {g1 : dsMem → Int} {R2 : dsMem → dsMem → Prop} {g2 : dsMem → dsMem → Int} {R3 : dsMem → dsMem → dsMem → Prop} {g3 : dsMem → dsMem → dsMem → Int} {M : dsMem} {Q : bQT} (s1 : -2147483648 ≤ (15 + (3 * (M 90 4))) ∧ (15 + (3 * (M 90 4))) < 2147483648 := by intros; omega) (hA1 : bCt 204 [uR 11 84, uX 10, uI 1, uI 60] M (fun M1 => [uI (g1 M1)]) R1) (s2 : ∀ M1 : dsMem, R1 M1 → 0 ≤ (15 + (3 * (M 90 4))) ∧ (15 + (3 * (M 90 4))) < 105 := by intros; omega) (hA2 : ∀ M1 : dsMem, R1 M1 → bCt 204 [uR 11 84, uX 11, uI 1, uI 4] (dsSet M1 90 (15 + (3 * (M 90 4))) (g1 M1)) (fun M2 => [uI (g2 M1 M2)]) (R2 M1)) (s3 : ∀ M1 : dsMem, R1 M1 → ∀ M2 : dsMem, R2 M1 M2 → 0 ≤ ((15 + (3 * (M 90 4))) + 1) ∧ ((15 + (3 * (M 90 4))) + 1) < 105 := by intros; omega) (s4 : ∀ M1 : dsMem, R1 M1 → ∀ M2 : dsMem, R2 M1 M2 → -2147483648 ≤ (((dsSet M2 90 ((15 + (3 * (M 90 4))) + 1) (g2 M1 M2)) 90 3) - 1) ∧ (((dsSet M2 90 ((15 + (3 * (M 90 4))) + 1) (g2 M1 M2)) 90 3) - 1) < 2147483648 := by intros; omega) (hA3 : ∀ M1 : dsMem, R1 M1 → ∀ M2 : dsMem, R2 M1 M2 → bCt 204 [uR 11 84, uX 12, uI 0, uI (((dsSet M2 90 ((15 + (3 * (M 90 4))) + 1) (g2 M1 M2)) 90 3) - 1)] (dsSet M2 90 ((15 + (3 * (M 90 4))) + 1) (g2 M1 M2)) (fun M3 => [uI (g3 M1 M2 M3)]) (R3 M1 M2)) (s5 : ∀ M1 : dsMem, R1 M1 → ∀ M2 : dsMem, R2 M1 M2 → ∀ M3 : dsMem, R3 M1 M2 M3 → 0 ≤ ((15 + (3 * (M 90 4))) + 2) ∧ ((15 + (3 * (M 90 4))) + 2) < 105 := by intros; omega) (s6 : ∀ M1 : dsMem, R1 M1 → ∀ M2 : dsMem, R2 M1 M2 → ∀ M3 : dsMem, R3 M1 M2 M3 → -2147483648 ≤ (((dsSet M3 90 ((15 + (3 * (M 90 4))) + 2) (g3 M1 M2 M3)) 90 4) + 1) ∧ (((dsSet M3 90 ((15 + (3 * (M 90 4))) + 2) (g3 M1 M2 M3)) 90 4) + 1) < 2147483648 := by intros; omega) (k1 : ∀ M1 : dsMem, R1 M1 → ∀ M2 : dsMem, R2 M1 M2 → ∀ M3 : dsMem, R3 M1 M2 M3 → Q [] (dsSet (dsSet M3 90 ((15 + (3 * (M 90 4))) + 2) (g3 M1 M2 M3)) 90 4 (((dsSet M3 90 ((15 + (3 * (M 90 4))) + 2) (g3 M1 M2 M3)) 90 4) + 1))) :
    bB 208 0 [uR 11 84, uX 0] [] M Q := by
  refine b_bipush (d208 (j := 0) rfl) (by decide) ?_
  refine b_iconst (d208 (j := 1) rfl) (by decide) ?_
  refine b_aload_n (d208 (j := 2) rfl) rfl ?_
  refine b_getR (d208 (j := 3) rfl) rfl rfl rfl rfl ?_
  refine b_stk [uR 38 90, uI 3, uI 15] rfl ?_
  refine b_iconst (d208 (j := 4) rfl) (by decide) ?_
  refine b_iaload (d208 (j := 5) rfl) rfl (by decide) ?_
  refine b_imul (d208 (j := 6) rfl) rfl rfl ?_
  refine b_iadd (d208 (j := 7) rfl) rfl (dsw_dsw _) ?_
  refine b_stk [uI (15 + (3 * (M 90 4)))] (by rw [dsw_r s1]) ?_
  refine b_istore_n [uR 11 84, uI (15 + (3 * (M 90 4)))] (d208 (j := 8) rfl) (by decide) rfl ?_
  refine b_aload_n (d208 (j := 9) rfl) rfl ?_
  refine b_getR (d208 (j := 10) rfl) rfl rfl rfl rfl ?_
  refine b_stk [uR 38 90] rfl ?_
  refine b_iload_n (d208 (j := 11) rfl) rfl ?_
  refine b_aload_n (d208 (j := 12) rfl) rfl ?_
  refine b_ldcS (d208 (j := 13) rfl) rfl rfl ?_
  refine b_stk [uX 10, uR 11 84, uI (15 + (3 * (M 90 4))), uR 38 90] rfl ?_
  refine b_iconst (d208 (j := 14) rfl) (by decide) ?_
  refine b_bipush (d208 (j := 15) rfl) (by decide) ?_
  refine b_callV (d208 (j := 16) rfl) rfl rfl (Or.inl rfl) rfl (bCk_mk (n := 2) (k := 4) (by decide +kernel) rfl rfl) ((hA1) _ (fun M1 hR1 => ?_))
  refine b_stk [uI (g1 M1), uI (15 + (3 * (M 90 4))), uR 38 90] rfl ?_
  refine b_iastore (d208 (j := 17) rfl) rfl (s2 M1 hR1) ?_
  refine b_aload_n (d208 (j := 18) rfl) rfl ?_
  refine b_getR (d208 (j := 19) rfl) rfl rfl rfl rfl ?_
  refine b_stk [uR 38 90] rfl ?_
  refine b_iload_n (d208 (j := 20) rfl) rfl ?_
  refine b_iconst (d208 (j := 21) rfl) (by decide) ?_
  refine b_iadd (d208 (j := 22) rfl) rfl rfl ?_
  refine b_aload_n (d208 (j := 23) rfl) rfl ?_
  refine b_ldcS (d208 (j := 24) rfl) rfl rfl ?_
  refine b_stk [uX 11, uR 11 84, uI (dsw (((15 + (3 * (M 90 4))) + 1))), uR 38 90] rfl ?_
  refine b_iconst (d208 (j := 25) rfl) (by decide) ?_
  refine b_iconst (d208 (j := 26) rfl) (by decide) ?_
  refine b_callV (d208 (j := 27) rfl) rfl rfl (Or.inl rfl) rfl (bCk_mk (n := 2) (k := 4) (by decide +kernel) rfl rfl) ((hA2 M1 hR1) _ (fun M2 hR2 => ?_))
  refine b_stk [uI (g2 M1 M2), uI (dsw (((15 + (3 * (M 90 4))) + 1))), uR 38 90] rfl ?_
  refine b_stk [uI (g2 M1 M2), uI ((15 + (3 * (M 90 4))) + 1), uR 38 90] (by rw [dsw_b (s3 M1 hR1 M2 hR2) (by decide)]) ?_
  refine b_iastore (d208 (j := 28) rfl) rfl (s3 M1 hR1 M2 hR2) ?_
  refine b_aload_n (d208 (j := 29) rfl) rfl ?_
  refine b_getR (d208 (j := 30) rfl) rfl rfl rfl rfl ?_
  refine b_stk [uR 38 90] rfl ?_
  refine b_iload_n (d208 (j := 31) rfl) rfl ?_
  refine b_iconst (d208 (j := 32) rfl) (by decide) ?_
  refine b_iadd (d208 (j := 33) rfl) rfl rfl ?_
  refine b_aload_n (d208 (j := 34) rfl) rfl ?_
  refine b_ldcS (d208 (j := 35) rfl) rfl rfl ?_
  refine b_stk [uX 12, uR 11 84, uI (dsw (((15 + (3 * (M 90 4))) + 2))), uR 38 90] rfl ?_
  refine b_iconst (d208 (j := 36) rfl) (by decide) ?_
  refine b_aload_n (d208 (j := 37) rfl) rfl ?_
  refine b_getR (d208 (j := 38) rfl) rfl rfl rfl rfl ?_
  refine b_stk [uR 38 90, uI 0, uX 12, uR 11 84, uI (dsw (((15 + (3 * (M 90 4))) + 2))), uR 38 90] rfl ?_
  refine b_iconst (d208 (j := 39) rfl) (by decide) ?_
  refine b_iaload (d208 (j := 40) rfl) rfl (by decide) ?_
  refine b_iconst (d208 (j := 41) rfl) (by decide) ?_
  refine b_isub (d208 (j := 42) rfl) rfl rfl ?_
  refine b_stk [uI (((dsSet M2 90 ((15 + (3 * (M 90 4))) + 1) (g2 M1 M2)) 90 3) - 1), uI 0, uX 12, uR 11 84, uI (dsw (((15 + (3 * (M 90 4))) + 2))), uR 38 90] (by rw [dsw_r (s4 M1 hR1 M2 hR2)]) ?_
  refine b_callV (d208 (j := 43) rfl) rfl rfl (Or.inl rfl) rfl (bCk_mk (n := 2) (k := 4) (by decide +kernel) rfl rfl) ((hA3 M1 hR1 M2 hR2) _ (fun M3 hR3 => ?_))
  refine b_stk [uI (g3 M1 M2 M3), uI (dsw (((15 + (3 * (M 90 4))) + 2))), uR 38 90] rfl ?_
  refine b_stk [uI (g3 M1 M2 M3), uI ((15 + (3 * (M 90 4))) + 2), uR 38 90] (by rw [dsw_b (s5 M1 hR1 M2 hR2 M3 hR3) (by decide)]) ?_
  refine b_iastore (d208 (j := 44) rfl) rfl (s5 M1 hR1 M2 hR2 M3 hR3) ?_
  refine b_aload_n (d208 (j := 45) rfl) rfl ?_
  refine b_getR (d208 (j := 46) rfl) rfl rfl rfl rfl ?_
  refine b_stk [uR 38 90] rfl ?_
  refine b_iconst (d208 (j := 47) rfl) (by decide) ?_
  refine b_dup2 (d208 (j := 48) rfl) ?_
  refine b_iaload (d208 (j := 49) rfl) rfl (by decide) ?_
  refine b_iconst (d208 (j := 50) rfl) (by decide) ?_
  refine b_iadd (d208 (j := 51) rfl) rfl rfl ?_
  refine b_stk [uI (((dsSet M3 90 ((15 + (3 * (M 90 4))) + 2) (g3 M1 M2 M3)) 90 4) + 1), uI 4, uR 38 90] (by rw [dsw_r (s6 M1 hR1 M2 hR2 M3 hR3)]) ?_
  refine b_iastore (d208 (j := 52) rfl) rfl (by decide) ?_
  exact b_vret (d208 (j := 53) rfl) rfl (k1 M1 hR1 M2 hR2 M3 hR3)
def L209 : List (Nat × Instr × Nat × Nat) := [(0, .bipush 33, 2, 0), (2, .iconst 3, 3, 0), (3, .aload_n 0, 4, 0), (4, .getfield 31, 7, 0), (7, .iconst 5, 8, 0), (8, .iaload, 9, 0), (9, .imul, 10, 0), (10, .iadd, 11, 0), (11, .istore_n 1, 12, 0), (12, .aload_n 0, 13, 0), (13, .getfield 31, 16, 0), (16, .iload_n 1, 17, 0), (17, .aload_n 0, 18, 0), (18, .iconst 1, 19, 0), (19, .bipush 20, 21, 0), (21, .invokevirtual 205, 24, 0), (24, .iastore, 25, 0), (25, .aload_n 0, 26, 0), (26, .getfield 31, 29, 0), (29, .iload_n 1, 30, 0), (30, .iconst 1, 31, 0), (31, .iadd, 32, 0), (32, .aload_n 0, 33, 0), (33, .ldc 229, 35, 0), (35, .iconst 1, 36, 0), (36, .iconst 5, 37, 0), (37, .invokevirtual 211, 40, 0), (40, .iastore, 41, 0), (41, .aload_n 0, 42, 0), (42, .getfield 31, 45, 0), (45, .iload_n 1, 46, 0), (46, .iconst 2, 47, 0), (47, .iadd, 48, 0), (48, .aload_n 0, 49, 0), (49, .ldc 231, 51, 0), (51, .iconst 0, 52, 0), (52, .bipush 11, 54, 0), (54, .invokevirtual 211, 57, 0), (57, .iastore, 58, 0), (58, .aload_n 0, 59, 0), (59, .getfield 31, 62, 0), (62, .iconst 5, 63, 0), (63, .dup2, 64, 0), (64, .iaload, 65, 0), (65, .iconst 1, 66, 0), (66, .iadd, 67, 0), (67, .iastore, 68, 0), (68, .return_, 69, 0)]
set_option maxRecDepth 100000 in
theorem L209_ok : L209.all (dck 209) = true := by decide +kernel
theorem d209 {j pc nx tg : Nat} {ins : Instr} (hj : L209[j]? = some (pc, ins, nx, tg)) : dcd 209 pc ins nx tg := dcl_ok L209_ok hj
set_option maxRecDepth 100000 in
set_option maxHeartbeats 4000000 in
theorem r209_0  {R1 : dsMem → Prop} {g1 : dsMem → Int} {R2 : dsMem → dsMem → Prop} {g2 : dsMem → dsMem → Int} {R3 : dsMem → dsMem → dsMem → Prop} {g3 : dsMem → dsMem → dsMem → Int} {M : dsMem} {Q : bQT} (s1 : -2147483648 ≤ (33 + (3 * (M 90 5))) ∧ (33 + (3 * (M 90 5))) < 2147483648 := by intros; omega) (hA1 : bCt 203 [uR 11 84, uI 1, uI 20, uX 0] M (fun M1 => [uI (g1 M1)]) R1) (s2 : ∀ M1 : dsMem, R1 M1 → 0 ≤ (33 + (3 * (M 90 5))) ∧ (33 + (3 * (M 90 5))) < 105 := by intros; omega) (hA2 : ∀ M1 : dsMem, R1 M1 → bCt 204 [uR 11 84, uX 14, uI 1, uI 5] (dsSet M1 90 (33 + (3 * (M 90 5))) (g1 M1)) (fun M2 => [uI (g2 M1 M2)]) (R2 M1)) (s3 : ∀ M1 : dsMem, R1 M1 → ∀ M2 : dsMem, R2 M1 M2 → 0 ≤ ((33 + (3 * (M 90 5))) + 1) ∧ ((33 + (3 * (M 90 5))) + 1) < 105 := by intros; omega) (hA3 : ∀ M1 : dsMem, R1 M1 → ∀ M2 : dsMem, R2 M1 M2 → bCt 204 [uR 11 84, uX 15, uI 0, uI 11] (dsSet M2 90 ((33 + (3 * (M 90 5))) + 1) (g2 M1 M2)) (fun M3 => [uI (g3 M1 M2 M3)]) (R3 M1 M2)) (s4 : ∀ M1 : dsMem, R1 M1 → ∀ M2 : dsMem, R2 M1 M2 → ∀ M3 : dsMem, R3 M1 M2 M3 → 0 ≤ ((33 + (3 * (M 90 5))) + 2) ∧ ((33 + (3 * (M 90 5))) + 2) < 105 := by intros; omega) (s5 : ∀ M1 : dsMem, R1 M1 → ∀ M2 : dsMem, R2 M1 M2 → ∀ M3 : dsMem, R3 M1 M2 M3 → -2147483648 ≤ (((dsSet M3 90 ((33 + (3 * (M 90 5))) + 2) (g3 M1 M2 M3)) 90 5) + 1) ∧ (((dsSet M3 90 ((33 + (3 * (M 90 5))) + 2) (g3 M1 M2 M3)) 90 5) + 1) < 2147483648 := by intros; omega) (k1 : ∀ M1 : dsMem, R1 M1 → ∀ M2 : dsMem, R2 M1 M2 → ∀ M3 : dsMem, R3 M1 M2 M3 → Q [] (dsSet (dsSet M3 90 ((33 + (3 * (M 90 5))) + 2) (g3 M1 M2 M3)) 90 5 (((dsSet M3 90 ((33 + (3 * (M 90 5))) + 2) (g3 M1 M2 M3)) 90 5) + 1))) :
    bB 209 0 [uR 11 84, uX 0] [] M Q := by
  refine b_bipush (d209 (j := 0) rfl) (by decide) ?_
  refine b_iconst (d209 (j := 1) rfl) (by decide) ?_
  refine b_aload_n (d209 (j := 2) rfl) rfl ?_
  refine b_getR (d209 (j := 3) rfl) rfl rfl rfl rfl ?_
  refine b_stk [uR 38 90, uI 3, uI 33] rfl ?_
  refine b_iconst (d209 (j := 4) rfl) (by decide) ?_
  refine b_iaload (d209 (j := 5) rfl) rfl (by decide) ?_
  refine b_imul (d209 (j := 6) rfl) rfl rfl ?_
  refine b_iadd (d209 (j := 7) rfl) rfl (dsw_dsw _) ?_
  refine b_stk [uI (33 + (3 * (M 90 5)))] (by rw [dsw_r s1]) ?_
  refine b_istore_n [uR 11 84, uI (33 + (3 * (M 90 5)))] (d209 (j := 8) rfl) (by decide) rfl ?_
  refine b_aload_n (d209 (j := 9) rfl) rfl ?_
  refine b_getR (d209 (j := 10) rfl) rfl rfl rfl rfl ?_
  refine b_stk [uR 38 90] rfl ?_
  refine b_iload_n (d209 (j := 11) rfl) rfl ?_
  refine b_aload_n (d209 (j := 12) rfl) rfl ?_
  refine b_iconst (d209 (j := 13) rfl) (by decide) ?_
  refine b_bipush (d209 (j := 14) rfl) (by decide) ?_
  refine b_callV (d209 (j := 15) rfl) rfl rfl (Or.inl rfl) rfl (bCk_mk (n := 2) (k := 3) (by decide +kernel) rfl rfl) ((hA1) _ (fun M1 hR1 => ?_))
  refine b_stk [uI (g1 M1), uI (33 + (3 * (M 90 5))), uR 38 90] rfl ?_
  refine b_iastore (d209 (j := 16) rfl) rfl (s2 M1 hR1) ?_
  refine b_aload_n (d209 (j := 17) rfl) rfl ?_
  refine b_getR (d209 (j := 18) rfl) rfl rfl rfl rfl ?_
  refine b_stk [uR 38 90] rfl ?_
  refine b_iload_n (d209 (j := 19) rfl) rfl ?_
  refine b_iconst (d209 (j := 20) rfl) (by decide) ?_
  refine b_iadd (d209 (j := 21) rfl) rfl rfl ?_
  refine b_aload_n (d209 (j := 22) rfl) rfl ?_
  refine b_ldcS (d209 (j := 23) rfl) rfl rfl ?_
  refine b_stk [uX 14, uR 11 84, uI (dsw (((33 + (3 * (M 90 5))) + 1))), uR 38 90] rfl ?_
  refine b_iconst (d209 (j := 24) rfl) (by decide) ?_
  refine b_iconst (d209 (j := 25) rfl) (by decide) ?_
  refine b_callV (d209 (j := 26) rfl) rfl rfl (Or.inl rfl) rfl (bCk_mk (n := 2) (k := 4) (by decide +kernel) rfl rfl) ((hA2 M1 hR1) _ (fun M2 hR2 => ?_))
  refine b_stk [uI (g2 M1 M2), uI (dsw (((33 + (3 * (M 90 5))) + 1))), uR 38 90] rfl ?_
  refine b_stk [uI (g2 M1 M2), uI ((33 + (3 * (M 90 5))) + 1), uR 38 90] (by rw [dsw_b (s3 M1 hR1 M2 hR2) (by decide)]) ?_
  refine b_iastore (d209 (j := 27) rfl) rfl (s3 M1 hR1 M2 hR2) ?_
  refine b_aload_n (d209 (j := 28) rfl) rfl ?_
  refine b_getR (d209 (j := 29) rfl) rfl rfl rfl rfl ?_
  refine b_stk [uR 38 90] rfl ?_
  refine b_iload_n (d209 (j := 30) rfl) rfl ?_
  refine b_iconst (d209 (j := 31) rfl) (by decide) ?_
  refine b_iadd (d209 (j := 32) rfl) rfl rfl ?_
  refine b_aload_n (d209 (j := 33) rfl) rfl ?_
  refine b_ldcS (d209 (j := 34) rfl) rfl rfl ?_
  refine b_stk [uX 15, uR 11 84, uI (dsw (((33 + (3 * (M 90 5))) + 2))), uR 38 90] rfl ?_
  refine b_iconst (d209 (j := 35) rfl) (by decide) ?_
  refine b_bipush (d209 (j := 36) rfl) (by decide) ?_
  refine b_callV (d209 (j := 37) rfl) rfl rfl (Or.inl rfl) rfl (bCk_mk (n := 2) (k := 4) (by decide +kernel) rfl rfl) ((hA3 M1 hR1 M2 hR2) _ (fun M3 hR3 => ?_))
  refine b_stk [uI (g3 M1 M2 M3), uI (dsw (((33 + (3 * (M 90 5))) + 2))), uR 38 90] rfl ?_
  refine b_stk [uI (g3 M1 M2 M3), uI ((33 + (3 * (M 90 5))) + 2), uR 38 90] (by rw [dsw_b (s4 M1 hR1 M2 hR2 M3 hR3) (by decide)]) ?_
  refine b_iastore (d209 (j := 38) rfl) rfl (s4 M1 hR1 M2 hR2 M3 hR3) ?_
  refine b_aload_n (d209 (j := 39) rfl) rfl ?_
  refine b_getR (d209 (j := 40) rfl) rfl rfl rfl rfl ?_
  refine b_stk [uR 38 90] rfl ?_
  refine b_iconst (d209 (j := 41) rfl) (by decide) ?_
  refine b_dup2 (d209 (j := 42) rfl) ?_
  refine b_iaload (d209 (j := 43) rfl) rfl (by decide) ?_
  refine b_iconst (d209 (j := 44) rfl) (by decide) ?_
  refine b_iadd (d209 (j := 45) rfl) rfl rfl ?_
  refine b_stk [uI (((dsSet M3 90 ((33 + (3 * (M 90 5))) + 2) (g3 M1 M2 M3)) 90 5) + 1), uI 5, uR 38 90] (by rw [dsw_r (s5 M1 hR1 M2 hR2 M3 hR3)]) ?_
  refine b_iastore (d209 (j := 46) rfl) rfl (by decide) ?_
  exact b_vret (d209 (j := 47) rfl) rfl (k1 M1 hR1 M2 hR2 M3 hR3)
def L210 : List (Nat × Instr × Nat × Nat) := [(0, .bipush 57, 2, 0), (2, .iconst 3, 3, 0), (3, .aload_n 0, 4, 0), (4, .getfield 31, 7, 0), (7, .bipush 6, 9, 0), (9, .iaload, 10, 0), (10, .imul, 11, 0), (11, .iadd, 12, 0), (12, .istore_n 1, 13, 0), (13, .aload_n 0, 14, 0), (14, .getfield 31, 17, 0), (17, .iload_n 1, 18, 0), (18, .aload_n 0, 19, 0), (19, .iconst 0, 20, 0), (20, .aload_n 0, 21, 0), (21, .getfield 31, 24, 0), (24, .iconst 4, 25, 0), (25, .iaload, 26, 0), (26, .iconst 1, 27, 0), (27, .isub, 28, 0), (28, .invokevirtual 205, 31, 0), (31, .iastore, 32, 0), (32, .aload_n 0, 33, 0), (33, .getfield 31, 36, 0), (36, .iload_n 1, 37, 0), (37, .iconst 1, 38, 0), (38, .iadd, 39, 0), (39, .aload_n 0, 40, 0), (40, .iconst 1, 41, 0), (41, .bipush 60, 43, 0), (43, .invokevirtual 205, 46, 0), (46, .iastore, 47, 0), (47, .aload_n 0, 48, 0), (48, .getfield 31, 51, 0), (51, .iload_n 1, 52, 0), (52, .iconst 2, 53, 0), (53, .iadd, 54, 0), (54, .aload_n 0, 55, 0), (55, .ldc 231, 57, 0), (57, .iconst 0, 58, 0), (58, .bipush 11, 60, 0), (60, .invokevirtual 211, 63, 0), (63, .iastore, 64, 0), (64, .aload_n 0, 65, 0), (65, .getfield 31, 68, 0), (68, .bipush 6, 70, 0), (70, .dup2, 71, 0), (71, .iaload, 72, 0), (72, .iconst 1, 73, 0), (73, .iadd, 74, 0), (74, .iastore, 75, 0), (75, .return_, 76, 0)]
set_option maxRecDepth 100000 in
theorem L210_ok : L210.all (dck 210) = true := by decide +kernel
theorem d210 {j pc nx tg : Nat} {ins : Instr} (hj : L210[j]? = some (pc, ins, nx, tg)) : dcd 210 pc ins nx tg := dcl_ok L210_ok hj
set_option maxRecDepth 100000 in
set_option maxHeartbeats 4000000 in
theorem r210_0  {R1 : dsMem → Prop} {g1 : dsMem → Int} {R2 : dsMem → dsMem → Prop} {g2 : dsMem → dsMem → Int} {R3 : dsMem → dsMem → dsMem → Prop} {g3 : dsMem → dsMem → dsMem → Int} {M : dsMem} {Q : bQT} (s1 : -2147483648 ≤ (57 + (3 * (M 90 6))) ∧ (57 + (3 * (M 90 6))) < 2147483648 := by intros; omega) (s2 : -2147483648 ≤ ((M 90 4) - 1) ∧ ((M 90 4) - 1) < 2147483648 := by intros; omega) (hA1 : bCt 203 [uR 11 84, uI 0, uI ((M 90 4) - 1), uX 0] M (fun M1 => [uI (g1 M1)]) R1) (s3 : ∀ M1 : dsMem, R1 M1 → 0 ≤ (57 + (3 * (M 90 6))) ∧ (57 + (3 * (M 90 6))) < 105 := by intros; omega) (hA2 : ∀ M1 : dsMem, R1 M1 → bCt 203 [uR 11 84, uI 1, uI 60, uX 0] (dsSet M1 90 (57 + (3 * (M 90 6))) (g1 M1)) (fun M2 => [uI (g2 M1 M2)]) (R2 M1)) (s4 : ∀ M1 : dsMem, R1 M1 → ∀ M2 : dsMem, R2 M1 M2 → 0 ≤ ((57 + (3 * (M 90 6))) + 1) ∧ ((57 + (3 * (M 90 6))) + 1) < 105 := by intros; omega) (hA3 : ∀ M1 : dsMem, R1 M1 → ∀ M2 : dsMem, R2 M1 M2 → bCt 204 [uR 11 84, uX 15, uI 0, uI 11] (dsSet M2 90 ((57 + (3 * (M 90 6))) + 1) (g2 M1 M2)) (fun M3 => [uI (g3 M1 M2 M3)]) (R3 M1 M2)) (s5 : ∀ M1 : dsMem, R1 M1 → ∀ M2 : dsMem, R2 M1 M2 → ∀ M3 : dsMem, R3 M1 M2 M3 → 0 ≤ ((57 + (3 * (M 90 6))) + 2) ∧ ((57 + (3 * (M 90 6))) + 2) < 105 := by intros; omega) (s6 : ∀ M1 : dsMem, R1 M1 → ∀ M2 : dsMem, R2 M1 M2 → ∀ M3 : dsMem, R3 M1 M2 M3 → -2147483648 ≤ (((dsSet M3 90 ((57 + (3 * (M 90 6))) + 2) (g3 M1 M2 M3)) 90 6) + 1) ∧ (((dsSet M3 90 ((57 + (3 * (M 90 6))) + 2) (g3 M1 M2 M3)) 90 6) + 1) < 2147483648 := by intros; omega) (k1 : ∀ M1 : dsMem, R1 M1 → ∀ M2 : dsMem, R2 M1 M2 → ∀ M3 : dsMem, R3 M1 M2 M3 → Q [] (dsSet (dsSet M3 90 ((57 + (3 * (M 90 6))) + 2) (g3 M1 M2 M3)) 90 6 (((dsSet M3 90 ((57 + (3 * (M 90 6))) + 2) (g3 M1 M2 M3)) 90 6) + 1))) :
    bB 210 0 [uR 11 84, uX 0] [] M Q := by
  refine b_bipush (d210 (j := 0) rfl) (by decide) ?_
  refine b_iconst (d210 (j := 1) rfl) (by decide) ?_
  refine b_aload_n (d210 (j := 2) rfl) rfl ?_
  refine b_getR (d210 (j := 3) rfl) rfl rfl rfl rfl ?_
  refine b_stk [uR 38 90, uI 3, uI 57] rfl ?_
  refine b_bipush (d210 (j := 4) rfl) (by decide) ?_
  refine b_iaload (d210 (j := 5) rfl) rfl (by decide) ?_
  refine b_imul (d210 (j := 6) rfl) rfl rfl ?_
  refine b_iadd (d210 (j := 7) rfl) rfl (dsw_dsw _) ?_
  refine b_stk [uI (57 + (3 * (M 90 6)))] (by rw [dsw_r s1]) ?_
  refine b_istore_n [uR 11 84, uI (57 + (3 * (M 90 6)))] (d210 (j := 8) rfl) (by decide) rfl ?_
  refine b_aload_n (d210 (j := 9) rfl) rfl ?_
  refine b_getR (d210 (j := 10) rfl) rfl rfl rfl rfl ?_
  refine b_stk [uR 38 90] rfl ?_
  refine b_iload_n (d210 (j := 11) rfl) rfl ?_
  refine b_aload_n (d210 (j := 12) rfl) rfl ?_
  refine b_iconst (d210 (j := 13) rfl) (by decide) ?_
  refine b_aload_n (d210 (j := 14) rfl) rfl ?_
  refine b_getR (d210 (j := 15) rfl) rfl rfl rfl rfl ?_
  refine b_stk [uR 38 90, uI 0, uR 11 84, uI (57 + (3 * (M 90 6))), uR 38 90] rfl ?_
  refine b_iconst (d210 (j := 16) rfl) (by decide) ?_
  refine b_iaload (d210 (j := 17) rfl) rfl (by decide) ?_
  refine b_iconst (d210 (j := 18) rfl) (by decide) ?_
  refine b_isub (d210 (j := 19) rfl) rfl rfl ?_
  refine b_stk [uI ((M 90 4) - 1), uI 0, uR 11 84, uI (57 + (3 * (M 90 6))), uR 38 90] (by rw [dsw_r s2]) ?_
  refine b_callV (d210 (j := 20) rfl) rfl rfl (Or.inl rfl) rfl (bCk_mk (n := 2) (k := 3) (by decide +kernel) rfl rfl) ((hA1) _ (fun M1 hR1 => ?_))
  refine b_stk [uI (g1 M1), uI (57 + (3 * (M 90 6))), uR 38 90] rfl ?_
  refine b_iastore (d210 (j := 21) rfl) rfl (s3 M1 hR1) ?_
  refine b_aload_n (d210 (j := 22) rfl) rfl ?_
  refine b_getR (d210 (j := 23) rfl) rfl rfl rfl rfl ?_
  refine b_stk [uR 38 90] rfl ?_
  refine b_iload_n (d210 (j := 24) rfl) rfl ?_
  refine b_iconst (d210 (j := 25) rfl) (by decide) ?_
  refine b_iadd (d210 (j := 26) rfl) rfl rfl ?_
  refine b_aload_n (d210 (j := 27) rfl) rfl ?_
  refine b_iconst (d210 (j := 28) rfl) (by decide) ?_
  refine b_bipush (d210 (j := 29) rfl) (by decide) ?_
  refine b_callV (d210 (j := 30) rfl) rfl rfl (Or.inl rfl) rfl (bCk_mk (n := 2) (k := 3) (by decide +kernel) rfl rfl) ((hA2 M1 hR1) _ (fun M2 hR2 => ?_))
  refine b_stk [uI (g2 M1 M2), uI (dsw (((57 + (3 * (M 90 6))) + 1))), uR 38 90] rfl ?_
  refine b_stk [uI (g2 M1 M2), uI ((57 + (3 * (M 90 6))) + 1), uR 38 90] (by rw [dsw_b (s4 M1 hR1 M2 hR2) (by decide)]) ?_
  refine b_iastore (d210 (j := 31) rfl) rfl (s4 M1 hR1 M2 hR2) ?_
  refine b_aload_n (d210 (j := 32) rfl) rfl ?_
  refine b_getR (d210 (j := 33) rfl) rfl rfl rfl rfl ?_
  refine b_stk [uR 38 90] rfl ?_
  refine b_iload_n (d210 (j := 34) rfl) rfl ?_
  refine b_iconst (d210 (j := 35) rfl) (by decide) ?_
  refine b_iadd (d210 (j := 36) rfl) rfl rfl ?_
  refine b_aload_n (d210 (j := 37) rfl) rfl ?_
  refine b_ldcS (d210 (j := 38) rfl) rfl rfl ?_
  refine b_stk [uX 15, uR 11 84, uI (dsw (((57 + (3 * (M 90 6))) + 2))), uR 38 90] rfl ?_
  refine b_iconst (d210 (j := 39) rfl) (by decide) ?_
  refine b_bipush (d210 (j := 40) rfl) (by decide) ?_
  refine b_callV (d210 (j := 41) rfl) rfl rfl (Or.inl rfl) rfl (bCk_mk (n := 2) (k := 4) (by decide +kernel) rfl rfl) ((hA3 M1 hR1 M2 hR2) _ (fun M3 hR3 => ?_))
  refine b_stk [uI (g3 M1 M2 M3), uI (dsw (((57 + (3 * (M 90 6))) + 2))), uR 38 90] rfl ?_
  refine b_stk [uI (g3 M1 M2 M3), uI ((57 + (3 * (M 90 6))) + 2), uR 38 90] (by rw [dsw_b (s5 M1 hR1 M2 hR2 M3 hR3) (by decide)]) ?_
  refine b_iastore (d210 (j := 42) rfl) rfl (s5 M1 hR1 M2 hR2 M3 hR3) ?_
  refine b_aload_n (d210 (j := 43) rfl) rfl ?_
  refine b_getR (d210 (j := 44) rfl) rfl rfl rfl rfl ?_
  refine b_stk [uR 38 90] rfl ?_
  refine b_bipush (d210 (j := 45) rfl) (by decide) ?_
  refine b_dup2 (d210 (j := 46) rfl) ?_
  refine b_iaload (d210 (j := 47) rfl) rfl (by decide) ?_
  refine b_iconst (d210 (j := 48) rfl) (by decide) ?_
  refine b_iadd (d210 (j := 49) rfl) rfl rfl ?_
  refine b_stk [uI (((dsSet M3 90 ((57 + (3 * (M 90 6))) + 2) (g3 M1 M2 M3)) 90 6) + 1), uI 6, uR 38 90] (by rw [dsw_r (s6 M1 hR1 M2 hR2 M3 hR3)]) ?_
  refine b_iastore (d210 (j := 50) rfl) rfl (by decide) ?_
  exact b_vret (d210 (j := 51) rfl) rfl (k1 M1 hR1 M2 hR2 M3 hR3)
def L211 : List (Nat × Instr × Nat × Nat) := [(0, .aload_n 0, 1, 0), (1, .ldc 232, 3, 0), (3, .invokevirtual 187, 6, 0), (6, .ifCond .eq 13, 9, 19), (9, .aload_n 0, 10, 0), (10, .getfield 31, 13, 0), (13, .iconst 3, 14, 0), (14, .iaload, 15, 0), (15, .iconst 3, 16, 0), (16, .if_icmp .eq 23, 19, 39), (19, .aload_n 0, 20, 0), (20, .ldc 234, 22, 0), (22, .invokevirtual 187, 25, 0), (25, .ifCond .eq 16, 28, 41), (28, .aload_n 0, 29, 0), (29, .getfield 31, 32, 0), (32, .iconst 4, 33, 0), (33, .iaload, 34, 0), (34, .bipush 6, 36, 0), (36, .if_icmp .ne 5, 39, 41), (39, .iconst 1, 40, 0), (40, .ireturn, 41, 0), (41, .aload_n 0, 42, 0), (42, .ldc 236, 44, 0), (44, .invokevirtual 187, 47, 0), (47, .ifCond .eq 14, 50, 61), (50, .aload_n 0, 51, 0), (51, .getfield 31, 54, 0), (54, .iconst 5, 55, 0), (55, .iaload, 56, 0), (56, .bipush 8, 58, 0), (58, .if_icmp .eq 24, 61, 82), (61, .aload_n 0, 62, 0), (62, .ldc 238, 64, 0), (64, .invokevirtual 187, 67, 0), (67, .ifCond .eq 19, 70, 86), (70, .aload_n 0, 71, 0), (71, .getfield 31, 74, 0), (74, .bipush 6, 76, 0), (76, .iaload, 77, 0), (77, .bipush 6, 79, 0), (79, .if_icmp .ne 7, 82, 86), (82, .iconst 1, 83, 0), (83, .goto 4, 86, 87), (86, .iconst 0, 87, 0), (87, .ireturn, 88, 0)]
set_option maxRecDepth 100000 in
theorem L211_ok : L211.all (dck 211) = true := by decide +kernel
theorem d211 {j pc nx tg : Nat} {ins : Instr} (hj : L211[j]? = some (pc, ins, nx, tg)) : dcd 211 pc ins nx tg := dcl_ok L211_ok hj
set_option maxRecDepth 100000 in
set_option maxHeartbeats 4000000 in
theorem r211_0  {R1 : dsMem → Prop} {g1 : dsMem → Int} {R2 : dsMem → dsMem → Prop} {g2 : dsMem → dsMem → Int} {R3 : dsMem → dsMem → dsMem → Prop} {g3 : dsMem → dsMem → dsMem → Int} {R4 : dsMem → dsMem → dsMem → dsMem → Prop} {g4 : dsMem → dsMem → dsMem → dsMem → Int} {R5 : dsMem → dsMem → dsMem → dsMem → Prop} {g5 : dsMem → dsMem → dsMem → dsMem → Int} {R6 : dsMem → dsMem → dsMem → Prop} {g6 : dsMem → dsMem → dsMem → Int} {R7 : dsMem → dsMem → dsMem → dsMem → Prop} {g7 : dsMem → dsMem → dsMem → dsMem → Int} {R8 : dsMem → dsMem → dsMem → dsMem → Prop} {g8 : dsMem → dsMem → dsMem → dsMem → Int} {R9 : dsMem → dsMem → Prop} {g9 : dsMem → dsMem → Int} {R10 : dsMem → dsMem → dsMem → Prop} {g10 : dsMem → dsMem → dsMem → Int} {R11 : dsMem → dsMem → dsMem → dsMem → Prop} {g11 : dsMem → dsMem → dsMem → dsMem → Int} {R12 : dsMem → dsMem → dsMem → dsMem → Prop} {g12 : dsMem → dsMem → dsMem → dsMem → Int} {R13 : dsMem → dsMem → dsMem → Prop} {g13 : dsMem → dsMem → dsMem → Int} {R14 : dsMem → dsMem → dsMem → dsMem → Prop} {g14 : dsMem → dsMem → dsMem → dsMem → Int} {R15 : dsMem → dsMem → dsMem → dsMem → Prop} {g15 : dsMem → dsMem → dsMem → dsMem → Int} {M : dsMem} {Q : bQT} (hA1 : bCt 200 [uR 11 84, uX 6, uX 0, uX 0] M (fun M1 => [uI (g1 M1)]) R1) (hA2 : ∀ M1 : dsMem, R1 M1 → ((g1 M1) = 0) → bCt 200 [uR 11 84, uX 9, uX 0, uX 0] M1 (fun M2 => [uI (g2 M1 M2)]) (R2 M1)) (hA3 : ∀ M1 : dsMem, R1 M1 → ((g1 M1) = 0) → ∀ M2 : dsMem, R2 M1 M2 → ((g2 M1 M2) = 0) → bCt 200 [uR 11 84, uX 13, uX 0, uX 0] M2 (fun M3 => [uI (g3 M1 M2 M3)]) (R3 M1 M2)) (hA4 : ∀ M1 : dsMem, R1 M1 → ((g1 M1) = 0) → ∀ M2 : dsMem, R2 M1 M2 → ((g2 M1 M2) = 0) → ∀ M3 : dsMem, R3 M1 M2 M3 → ((g3 M1 M2 M3) = 0) → bCt 200 [uR 11 84, uX 16, uX 0, uX 0] M3 (fun M4 => [uI (g4 M1 M2 M3 M4)]) (R4 M1 M2 M3)) (k1 : ∀ M1 : dsMem, R1 M1 → ((g1 M1) = 0) → ∀ M2 : dsMem, R2 M1 M2 → ((g2 M1 M2) = 0) → ∀ M3 : dsMem, R3 M1 M2 M3 → ((g3 M1 M2 M3) = 0) → ∀ M4 : dsMem, R4 M1 M2 M3 M4 → ((g4 M1 M2 M3 M4) = 0) → Q [uI 0] M4) (k2 : ∀ M1 : dsMem, R1 M1 → ((g1 M1) = 0) → ∀ M2 : dsMem, R2 M1 M2 → ((g2 M1 M2) = 0) → ∀ M3 : dsMem, R3 M1 M2 M3 → ((g3 M1 M2 M3) = 0) → ∀ M4 : dsMem, R4 M1 M2 M3 M4 → (¬ (g4 M1 M2 M3 M4) = 0) → (¬ (M4 90 6) = 6) → Q [uI 0] M4) (k3 : ∀ M1 : dsMem, R1 M1 → ((g1 M1) = 0) → ∀ M2 : dsMem, R2 M1 M2 → ((g2 M1 M2) = 0) → ∀ M3 : dsMem, R3 M1 M2 M3 → ((g3 M1 M2 M3) = 0) → ∀ M4 : dsMem, R4 M1 M2 M3 M4 → (¬ (g4 M1 M2 M3 M4) = 0) → ((M4 90 6) = 6) → Q [uI 1] M4) (k4 : ∀ M1 : dsMem, R1 M1 → ((g1 M1) = 0) → ∀ M2 : dsMem, R2 M1 M2 → ((g2 M1 M2) = 0) → ∀ M3 : dsMem, R3 M1 M2 M3 → (¬ (g3 M1 M2 M3) = 0) → ((M3 90 5) = 8) → Q [uI 1] M3) (hA5 : ∀ M1 : dsMem, R1 M1 → ((g1 M1) = 0) → ∀ M2 : dsMem, R2 M1 M2 → ((g2 M1 M2) = 0) → ∀ M3 : dsMem, R3 M1 M2 M3 → (¬ (g3 M1 M2 M3) = 0) → (¬ (M3 90 5) = 8) → bCt 200 [uR 11 84, uX 16, uX 0, uX 0] M3 (fun M5 => [uI (g5 M1 M2 M3 M5)]) (R5 M1 M2 M3)) (k5 : ∀ M1 : dsMem, R1 M1 → ((g1 M1) = 0) → ∀ M2 : dsMem, R2 M1 M2 → ((g2 M1 M2) = 0) → ∀ M3 : dsMem, R3 M1 M2 M3 → (¬ (g3 M1 M2 M3) = 0) → (¬ (M3 90 5) = 8) → ∀ M5 : dsMem, R5 M1 M2 M3 M5 → ((g5 M1 M2 M3 M5) = 0) → Q [uI 0] M5) (k6 : ∀ M1 : dsMem, R1 M1 → ((g1 M1) = 0) → ∀ M2 : dsMem, R2 M1 M2 → ((g2 M1 M2) = 0) → ∀ M3 : dsMem, R3 M1 M2 M3 → (¬ (g3 M1 M2 M3) = 0) → (¬ (M3 90 5) = 8) → ∀ M5 : dsMem, R5 M1 M2 M3 M5 → (¬ (g5 M1 M2 M3 M5) = 0) → (¬ (M5 90 6) = 6) → Q [uI 0] M5) (k7 : ∀ M1 : dsMem, R1 M1 → ((g1 M1) = 0) → ∀ M2 : dsMem, R2 M1 M2 → ((g2 M1 M2) = 0) → ∀ M3 : dsMem, R3 M1 M2 M3 → (¬ (g3 M1 M2 M3) = 0) → (¬ (M3 90 5) = 8) → ∀ M5 : dsMem, R5 M1 M2 M3 M5 → (¬ (g5 M1 M2 M3 M5) = 0) → ((M5 90 6) = 6) → Q [uI 1] M5) (hA6 : ∀ M1 : dsMem, R1 M1 → ((g1 M1) = 0) → ∀ M2 : dsMem, R2 M1 M2 → (¬ (g2 M1 M2) = 0) → (¬ (M2 90 4) = 6) → bCt 200 [uR 11 84, uX 13, uX 0, uX 0] M2 (fun M6 => [uI (g6 M1 M2 M6)]) (R6 M1 M2)) (hA7 : ∀ M1 : dsMem, R1 M1 → ((g1 M1) = 0) → ∀ M2 : dsMem, R2 M1 M2 → (¬ (g2 M1 M2) = 0) → (¬ (M2 90 4) = 6) → ∀ M6 : dsMem, R6 M1 M2 M6 → ((g6 M1 M2 M6) = 0) → bCt 200 [uR 11 84, uX 16, uX 0, uX 0] M6 (fun M7 => [uI (g7 M1 M2 M6 M7)]) (R7 M1 M2 M6)) (k8 : ∀ M1 : dsMem, R1 M1 → ((g1 M1) = 0) → ∀ M2 : dsMem, R2 M1 M2 → (¬ (g2 M1 M2) = 0) → (¬ (M2 90 4) = 6) → ∀ M6 : dsMem, R6 M1 M2 M6 → ((g6 M1 M2 M6) = 0) → ∀ M7 : dsMem, R7 M1 M2 M6 M7 → ((g7 M1 M2 M6 M7) = 0) → Q [uI 0] M7) (k9 : ∀ M1 : dsMem, R1 M1 → ((g1 M1) = 0) → ∀ M2 : dsMem, R2 M1 M2 → (¬ (g2 M1 M2) = 0) → (¬ (M2 90 4) = 6) → ∀ M6 : dsMem, R6 M1 M2 M6 → ((g6 M1 M2 M6) = 0) → ∀ M7 : dsMem, R7 M1 M2 M6 M7 → (¬ (g7 M1 M2 M6 M7) = 0) → (¬ (M7 90 6) = 6) → Q [uI 0] M7) (k10 : ∀ M1 : dsMem, R1 M1 → ((g1 M1) = 0) → ∀ M2 : dsMem, R2 M1 M2 → (¬ (g2 M1 M2) = 0) → (¬ (M2 90 4) = 6) → ∀ M6 : dsMem, R6 M1 M2 M6 → ((g6 M1 M2 M6) = 0) → ∀ M7 : dsMem, R7 M1 M2 M6 M7 → (¬ (g7 M1 M2 M6 M7) = 0) → ((M7 90 6) = 6) → Q [uI 1] M7) (k11 : ∀ M1 : dsMem, R1 M1 → ((g1 M1) = 0) → ∀ M2 : dsMem, R2 M1 M2 → (¬ (g2 M1 M2) = 0) → (¬ (M2 90 4) = 6) → ∀ M6 : dsMem, R6 M1 M2 M6 → (¬ (g6 M1 M2 M6) = 0) → ((M6 90 5) = 8) → Q [uI 1] M6) (hA8 : ∀ M1 : dsMem, R1 M1 → ((g1 M1) = 0) → ∀ M2 : dsMem, R2 M1 M2 → (¬ (g2 M1 M2) = 0) → (¬ (M2 90 4) = 6) → ∀ M6 : dsMem, R6 M1 M2 M6 → (¬ (g6 M1 M2 M6) = 0) → (¬ (M6 90 5) = 8) → bCt 200 [uR 11 84, uX 16, uX 0, uX 0] M6 (fun M8 => [uI (g8 M1 M2 M6 M8)]) (R8 M1 M2 M6)) (k12 : ∀ M1 : dsMem, R1 M1 → ((g1 M1) = 0) → ∀ M2 : dsMem, R2 M1 M2 → (¬ (g2 M1 M2) = 0) → (¬ (M2 90 4) = 6) → ∀ M6 : dsMem, R6 M1 M2 M6 → (¬ (g6 M1 M2 M6) = 0) → (¬ (M6 90 5) = 8) → ∀ M8 : dsMem, R8 M1 M2 M6 M8 → ((g8 M1 M2 M6 M8) = 0) → Q [uI 0] M8) (k13 : ∀ M1 : dsMem, R1 M1 → ((g1 M1) = 0) → ∀ M2 : dsMem, R2 M1 M2 → (¬ (g2 M1 M2) = 0) → (¬ (M2 90 4) = 6) → ∀ M6 : dsMem, R6 M1 M2 M6 → (¬ (g6 M1 M2 M6) = 0) → (¬ (M6 90 5) = 8) → ∀ M8 : dsMem, R8 M1 M2 M6 M8 → (¬ (g8 M1 M2 M6 M8) = 0) → (¬ (M8 90 6) = 6) → Q [uI 0] M8) (k14 : ∀ M1 : dsMem, R1 M1 → ((g1 M1) = 0) → ∀ M2 : dsMem, R2 M1 M2 → (¬ (g2 M1 M2) = 0) → (¬ (M2 90 4) = 6) → ∀ M6 : dsMem, R6 M1 M2 M6 → (¬ (g6 M1 M2 M6) = 0) → (¬ (M6 90 5) = 8) → ∀ M8 : dsMem, R8 M1 M2 M6 M8 → (¬ (g8 M1 M2 M6 M8) = 0) → ((M8 90 6) = 6) → Q [uI 1] M8) (k15 : ∀ M1 : dsMem, R1 M1 → ((g1 M1) = 0) → ∀ M2 : dsMem, R2 M1 M2 → (¬ (g2 M1 M2) = 0) → ((M2 90 4) = 6) → Q [uI 1] M2) (k16 : ∀ M1 : dsMem, R1 M1 → (¬ (g1 M1) = 0) → ((M1 90 3) = 3) → Q [uI 1] M1) (hA9 : ∀ M1 : dsMem, R1 M1 → (¬ (g1 M1) = 0) → (¬ (M1 90 3) = 3) → bCt 200 [uR 11 84, uX 9, uX 0, uX 0] M1 (fun M9 => [uI (g9 M1 M9)]) (R9 M1)) (hA10 : ∀ M1 : dsMem, R1 M1 → (¬ (g1 M1) = 0) → (¬ (M1 90 3) = 3) → ∀ M9 : dsMem, R9 M1 M9 → ((g9 M1 M9) = 0) → bCt 200 [uR 11 84, uX 13, uX 0, uX 0] M9 (fun M10 => [uI (g10 M1 M9 M10)]) (R10 M1 M9)) (hA11 : ∀ M1 : dsMem, R1 M1 → (¬ (g1 M1) = 0) → (¬ (M1 90 3) = 3) → ∀ M9 : dsMem, R9 M1 M9 → ((g9 M1 M9) = 0) → ∀ M10 : dsMem, R10 M1 M9 M10 → ((g10 M1 M9 M10) = 0) → bCt 200 [uR 11 84, uX 16, uX 0, uX 0] M10 (fun M11 => [uI (g11 M1 M9 M10 M11)]) (R11 M1 M9 M10)) (k17 : ∀ M1 : dsMem, R1 M1 → (¬ (g1 M1) = 0) → (¬ (M1 90 3) = 3) → ∀ M9 : dsMem, R9 M1 M9 → ((g9 M1 M9) = 0) → ∀ M10 : dsMem, R10 M1 M9 M10 → ((g10 M1 M9 M10) = 0) → ∀ M11 : dsMem, R11 M1 M9 M10 M11 → ((g11 M1 M9 M10 M11) = 0) → Q [uI 0] M11) (k18 : ∀ M1 : dsMem, R1 M1 → (¬ (g1 M1) = 0) → (¬ (M1 90 3) = 3) → ∀ M9 : dsMem, R9 M1 M9 → ((g9 M1 M9) = 0) → ∀ M10 : dsMem, R10 M1 M9 M10 → ((g10 M1 M9 M10) = 0) → ∀ M11 : dsMem, R11 M1 M9 M10 M11 → (¬ (g11 M1 M9 M10 M11) = 0) → (¬ (M11 90 6) = 6) → Q [uI 0] M11) (k19 : ∀ M1 : dsMem, R1 M1 → (¬ (g1 M1) = 0) → (¬ (M1 90 3) = 3) → ∀ M9 : dsMem, R9 M1 M9 → ((g9 M1 M9) = 0) → ∀ M10 : dsMem, R10 M1 M9 M10 → ((g10 M1 M9 M10) = 0) → ∀ M11 : dsMem, R11 M1 M9 M10 M11 → (¬ (g11 M1 M9 M10 M11) = 0) → ((M11 90 6) = 6) → Q [uI 1] M11) (k20 : ∀ M1 : dsMem, R1 M1 → (¬ (g1 M1) = 0) → (¬ (M1 90 3) = 3) → ∀ M9 : dsMem, R9 M1 M9 → ((g9 M1 M9) = 0) → ∀ M10 : dsMem, R10 M1 M9 M10 → (¬ (g10 M1 M9 M10) = 0) → ((M10 90 5) = 8) → Q [uI 1] M10) (hA12 : ∀ M1 : dsMem, R1 M1 → (¬ (g1 M1) = 0) → (¬ (M1 90 3) = 3) → ∀ M9 : dsMem, R9 M1 M9 → ((g9 M1 M9) = 0) → ∀ M10 : dsMem, R10 M1 M9 M10 → (¬ (g10 M1 M9 M10) = 0) → (¬ (M10 90 5) = 8) → bCt 200 [uR 11 84, uX 16, uX 0, uX 0] M10 (fun M12 => [uI (g12 M1 M9 M10 M12)]) (R12 M1 M9 M10)) (k21 : ∀ M1 : dsMem, R1 M1 → (¬ (g1 M1) = 0) → (¬ (M1 90 3) = 3) → ∀ M9 : dsMem, R9 M1 M9 → ((g9 M1 M9) = 0) → ∀ M10 : dsMem, R10 M1 M9 M10 → (¬ (g10 M1 M9 M10) = 0) → (¬ (M10 90 5) = 8) → ∀ M12 : dsMem, R12 M1 M9 M10 M12 → ((g12 M1 M9 M10 M12) = 0) → Q [uI 0] M12) (k22 : ∀ M1 : dsMem, R1 M1 → (¬ (g1 M1) = 0) → (¬ (M1 90 3) = 3) → ∀ M9 : dsMem, R9 M1 M9 → ((g9 M1 M9) = 0) → ∀ M10 : dsMem, R10 M1 M9 M10 → (¬ (g10 M1 M9 M10) = 0) → (¬ (M10 90 5) = 8) → ∀ M12 : dsMem, R12 M1 M9 M10 M12 → (¬ (g12 M1 M9 M10 M12) = 0) → (¬ (M12 90 6) = 6) → Q [uI 0] M12) (k23 : ∀ M1 : dsMem, R1 M1 → (¬ (g1 M1) = 0) → (¬ (M1 90 3) = 3) → ∀ M9 : dsMem, R9 M1 M9 → ((g9 M1 M9) = 0) → ∀ M10 : dsMem, R10 M1 M9 M10 → (¬ (g10 M1 M9 M10) = 0) → (¬ (M10 90 5) = 8) → ∀ M12 : dsMem, R12 M1 M9 M10 M12 → (¬ (g12 M1 M9 M10 M12) = 0) → ((M12 90 6) = 6) → Q [uI 1] M12) (hA13 : ∀ M1 : dsMem, R1 M1 → (¬ (g1 M1) = 0) → (¬ (M1 90 3) = 3) → ∀ M9 : dsMem, R9 M1 M9 → (¬ (g9 M1 M9) = 0) → (¬ (M9 90 4) = 6) → bCt 200 [uR 11 84, uX 13, uX 0, uX 0] M9 (fun M13 => [uI (g13 M1 M9 M13)]) (R13 M1 M9)) (hA14 : ∀ M1 : dsMem, R1 M1 → (¬ (g1 M1) = 0) → (¬ (M1 90 3) = 3) → ∀ M9 : dsMem, R9 M1 M9 → (¬ (g9 M1 M9) = 0) → (¬ (M9 90 4) = 6) → ∀ M13 : dsMem, R13 M1 M9 M13 → ((g13 M1 M9 M13) = 0) → bCt 200 [uR 11 84, uX 16, uX 0, uX 0] M13 (fun M14 => [uI (g14 M1 M9 M13 M14)]) (R14 M1 M9 M13)) (k24 : ∀ M1 : dsMem, R1 M1 → (¬ (g1 M1) = 0) → (¬ (M1 90 3) = 3) → ∀ M9 : dsMem, R9 M1 M9 → (¬ (g9 M1 M9) = 0) → (¬ (M9 90 4) = 6) → ∀ M13 : dsMem, R13 M1 M9 M13 → ((g13 M1 M9 M13) = 0) → ∀ M14 : dsMem, R14 M1 M9 M13 M14 → ((g14 M1 M9 M13 M14) = 0) → Q [uI 0] M14) (k25 : ∀ M1 : dsMem, R1 M1 → (¬ (g1 M1) = 0) → (¬ (M1 90 3) = 3) → ∀ M9 : dsMem, R9 M1 M9 → (¬ (g9 M1 M9) = 0) → (¬ (M9 90 4) = 6) → ∀ M13 : dsMem, R13 M1 M9 M13 → ((g13 M1 M9 M13) = 0) → ∀ M14 : dsMem, R14 M1 M9 M13 M14 → (¬ (g14 M1 M9 M13 M14) = 0) → (¬ (M14 90 6) = 6) → Q [uI 0] M14) (k26 : ∀ M1 : dsMem, R1 M1 → (¬ (g1 M1) = 0) → (¬ (M1 90 3) = 3) → ∀ M9 : dsMem, R9 M1 M9 → (¬ (g9 M1 M9) = 0) → (¬ (M9 90 4) = 6) → ∀ M13 : dsMem, R13 M1 M9 M13 → ((g13 M1 M9 M13) = 0) → ∀ M14 : dsMem, R14 M1 M9 M13 M14 → (¬ (g14 M1 M9 M13 M14) = 0) → ((M14 90 6) = 6) → Q [uI 1] M14) (k27 : ∀ M1 : dsMem, R1 M1 → (¬ (g1 M1) = 0) → (¬ (M1 90 3) = 3) → ∀ M9 : dsMem, R9 M1 M9 → (¬ (g9 M1 M9) = 0) → (¬ (M9 90 4) = 6) → ∀ M13 : dsMem, R13 M1 M9 M13 → (¬ (g13 M1 M9 M13) = 0) → ((M13 90 5) = 8) → Q [uI 1] M13) (hA15 : ∀ M1 : dsMem, R1 M1 → (¬ (g1 M1) = 0) → (¬ (M1 90 3) = 3) → ∀ M9 : dsMem, R9 M1 M9 → (¬ (g9 M1 M9) = 0) → (¬ (M9 90 4) = 6) → ∀ M13 : dsMem, R13 M1 M9 M13 → (¬ (g13 M1 M9 M13) = 0) → (¬ (M13 90 5) = 8) → bCt 200 [uR 11 84, uX 16, uX 0, uX 0] M13 (fun M15 => [uI (g15 M1 M9 M13 M15)]) (R15 M1 M9 M13)) (k28 : ∀ M1 : dsMem, R1 M1 → (¬ (g1 M1) = 0) → (¬ (M1 90 3) = 3) → ∀ M9 : dsMem, R9 M1 M9 → (¬ (g9 M1 M9) = 0) → (¬ (M9 90 4) = 6) → ∀ M13 : dsMem, R13 M1 M9 M13 → (¬ (g13 M1 M9 M13) = 0) → (¬ (M13 90 5) = 8) → ∀ M15 : dsMem, R15 M1 M9 M13 M15 → ((g15 M1 M9 M13 M15) = 0) → Q [uI 0] M15) (k29 : ∀ M1 : dsMem, R1 M1 → (¬ (g1 M1) = 0) → (¬ (M1 90 3) = 3) → ∀ M9 : dsMem, R9 M1 M9 → (¬ (g9 M1 M9) = 0) → (¬ (M9 90 4) = 6) → ∀ M13 : dsMem, R13 M1 M9 M13 → (¬ (g13 M1 M9 M13) = 0) → (¬ (M13 90 5) = 8) → ∀ M15 : dsMem, R15 M1 M9 M13 M15 → (¬ (g15 M1 M9 M13 M15) = 0) → (¬ (M15 90 6) = 6) → Q [uI 0] M15) (k30 : ∀ M1 : dsMem, R1 M1 → (¬ (g1 M1) = 0) → (¬ (M1 90 3) = 3) → ∀ M9 : dsMem, R9 M1 M9 → (¬ (g9 M1 M9) = 0) → (¬ (M9 90 4) = 6) → ∀ M13 : dsMem, R13 M1 M9 M13 → (¬ (g13 M1 M9 M13) = 0) → (¬ (M13 90 5) = 8) → ∀ M15 : dsMem, R15 M1 M9 M13 M15 → (¬ (g15 M1 M9 M13 M15) = 0) → ((M15 90 6) = 6) → Q [uI 1] M15) (k31 : ∀ M1 : dsMem, R1 M1 → (¬ (g1 M1) = 0) → (¬ (M1 90 3) = 3) → ∀ M9 : dsMem, R9 M1 M9 → (¬ (g9 M1 M9) = 0) → ((M9 90 4) = 6) → Q [uI 1] M9) :
    bB 211 0 [uR 11 84] [] M Q := by
  refine b_aload_n (d211 (j := 0) rfl) rfl ?_
  refine b_ldcS (d211 (j := 1) rfl) rfl rfl ?_
  refine b_stk [uX 6, uR 11 84] rfl ?_
  refine b_callV (d211 (j := 2) rfl) rfl rfl (Or.inl rfl) rfl (bCk_mk (n := 0) (k := 2) (by decide +kernel) rfl rfl) ((hA1) _ (fun M1 hR1 => ?_))
  refine b_stk [uI (g1 M1)] rfl ?_
  refine b_if_eq (d211 (j := 3) rfl) (fun c1 => ?_) (fun c1 => ?_)
  ·
    refine b_aload_n (d211 (j := 10) rfl) rfl ?_
    refine b_ldcS (d211 (j := 11) rfl) rfl rfl ?_
    refine b_stk [uX 9, uR 11 84] rfl ?_
    refine b_callV (d211 (j := 12) rfl) rfl rfl (Or.inl rfl) rfl (bCk_mk (n := 0) (k := 2) (by decide +kernel) rfl rfl) ((hA2 M1 hR1 c1) _ (fun M2 hR2 => ?_))
    refine b_stk [uI (g2 M1 M2)] rfl ?_
    refine b_if_eq (d211 (j := 13) rfl) (fun c2 => ?_) (fun c2 => ?_)
    ·
      refine b_aload_n (d211 (j := 22) rfl) rfl ?_
      refine b_ldcS (d211 (j := 23) rfl) rfl rfl ?_
      refine b_stk [uX 13, uR 11 84] rfl ?_
      refine b_callV (d211 (j := 24) rfl) rfl rfl (Or.inl rfl) rfl (bCk_mk (n := 0) (k := 2) (by decide +kernel) rfl rfl) ((hA3 M1 hR1 c1 M2 hR2 c2) _ (fun M3 hR3 => ?_))
      refine b_stk [uI (g3 M1 M2 M3)] rfl ?_
      refine b_if_eq (d211 (j := 25) rfl) (fun c3 => ?_) (fun c3 => ?_)
      ·
        refine b_aload_n (d211 (j := 32) rfl) rfl ?_
        refine b_ldcS (d211 (j := 33) rfl) rfl rfl ?_
        refine b_stk [uX 16, uR 11 84] rfl ?_
        refine b_callV (d211 (j := 34) rfl) rfl rfl (Or.inl rfl) rfl (bCk_mk (n := 0) (k := 2) (by decide +kernel) rfl rfl) ((hA4 M1 hR1 c1 M2 hR2 c2 M3 hR3 c3) _ (fun M4 hR4 => ?_))
        refine b_stk [uI (g4 M1 M2 M3 M4)] rfl ?_
        refine b_if_eq (d211 (j := 35) rfl) (fun c4 => ?_) (fun c4 => ?_)
        ·
          refine b_iconst (d211 (j := 44) rfl) (by decide) ?_
          exact b_zret (d211 (j := 45) rfl) rfl (by decide) (k1 M1 hR1 c1 M2 hR2 c2 M3 hR3 c3 M4 hR4 c4)
        ·
          refine b_aload_n (d211 (j := 36) rfl) rfl ?_
          refine b_getR (d211 (j := 37) rfl) rfl rfl rfl rfl ?_
          refine b_stk [uR 38 90] rfl ?_
          refine b_bipush (d211 (j := 38) rfl) (by decide) ?_
          refine b_iaload (d211 (j := 39) rfl) rfl (by decide) ?_
          refine b_bipush (d211 (j := 40) rfl) (by decide) ?_
          refine b_icmp_ne (d211 (j := 41) rfl) (fun c5 => ?_) (fun c5 => ?_)
          ·
            refine b_iconst (d211 (j := 44) rfl) (by decide) ?_
            exact b_zret (d211 (j := 45) rfl) rfl (by decide) (k2 M1 hR1 c1 M2 hR2 c2 M3 hR3 c3 M4 hR4 c4 c5)
          ·
            refine b_iconst (d211 (j := 42) rfl) (by decide) ?_
            refine b_goto (d211 (j := 43) rfl) ?_
            exact b_zret (d211 (j := 45) rfl) rfl (by decide) (k3 M1 hR1 c1 M2 hR2 c2 M3 hR3 c3 M4 hR4 c4 c5)
      ·
        refine b_aload_n (d211 (j := 26) rfl) rfl ?_
        refine b_getR (d211 (j := 27) rfl) rfl rfl rfl rfl ?_
        refine b_stk [uR 38 90] rfl ?_
        refine b_iconst (d211 (j := 28) rfl) (by decide) ?_
        refine b_iaload (d211 (j := 29) rfl) rfl (by decide) ?_
        refine b_bipush (d211 (j := 30) rfl) (by decide) ?_
        refine b_icmp_eq (d211 (j := 31) rfl) (fun c6 => ?_) (fun c6 => ?_)
        ·
          refine b_iconst (d211 (j := 42) rfl) (by decide) ?_
          refine b_goto (d211 (j := 43) rfl) ?_
          exact b_zret (d211 (j := 45) rfl) rfl (by decide) (k4 M1 hR1 c1 M2 hR2 c2 M3 hR3 c3 c6)
        ·
          refine b_aload_n (d211 (j := 32) rfl) rfl ?_
          refine b_ldcS (d211 (j := 33) rfl) rfl rfl ?_
          refine b_stk [uX 16, uR 11 84] rfl ?_
          refine b_callV (d211 (j := 34) rfl) rfl rfl (Or.inl rfl) rfl (bCk_mk (n := 0) (k := 2) (by decide +kernel) rfl rfl) ((hA5 M1 hR1 c1 M2 hR2 c2 M3 hR3 c3 c6) _ (fun M5 hR5 => ?_))
          refine b_stk [uI (g5 M1 M2 M3 M5)] rfl ?_
          refine b_if_eq (d211 (j := 35) rfl) (fun c7 => ?_) (fun c7 => ?_)
          ·
            refine b_iconst (d211 (j := 44) rfl) (by decide) ?_
            exact b_zret (d211 (j := 45) rfl) rfl (by decide) (k5 M1 hR1 c1 M2 hR2 c2 M3 hR3 c3 c6 M5 hR5 c7)
          ·
            refine b_aload_n (d211 (j := 36) rfl) rfl ?_
            refine b_getR (d211 (j := 37) rfl) rfl rfl rfl rfl ?_
            refine b_stk [uR 38 90] rfl ?_
            refine b_bipush (d211 (j := 38) rfl) (by decide) ?_
            refine b_iaload (d211 (j := 39) rfl) rfl (by decide) ?_
            refine b_bipush (d211 (j := 40) rfl) (by decide) ?_
            refine b_icmp_ne (d211 (j := 41) rfl) (fun c8 => ?_) (fun c8 => ?_)
            ·
              refine b_iconst (d211 (j := 44) rfl) (by decide) ?_
              exact b_zret (d211 (j := 45) rfl) rfl (by decide) (k6 M1 hR1 c1 M2 hR2 c2 M3 hR3 c3 c6 M5 hR5 c7 c8)
            ·
              refine b_iconst (d211 (j := 42) rfl) (by decide) ?_
              refine b_goto (d211 (j := 43) rfl) ?_
              exact b_zret (d211 (j := 45) rfl) rfl (by decide) (k7 M1 hR1 c1 M2 hR2 c2 M3 hR3 c3 c6 M5 hR5 c7 c8)
    ·
      refine b_aload_n (d211 (j := 14) rfl) rfl ?_
      refine b_getR (d211 (j := 15) rfl) rfl rfl rfl rfl ?_
      refine b_stk [uR 38 90] rfl ?_
      refine b_iconst (d211 (j := 16) rfl) (by decide) ?_
      refine b_iaload (d211 (j := 17) rfl) rfl (by decide) ?_
      refine b_bipush (d211 (j := 18) rfl) (by decide) ?_
      refine b_icmp_ne (d211 (j := 19) rfl) (fun c9 => ?_) (fun c9 => ?_)
      ·
        refine b_aload_n (d211 (j := 22) rfl) rfl ?_
        refine b_ldcS (d211 (j := 23) rfl) rfl rfl ?_
        refine b_stk [uX 13, uR 11 84] rfl ?_
        refine b_callV (d211 (j := 24) rfl) rfl rfl (Or.inl rfl) rfl (bCk_mk (n := 0) (k := 2) (by decide +kernel) rfl rfl) ((hA6 M1 hR1 c1 M2 hR2 c2 c9) _ (fun M6 hR6 => ?_))
        refine b_stk [uI (g6 M1 M2 M6)] rfl ?_
        refine b_if_eq (d211 (j := 25) rfl) (fun c10 => ?_) (fun c10 => ?_)
        ·
          refine b_aload_n (d211 (j := 32) rfl) rfl ?_
          refine b_ldcS (d211 (j := 33) rfl) rfl rfl ?_
          refine b_stk [uX 16, uR 11 84] rfl ?_
          refine b_callV (d211 (j := 34) rfl) rfl rfl (Or.inl rfl) rfl (bCk_mk (n := 0) (k := 2) (by decide +kernel) rfl rfl) ((hA7 M1 hR1 c1 M2 hR2 c2 c9 M6 hR6 c10) _ (fun M7 hR7 => ?_))
          refine b_stk [uI (g7 M1 M2 M6 M7)] rfl ?_
          refine b_if_eq (d211 (j := 35) rfl) (fun c11 => ?_) (fun c11 => ?_)
          ·
            refine b_iconst (d211 (j := 44) rfl) (by decide) ?_
            exact b_zret (d211 (j := 45) rfl) rfl (by decide) (k8 M1 hR1 c1 M2 hR2 c2 c9 M6 hR6 c10 M7 hR7 c11)
          ·
            refine b_aload_n (d211 (j := 36) rfl) rfl ?_
            refine b_getR (d211 (j := 37) rfl) rfl rfl rfl rfl ?_
            refine b_stk [uR 38 90] rfl ?_
            refine b_bipush (d211 (j := 38) rfl) (by decide) ?_
            refine b_iaload (d211 (j := 39) rfl) rfl (by decide) ?_
            refine b_bipush (d211 (j := 40) rfl) (by decide) ?_
            refine b_icmp_ne (d211 (j := 41) rfl) (fun c12 => ?_) (fun c12 => ?_)
            ·
              refine b_iconst (d211 (j := 44) rfl) (by decide) ?_
              exact b_zret (d211 (j := 45) rfl) rfl (by decide) (k9 M1 hR1 c1 M2 hR2 c2 c9 M6 hR6 c10 M7 hR7 c11 c12)
            ·
              refine b_iconst (d211 (j := 42) rfl) (by decide) ?_
              refine b_goto (d211 (j := 43) rfl) ?_
              exact b_zret (d211 (j := 45) rfl) rfl (by decide) (k10 M1 hR1 c1 M2 hR2 c2 c9 M6 hR6 c10 M7 hR7 c11 c12)
        ·
          refine b_aload_n (d211 (j := 26) rfl) rfl ?_
          refine b_getR (d211 (j := 27) rfl) rfl rfl rfl rfl ?_
          refine b_stk [uR 38 90] rfl ?_
          refine b_iconst (d211 (j := 28) rfl) (by decide) ?_
          refine b_iaload (d211 (j := 29) rfl) rfl (by decide) ?_
          refine b_bipush (d211 (j := 30) rfl) (by decide) ?_
          refine b_icmp_eq (d211 (j := 31) rfl) (fun c13 => ?_) (fun c13 => ?_)
          ·
            refine b_iconst (d211 (j := 42) rfl) (by decide) ?_
            refine b_goto (d211 (j := 43) rfl) ?_
            exact b_zret (d211 (j := 45) rfl) rfl (by decide) (k11 M1 hR1 c1 M2 hR2 c2 c9 M6 hR6 c10 c13)
          ·
            refine b_aload_n (d211 (j := 32) rfl) rfl ?_
            refine b_ldcS (d211 (j := 33) rfl) rfl rfl ?_
            refine b_stk [uX 16, uR 11 84] rfl ?_
            refine b_callV (d211 (j := 34) rfl) rfl rfl (Or.inl rfl) rfl (bCk_mk (n := 0) (k := 2) (by decide +kernel) rfl rfl) ((hA8 M1 hR1 c1 M2 hR2 c2 c9 M6 hR6 c10 c13) _ (fun M8 hR8 => ?_))
            refine b_stk [uI (g8 M1 M2 M6 M8)] rfl ?_
            refine b_if_eq (d211 (j := 35) rfl) (fun c14 => ?_) (fun c14 => ?_)
            ·
              refine b_iconst (d211 (j := 44) rfl) (by decide) ?_
              exact b_zret (d211 (j := 45) rfl) rfl (by decide) (k12 M1 hR1 c1 M2 hR2 c2 c9 M6 hR6 c10 c13 M8 hR8 c14)
            ·
              refine b_aload_n (d211 (j := 36) rfl) rfl ?_
              refine b_getR (d211 (j := 37) rfl) rfl rfl rfl rfl ?_
              refine b_stk [uR 38 90] rfl ?_
              refine b_bipush (d211 (j := 38) rfl) (by decide) ?_
              refine b_iaload (d211 (j := 39) rfl) rfl (by decide) ?_
              refine b_bipush (d211 (j := 40) rfl) (by decide) ?_
              refine b_icmp_ne (d211 (j := 41) rfl) (fun c15 => ?_) (fun c15 => ?_)
              ·
                refine b_iconst (d211 (j := 44) rfl) (by decide) ?_
                exact b_zret (d211 (j := 45) rfl) rfl (by decide) (k13 M1 hR1 c1 M2 hR2 c2 c9 M6 hR6 c10 c13 M8 hR8 c14 c15)
              ·
                refine b_iconst (d211 (j := 42) rfl) (by decide) ?_
                refine b_goto (d211 (j := 43) rfl) ?_
                exact b_zret (d211 (j := 45) rfl) rfl (by decide) (k14 M1 hR1 c1 M2 hR2 c2 c9 M6 hR6 c10 c13 M8 hR8 c14 c15)
      ·
        refine b_iconst (d211 (j := 20) rfl) (by decide) ?_
        exact b_zret (d211 (j := 21) rfl) rfl (by decide) (k15 M1 hR1 c1 M2 hR2 c2 c9)
  ·
    refine b_aload_n (d211 (j := 4) rfl) rfl ?_
    refine b_getR (d211 (j := 5) rfl) rfl rfl rfl rfl ?_
    refine b_stk [uR 38 90] rfl ?_
    refine b_iconst (d211 (j := 6) rfl) (by decide) ?_
    refine b_iaload (d211 (j := 7) rfl) rfl (by decide) ?_
    refine b_iconst (d211 (j := 8) rfl) (by decide) ?_
    refine b_icmp_eq (d211 (j := 9) rfl) (fun c16 => ?_) (fun c16 => ?_)
    ·
      refine b_iconst (d211 (j := 20) rfl) (by decide) ?_
      exact b_zret (d211 (j := 21) rfl) rfl (by decide) (k16 M1 hR1 c1 c16)
    ·
      refine b_aload_n (d211 (j := 10) rfl) rfl ?_
      refine b_ldcS (d211 (j := 11) rfl) rfl rfl ?_
      refine b_stk [uX 9, uR 11 84] rfl ?_
      refine b_callV (d211 (j := 12) rfl) rfl rfl (Or.inl rfl) rfl (bCk_mk (n := 0) (k := 2) (by decide +kernel) rfl rfl) ((hA9 M1 hR1 c1 c16) _ (fun M9 hR9 => ?_))
      refine b_stk [uI (g9 M1 M9)] rfl ?_
      refine b_if_eq (d211 (j := 13) rfl) (fun c17 => ?_) (fun c17 => ?_)
      ·
        refine b_aload_n (d211 (j := 22) rfl) rfl ?_
        refine b_ldcS (d211 (j := 23) rfl) rfl rfl ?_
        refine b_stk [uX 13, uR 11 84] rfl ?_
        refine b_callV (d211 (j := 24) rfl) rfl rfl (Or.inl rfl) rfl (bCk_mk (n := 0) (k := 2) (by decide +kernel) rfl rfl) ((hA10 M1 hR1 c1 c16 M9 hR9 c17) _ (fun M10 hR10 => ?_))
        refine b_stk [uI (g10 M1 M9 M10)] rfl ?_
        refine b_if_eq (d211 (j := 25) rfl) (fun c18 => ?_) (fun c18 => ?_)
        ·
          refine b_aload_n (d211 (j := 32) rfl) rfl ?_
          refine b_ldcS (d211 (j := 33) rfl) rfl rfl ?_
          refine b_stk [uX 16, uR 11 84] rfl ?_
          refine b_callV (d211 (j := 34) rfl) rfl rfl (Or.inl rfl) rfl (bCk_mk (n := 0) (k := 2) (by decide +kernel) rfl rfl) ((hA11 M1 hR1 c1 c16 M9 hR9 c17 M10 hR10 c18) _ (fun M11 hR11 => ?_))
          refine b_stk [uI (g11 M1 M9 M10 M11)] rfl ?_
          refine b_if_eq (d211 (j := 35) rfl) (fun c19 => ?_) (fun c19 => ?_)
          ·
            refine b_iconst (d211 (j := 44) rfl) (by decide) ?_
            exact b_zret (d211 (j := 45) rfl) rfl (by decide) (k17 M1 hR1 c1 c16 M9 hR9 c17 M10 hR10 c18 M11 hR11 c19)
          ·
            refine b_aload_n (d211 (j := 36) rfl) rfl ?_
            refine b_getR (d211 (j := 37) rfl) rfl rfl rfl rfl ?_
            refine b_stk [uR 38 90] rfl ?_
            refine b_bipush (d211 (j := 38) rfl) (by decide) ?_
            refine b_iaload (d211 (j := 39) rfl) rfl (by decide) ?_
            refine b_bipush (d211 (j := 40) rfl) (by decide) ?_
            refine b_icmp_ne (d211 (j := 41) rfl) (fun c20 => ?_) (fun c20 => ?_)
            ·
              refine b_iconst (d211 (j := 44) rfl) (by decide) ?_
              exact b_zret (d211 (j := 45) rfl) rfl (by decide) (k18 M1 hR1 c1 c16 M9 hR9 c17 M10 hR10 c18 M11 hR11 c19 c20)
            ·
              refine b_iconst (d211 (j := 42) rfl) (by decide) ?_
              refine b_goto (d211 (j := 43) rfl) ?_
              exact b_zret (d211 (j := 45) rfl) rfl (by decide) (k19 M1 hR1 c1 c16 M9 hR9 c17 M10 hR10 c18 M11 hR11 c19 c20)
        ·
          refine b_aload_n (d211 (j := 26) rfl) rfl ?_
          refine b_getR (d211 (j := 27) rfl) rfl rfl rfl rfl ?_
          refine b_stk [uR 38 90] rfl ?_
          refine b_iconst (d211 (j := 28) rfl) (by decide) ?_
          refine b_iaload (d211 (j := 29) rfl) rfl (by decide) ?_
          refine b_bipush (d211 (j := 30) rfl) (by decide) ?_
          refine b_icmp_eq (d211 (j := 31) rfl) (fun c21 => ?_) (fun c21 => ?_)
          ·
            refine b_iconst (d211 (j := 42) rfl) (by decide) ?_
            refine b_goto (d211 (j := 43) rfl) ?_
            exact b_zret (d211 (j := 45) rfl) rfl (by decide) (k20 M1 hR1 c1 c16 M9 hR9 c17 M10 hR10 c18 c21)
          ·
            refine b_aload_n (d211 (j := 32) rfl) rfl ?_
            refine b_ldcS (d211 (j := 33) rfl) rfl rfl ?_
            refine b_stk [uX 16, uR 11 84] rfl ?_
            refine b_callV (d211 (j := 34) rfl) rfl rfl (Or.inl rfl) rfl (bCk_mk (n := 0) (k := 2) (by decide +kernel) rfl rfl) ((hA12 M1 hR1 c1 c16 M9 hR9 c17 M10 hR10 c18 c21) _ (fun M12 hR12 => ?_))
            refine b_stk [uI (g12 M1 M9 M10 M12)] rfl ?_
            refine b_if_eq (d211 (j := 35) rfl) (fun c22 => ?_) (fun c22 => ?_)
            ·
              refine b_iconst (d211 (j := 44) rfl) (by decide) ?_
              exact b_zret (d211 (j := 45) rfl) rfl (by decide) (k21 M1 hR1 c1 c16 M9 hR9 c17 M10 hR10 c18 c21 M12 hR12 c22)
            ·
              refine b_aload_n (d211 (j := 36) rfl) rfl ?_
              refine b_getR (d211 (j := 37) rfl) rfl rfl rfl rfl ?_
              refine b_stk [uR 38 90] rfl ?_
              refine b_bipush (d211 (j := 38) rfl) (by decide) ?_
              refine b_iaload (d211 (j := 39) rfl) rfl (by decide) ?_
              refine b_bipush (d211 (j := 40) rfl) (by decide) ?_
              refine b_icmp_ne (d211 (j := 41) rfl) (fun c23 => ?_) (fun c23 => ?_)
              ·
                refine b_iconst (d211 (j := 44) rfl) (by decide) ?_
                exact b_zret (d211 (j := 45) rfl) rfl (by decide) (k22 M1 hR1 c1 c16 M9 hR9 c17 M10 hR10 c18 c21 M12 hR12 c22 c23)
              ·
                refine b_iconst (d211 (j := 42) rfl) (by decide) ?_
                refine b_goto (d211 (j := 43) rfl) ?_
                exact b_zret (d211 (j := 45) rfl) rfl (by decide) (k23 M1 hR1 c1 c16 M9 hR9 c17 M10 hR10 c18 c21 M12 hR12 c22 c23)
      ·
        refine b_aload_n (d211 (j := 14) rfl) rfl ?_
        refine b_getR (d211 (j := 15) rfl) rfl rfl rfl rfl ?_
        refine b_stk [uR 38 90] rfl ?_
        refine b_iconst (d211 (j := 16) rfl) (by decide) ?_
        refine b_iaload (d211 (j := 17) rfl) rfl (by decide) ?_
        refine b_bipush (d211 (j := 18) rfl) (by decide) ?_
        refine b_icmp_ne (d211 (j := 19) rfl) (fun c24 => ?_) (fun c24 => ?_)
        ·
          refine b_aload_n (d211 (j := 22) rfl) rfl ?_
          refine b_ldcS (d211 (j := 23) rfl) rfl rfl ?_
          refine b_stk [uX 13, uR 11 84] rfl ?_
          refine b_callV (d211 (j := 24) rfl) rfl rfl (Or.inl rfl) rfl (bCk_mk (n := 0) (k := 2) (by decide +kernel) rfl rfl) ((hA13 M1 hR1 c1 c16 M9 hR9 c17 c24) _ (fun M13 hR13 => ?_))
          refine b_stk [uI (g13 M1 M9 M13)] rfl ?_
          refine b_if_eq (d211 (j := 25) rfl) (fun c25 => ?_) (fun c25 => ?_)
          ·
            refine b_aload_n (d211 (j := 32) rfl) rfl ?_
            refine b_ldcS (d211 (j := 33) rfl) rfl rfl ?_
            refine b_stk [uX 16, uR 11 84] rfl ?_
            refine b_callV (d211 (j := 34) rfl) rfl rfl (Or.inl rfl) rfl (bCk_mk (n := 0) (k := 2) (by decide +kernel) rfl rfl) ((hA14 M1 hR1 c1 c16 M9 hR9 c17 c24 M13 hR13 c25) _ (fun M14 hR14 => ?_))
            refine b_stk [uI (g14 M1 M9 M13 M14)] rfl ?_
            refine b_if_eq (d211 (j := 35) rfl) (fun c26 => ?_) (fun c26 => ?_)
            ·
              refine b_iconst (d211 (j := 44) rfl) (by decide) ?_
              exact b_zret (d211 (j := 45) rfl) rfl (by decide) (k24 M1 hR1 c1 c16 M9 hR9 c17 c24 M13 hR13 c25 M14 hR14 c26)
            ·
              refine b_aload_n (d211 (j := 36) rfl) rfl ?_
              refine b_getR (d211 (j := 37) rfl) rfl rfl rfl rfl ?_
              refine b_stk [uR 38 90] rfl ?_
              refine b_bipush (d211 (j := 38) rfl) (by decide) ?_
              refine b_iaload (d211 (j := 39) rfl) rfl (by decide) ?_
              refine b_bipush (d211 (j := 40) rfl) (by decide) ?_
              refine b_icmp_ne (d211 (j := 41) rfl) (fun c27 => ?_) (fun c27 => ?_)
              ·
                refine b_iconst (d211 (j := 44) rfl) (by decide) ?_
                exact b_zret (d211 (j := 45) rfl) rfl (by decide) (k25 M1 hR1 c1 c16 M9 hR9 c17 c24 M13 hR13 c25 M14 hR14 c26 c27)
              ·
                refine b_iconst (d211 (j := 42) rfl) (by decide) ?_
                refine b_goto (d211 (j := 43) rfl) ?_
                exact b_zret (d211 (j := 45) rfl) rfl (by decide) (k26 M1 hR1 c1 c16 M9 hR9 c17 c24 M13 hR13 c25 M14 hR14 c26 c27)
          ·
            refine b_aload_n (d211 (j := 26) rfl) rfl ?_
            refine b_getR (d211 (j := 27) rfl) rfl rfl rfl rfl ?_
            refine b_stk [uR 38 90] rfl ?_
            refine b_iconst (d211 (j := 28) rfl) (by decide) ?_
            refine b_iaload (d211 (j := 29) rfl) rfl (by decide) ?_
            refine b_bipush (d211 (j := 30) rfl) (by decide) ?_
            refine b_icmp_eq (d211 (j := 31) rfl) (fun c28 => ?_) (fun c28 => ?_)
            ·
              refine b_iconst (d211 (j := 42) rfl) (by decide) ?_
              refine b_goto (d211 (j := 43) rfl) ?_
              exact b_zret (d211 (j := 45) rfl) rfl (by decide) (k27 M1 hR1 c1 c16 M9 hR9 c17 c24 M13 hR13 c25 c28)
            ·
              refine b_aload_n (d211 (j := 32) rfl) rfl ?_
              refine b_ldcS (d211 (j := 33) rfl) rfl rfl ?_
              refine b_stk [uX 16, uR 11 84] rfl ?_
              refine b_callV (d211 (j := 34) rfl) rfl rfl (Or.inl rfl) rfl (bCk_mk (n := 0) (k := 2) (by decide +kernel) rfl rfl) ((hA15 M1 hR1 c1 c16 M9 hR9 c17 c24 M13 hR13 c25 c28) _ (fun M15 hR15 => ?_))
              refine b_stk [uI (g15 M1 M9 M13 M15)] rfl ?_
              refine b_if_eq (d211 (j := 35) rfl) (fun c29 => ?_) (fun c29 => ?_)
              ·
                refine b_iconst (d211 (j := 44) rfl) (by decide) ?_
                exact b_zret (d211 (j := 45) rfl) rfl (by decide) (k28 M1 hR1 c1 c16 M9 hR9 c17 c24 M13 hR13 c25 c28 M15 hR15 c29)
              ·
                refine b_aload_n (d211 (j := 36) rfl) rfl ?_
                refine b_getR (d211 (j := 37) rfl) rfl rfl rfl rfl ?_
                refine b_stk [uR 38 90] rfl ?_
                refine b_bipush (d211 (j := 38) rfl) (by decide) ?_
                refine b_iaload (d211 (j := 39) rfl) rfl (by decide) ?_
                refine b_bipush (d211 (j := 40) rfl) (by decide) ?_
                refine b_icmp_ne (d211 (j := 41) rfl) (fun c30 => ?_) (fun c30 => ?_)
                ·
                  refine b_iconst (d211 (j := 44) rfl) (by decide) ?_
                  exact b_zret (d211 (j := 45) rfl) rfl (by decide) (k29 M1 hR1 c1 c16 M9 hR9 c17 c24 M13 hR13 c25 c28 M15 hR15 c29 c30)
                ·
                  refine b_iconst (d211 (j := 42) rfl) (by decide) ?_
                  refine b_goto (d211 (j := 43) rfl) ?_
                  exact b_zret (d211 (j := 45) rfl) rfl (by decide) (k30 M1 hR1 c1 c16 M9 hR9 c17 c24 M13 hR13 c25 c28 M15 hR15 c29 c30)
        ·
          refine b_iconst (d211 (j := 20) rfl) (by decide) ?_
          exact b_zret (d211 (j := 21) rfl) rfl (by decide) (k31 M1 hR1 c1 c16 M9 hR9 c17 c24)
def L212 : List (Nat × Instr × Nat × Nat) := [(0, .aload_n 0, 1, 0), (1, .ldc 232, 3, 0), (3, .invokevirtual 187, 6, 0), (6, .ifCond .ne 30, 9, 36), (9, .aload_n 0, 10, 0), (10, .ldc 234, 12, 0), (12, .invokevirtual 187, 15, 0), (15, .ifCond .ne 21, 18, 36), (18, .aload_n 0, 19, 0), (19, .ldc 236, 21, 0), (21, .invokevirtual 187, 24, 0), (24, .ifCond .ne 12, 27, 36), (27, .aload_n 0, 28, 0), (28, .ldc 238, 30, 0), (30, .invokevirtual 187, 33, 0), (33, .ifCond .eq 7, 36, 40), (36, .iconst 1, 37, 0), (37, .goto 4, 40, 41), (40, .iconst 0, 41, 0), (41, .istore_n 1, 42, 0), (42, .iload_n 1, 43, 0), (43, .ifCond .ne 8, 46, 51), (46, .aload_n 0, 47, 0), (47, .iconst 1, 48, 0), (48, .invokevirtual 197, 51, 0), (51, .aload_n 0, 52, 0), (52, .invokevirtual 240, 55, 0), (55, .ifCond .eq 8, 58, 63), (58, .aload_n 0, 59, 0), (59, .iconst 3, 60, 0), (60, .invokevirtual 197, 63, 0), (63, .aload_n 0, 64, 0), (64, .invokevirtual 175, 67, 0), (67, .ifCond .ne 4, 70, 71), (70, .return_, 71, 0), (71, .aload_n 0, 72, 0), (72, .ldc 232, 74, 0), (74, .invokevirtual 194, 77, 0), (77, .ifCond .eq 10, 80, 87), (80, .aload_n 0, 81, 0), (81, .invokevirtual 243, 84, 0), (84, .goto 43, 87, 127), (87, .aload_n 0, 88, 0), (88, .ldc 234, 90, 0), (90, .invokevirtual 194, 93, 0), (93, .ifCond .eq 10, 96, 103), (96, .aload_n 0, 97, 0), (97, .invokevirtual 246, 100, 0), (100, .goto 27, 103, 127), (103, .aload_n 0, 104, 0), (104, .ldc 236, 106, 0), (106, .invokevirtual 194, 109, 0), (109, .ifCond .eq 10, 112, 119), (112, .aload_n 0, 113, 0), (113, .invokevirtual 249, 116, 0), (116, .goto 11, 119, 127), (119, .aload_n 0, 120, 0), (120, .invokevirtual 191, 123, 0), (123, .aload_n 0, 124, 0), (124, .invokevirtual 252, 127, 0), (127, .return_, 128, 0)]
set_option maxRecDepth 100000 in
theorem L212_ok : L212.all (dck 212) = true := by decide +kernel
theorem d212 {j pc nx tg : Nat} {ins : Instr} (hj : L212[j]? = some (pc, ins, nx, tg)) : dcd 212 pc ins nx tg := dcl_ok L212_ok hj
set_option maxRecDepth 100000 in
set_option maxHeartbeats 4000000 in
theorem r212_0  {R1 : dsMem → Prop} {g1 : dsMem → Int} {R2 : dsMem → dsMem → Prop} {g2 : dsMem → dsMem → Int} {R3 : dsMem → dsMem → dsMem → Prop} {g3 : dsMem → dsMem → dsMem → Int} {R4 : dsMem → dsMem → dsMem → dsMem → Prop} {g4 : dsMem → dsMem → dsMem → dsMem → Int} {R5 : dsMem → dsMem → dsMem → dsMem → dsMem → Prop} {g5 : dsMem → dsMem → dsMem → dsMem → dsMem → Int} {R6 : dsMem → dsMem → dsMem → dsMem → dsMem → dsMem → Prop} {R7 : dsMem → dsMem → dsMem → dsMem → dsMem → dsMem → dsMem → Prop} {R8 : dsMem → dsMem → dsMem → dsMem → dsMem → dsMem → Prop} {R9 : dsMem → dsMem → dsMem → dsMem → dsMem → Prop} {R10 : dsMem → dsMem → dsMem → dsMem → Prop} {R11 : dsMem → dsMem → dsMem → Prop} {R12 : dsMem → dsMem → dsMem → dsMem → Prop} {g12 : dsMem → dsMem → dsMem → dsMem → Int} {R13 : dsMem → dsMem → dsMem → dsMem → dsMem → Prop} {g13 : dsMem → dsMem → dsMem → dsMem → dsMem → Int} {R14 : dsMem → dsMem → dsMem → dsMem → dsMem → dsMem → Prop} {g14 : dsMem → dsMem → dsMem → dsMem → dsMem → dsMem → Int} {R15 : dsMem → dsMem → dsMem → dsMem → dsMem → dsMem → dsMem → Prop} {R16 : dsMem → dsMem → dsMem → dsMem → dsMem → dsMem → dsMem → dsMem → Prop} {R17 : dsMem → dsMem → dsMem → dsMem → dsMem → dsMem → dsMem → Prop} {R18 : dsMem → dsMem → dsMem → dsMem → dsMem → dsMem → Prop} {R19 : dsMem → dsMem → dsMem → dsMem → dsMem → Prop} {R20 : dsMem → dsMem → Prop} {g20 : dsMem → dsMem → Int} {R21 : dsMem → dsMem → dsMem → Prop} {g21 : dsMem → dsMem → dsMem → Int} {R22 : dsMem → dsMem → dsMem → dsMem → Prop} {g22 : dsMem → dsMem → dsMem → dsMem → Int} {R23 : dsMem → dsMem → dsMem → dsMem → dsMem → Prop} {g23 : dsMem → dsMem → dsMem → dsMem → dsMem → Int} {R24 : dsMem → dsMem → dsMem → dsMem → dsMem → dsMem → Prop} {g24 : dsMem → dsMem → dsMem → dsMem → dsMem → dsMem → Int} {R25 : dsMem → dsMem → dsMem → dsMem → dsMem → dsMem → dsMem → Prop} {R26 : dsMem → dsMem → dsMem → dsMem → dsMem → dsMem → dsMem → dsMem → Prop} {R27 : dsMem → dsMem → dsMem → dsMem → dsMem → dsMem → dsMem → Prop} {R28 : dsMem → dsMem → dsMem → dsMem → dsMem → dsMem → Prop} {R29 : dsMem → dsMem → dsMem → dsMem → dsMem → Prop} {R30 : dsMem → dsMem → dsMem → dsMem → Prop} {R31 : dsMem → dsMem → dsMem → dsMem → dsMem → Prop} {g31 : dsMem → dsMem → dsMem → dsMem → dsMem → Int} {R32 : dsMem → dsMem → dsMem → dsMem → dsMem → dsMem → Prop} {g32 : dsMem → dsMem → dsMem → dsMem → dsMem → dsMem → Int} {R33 : dsMem → dsMem → dsMem → dsMem → dsMem → dsMem → dsMem → Prop} {g33 : dsMem → dsMem → dsMem → dsMem → dsMem → dsMem → dsMem → Int} {R34 : dsMem → dsMem → dsMem → dsMem → dsMem → dsMem → dsMem → dsMem → Prop} {R35 : dsMem → dsMem → dsMem → dsMem → dsMem → dsMem → dsMem → dsMem → dsMem → Prop} {R36 : dsMem → dsMem → dsMem → dsMem → dsMem → dsMem → dsMem → dsMem → Prop} {R37 : dsMem → dsMem → dsMem → dsMem → dsMem → dsMem → dsMem → Prop} {R38 : dsMem → dsMem → dsMem → dsMem → dsMem → dsMem → Prop} {R39 : dsMem → dsMem → dsMem → Prop} {g39 : dsMem → dsMem → dsMem → Int} {R40 : dsMem → dsMem → dsMem → dsMem → Prop} {g40 : dsMem → dsMem → dsMem → dsMem → Int} {R41 : dsMem → dsMem → dsMem → dsMem → dsMem → Prop} {g41 : dsMem → dsMem → dsMem → dsMem → dsMem → Int} {R42 : dsMem → dsMem → dsMem → dsMem → dsMem → dsMem → Prop} {g42 : dsMem → dsMem → dsMem → dsMem → dsMem → dsMem → Int} {R43 : dsMem → dsMem → dsMem → dsMem → dsMem → dsMem → dsMem → Prop} {g43 : dsMem → dsMem → dsMem → dsMem → dsMem → dsMem → dsMem → Int} {R44 : dsMem → dsMem → dsMem → dsMem → dsMem → dsMem → dsMem → dsMem → Prop} {R45 : dsMem → dsMem → dsMem → dsMem → dsMem → dsMem → dsMem → dsMem → dsMem → Prop} {R46 : dsMem → dsMem → dsMem → dsMem → dsMem → dsMem → dsMem → dsMem → Prop} {R47 : dsMem → dsMem → dsMem → dsMem → dsMem → dsMem → dsMem → Prop} {R48 : dsMem → dsMem → dsMem → dsMem → dsMem → dsMem → Prop} {R49 : dsMem → dsMem → dsMem → dsMem → dsMem → Prop} {R50 : dsMem → dsMem → dsMem → dsMem → dsMem → dsMem → Prop} {g50 : dsMem → dsMem → dsMem → dsMem → dsMem → dsMem → Int} {R51 : dsMem → dsMem → dsMem → dsMem → dsMem → dsMem → dsMem → Prop} {g51 : dsMem → dsMem → dsMem → dsMem → dsMem → dsMem → dsMem → Int} {R52 : dsMem → dsMem → dsMem → dsMem → dsMem → dsMem → dsMem → dsMem → Prop} {g52 : dsMem → dsMem → dsMem → dsMem → dsMem → dsMem → dsMem → dsMem → Int} {R53 : dsMem → dsMem → dsMem → dsMem → dsMem → dsMem → dsMem → dsMem → dsMem → Prop} {R54 : dsMem → dsMem → dsMem → dsMem → dsMem → dsMem → dsMem → dsMem → dsMem → dsMem → Prop} {R55 : dsMem → dsMem → dsMem → dsMem → dsMem → dsMem → dsMem → dsMem → dsMem → Prop} {R56 : dsMem → dsMem → dsMem → dsMem → dsMem → dsMem → dsMem → dsMem → Prop} {R57 : dsMem → dsMem → dsMem → dsMem → dsMem → dsMem → dsMem → Prop} {R58 : dsMem → dsMem → dsMem → dsMem → Prop} {g58 : dsMem → dsMem → dsMem → dsMem → Int} {R59 : dsMem → dsMem → dsMem → dsMem → dsMem → Prop} {R60 : dsMem → dsMem → dsMem → dsMem → dsMem → dsMem → Prop} {g60 : dsMem → dsMem → dsMem → dsMem → dsMem → dsMem → Int} {R61 : dsMem → dsMem → dsMem → dsMem → dsMem → dsMem → dsMem → Prop} {g61 : dsMem → dsMem → dsMem → dsMem → dsMem → dsMem → dsMem → Int} {R62 : dsMem → dsMem → dsMem → dsMem → dsMem → dsMem → dsMem → dsMem → Prop} {g62 : dsMem → dsMem → dsMem → dsMem → dsMem → dsMem → dsMem → dsMem → Int} {R63 : dsMem → dsMem → dsMem → dsMem → dsMem → dsMem → dsMem → dsMem → dsMem → Prop} {g63 : dsMem → dsMem → dsMem → dsMem → dsMem → dsMem → dsMem → dsMem → dsMem → Int} {R64 : dsMem → dsMem → dsMem → dsMem → dsMem → dsMem → dsMem → dsMem → dsMem → dsMem → Prop} {R65 : dsMem → dsMem → dsMem → dsMem → dsMem → dsMem → dsMem → dsMem → dsMem → dsMem → dsMem → Prop} {R66 : dsMem → dsMem → dsMem → dsMem → dsMem → dsMem → dsMem → dsMem → dsMem → dsMem → Prop} {R67 : dsMem → dsMem → dsMem → dsMem → dsMem → dsMem → dsMem → dsMem → dsMem → Prop} {R68 : dsMem → dsMem → dsMem → dsMem → dsMem → dsMem → dsMem → dsMem → Prop} {R69 : dsMem → dsMem → dsMem → dsMem → dsMem → dsMem → dsMem → Prop} {R70 : dsMem → dsMem → dsMem → dsMem → dsMem → dsMem → dsMem → dsMem → Prop} {g70 : dsMem → dsMem → dsMem → dsMem → dsMem → dsMem → dsMem → dsMem → Int} {R71 : dsMem → dsMem → dsMem → dsMem → dsMem → dsMem → dsMem → dsMem → dsMem → Prop} {g71 : dsMem → dsMem → dsMem → dsMem → dsMem → dsMem → dsMem → dsMem → dsMem → Int} {R72 : dsMem → dsMem → dsMem → dsMem → dsMem → dsMem → dsMem → dsMem → dsMem → dsMem → Prop} {g72 : dsMem → dsMem → dsMem → dsMem → dsMem → dsMem → dsMem → dsMem → dsMem → dsMem → Int} {R73 : dsMem → dsMem → dsMem → dsMem → dsMem → dsMem → dsMem → dsMem → dsMem → dsMem → dsMem → Prop} {R74 : dsMem → dsMem → dsMem → dsMem → dsMem → dsMem → dsMem → dsMem → dsMem → dsMem → dsMem → dsMem → Prop} {R75 : dsMem → dsMem → dsMem → dsMem → dsMem → dsMem → dsMem → dsMem → dsMem → dsMem → dsMem → Prop} {R76 : dsMem → dsMem → dsMem → dsMem → dsMem → dsMem → dsMem → dsMem → dsMem → dsMem → Prop} {R77 : dsMem → dsMem → dsMem → dsMem → dsMem → dsMem → dsMem → dsMem → dsMem → Prop} {R78 : dsMem → dsMem → dsMem → dsMem → dsMem → Prop} {g78 : dsMem → dsMem → dsMem → dsMem → dsMem → Int} {R79 : dsMem → dsMem → dsMem → dsMem → dsMem → dsMem → Prop} {g79 : dsMem → dsMem → dsMem → dsMem → dsMem → dsMem → Int} {R80 : dsMem → dsMem → dsMem → dsMem → dsMem → dsMem → dsMem → Prop} {g80 : dsMem → dsMem → dsMem → dsMem → dsMem → dsMem → dsMem → Int} {R81 : dsMem → dsMem → dsMem → dsMem → dsMem → dsMem → dsMem → dsMem → Prop} {g81 : dsMem → dsMem → dsMem → dsMem → dsMem → dsMem → dsMem → dsMem → Int} {R82 : dsMem → dsMem → dsMem → dsMem → dsMem → dsMem → dsMem → dsMem → dsMem → Prop} {R83 : dsMem → dsMem → dsMem → dsMem → dsMem → dsMem → dsMem → dsMem → dsMem → dsMem → Prop} {R84 : dsMem → dsMem → dsMem → dsMem → dsMem → dsMem → dsMem → dsMem → dsMem → Prop} {R85 : dsMem → dsMem → dsMem → dsMem → dsMem → dsMem → dsMem → dsMem → Prop} {R86 : dsMem → dsMem → dsMem → dsMem → dsMem → dsMem → dsMem → Prop} {R87 : dsMem → dsMem → dsMem → dsMem → dsMem → dsMem → Prop} {R88 : dsMem → dsMem → dsMem → dsMem → dsMem → dsMem → dsMem → Prop} {g88 : dsMem → dsMem → dsMem → dsMem → dsMem → dsMem → dsMem → Int} {R89 : dsMem → dsMem → dsMem → dsMem → dsMem → dsMem → dsMem → dsMem → Prop} {g89 : dsMem → dsMem → dsMem → dsMem → dsMem → dsMem → dsMem → dsMem → Int} {R90 : dsMem → dsMem → dsMem → dsMem → dsMem → dsMem → dsMem → dsMem → dsMem → Prop} {g90 : dsMem → dsMem → dsMem → dsMem → dsMem → dsMem → dsMem → dsMem → dsMem → Int} {R91 : dsMem → dsMem → dsMem → dsMem → dsMem → dsMem → dsMem → dsMem → dsMem → dsMem → Prop} {R92 : dsMem → dsMem → dsMem → dsMem → dsMem → dsMem → dsMem → dsMem → dsMem → dsMem → dsMem → Prop} {R93 : dsMem → dsMem → dsMem → dsMem → dsMem → dsMem → dsMem → dsMem → dsMem → dsMem → Prop} {R94 : dsMem → dsMem → dsMem → dsMem → dsMem → dsMem → dsMem → dsMem → dsMem → Prop} {R95 : dsMem → dsMem → dsMem → dsMem → dsMem → dsMem → dsMem → dsMem → Prop} {M : dsMem} {Q : bQT} (hA1 : bCt 200 [uR 11 84, uX 6, uX 0, uX 0] M (fun M1 => [uI (g1 M1)]) R1) (hA2 : ∀ M1 : dsMem, R1 M1 → (¬ (g1 M1) = 0) → bCt 211 [uR 11 84] M1 (fun M2 => [uI (g2 M1 M2)]) (R2 M1)) (hA3 : ∀ M1 : dsMem, R1 M1 → (¬ (g1 M1) = 0) → ∀ M2 : dsMem, R2 M1 M2 → ((g2 M1 M2) = 0) → (((M2 84 12) = 0)) → bCt 201 [uR 11 84, uX 6, uX 0] M2 (fun M3 => [uI (g3 M1 M2 M3)]) (R3 M1 M2)) (hA4 : ∀ M1 : dsMem, R1 M1 → (¬ (g1 M1) = 0) → ∀ M2 : dsMem, R2 M1 M2 → ((g2 M1 M2) = 0) → (((M2 84 12) = 0)) → ∀ M3 : dsMem, R3 M1 M2 M3 → ((g3 M1 M2 M3) = 0) → bCt 201 [uR 11 84, uX 9, uX 0] M3 (fun M4 => [uI (g4 M1 M2 M3 M4)]) (R4 M1 M2 M3)) (hA5 : ∀ M1 : dsMem, R1 M1 → (¬ (g1 M1) = 0) → ∀ M2 : dsMem, R2 M1 M2 → ((g2 M1 M2) = 0) → (((M2 84 12) = 0)) → ∀ M3 : dsMem, R3 M1 M2 M3 → ((g3 M1 M2 M3) = 0) → ∀ M4 : dsMem, R4 M1 M2 M3 M4 → ((g4 M1 M2 M3 M4) = 0) → bCt 201 [uR 11 84, uX 13, uX 0] M4 (fun M5 => [uI (g5 M1 M2 M3 M4 M5)]) (R5 M1 M2 M3 M4)) (hA6 : ∀ M1 : dsMem, R1 M1 → (¬ (g1 M1) = 0) → ∀ M2 : dsMem, R2 M1 M2 → ((g2 M1 M2) = 0) → (((M2 84 12) = 0)) → ∀ M3 : dsMem, R3 M1 M2 M3 → ((g3 M1 M2 M3) = 0) → ∀ M4 : dsMem, R4 M1 M2 M3 M4 → ((g4 M1 M2 M3 M4) = 0) → ∀ M5 : dsMem, R5 M1 M2 M3 M4 M5 → ((g5 M1 M2 M3 M4 M5) = 0) → bCt 197 [uR 11 84, uX 0] M5 (fun _ => []) (R6 M1 M2 M3 M4 M5)) (hA7 : ∀ M1 : dsMem, R1 M1 → (¬ (g1 M1) = 0) → ∀ M2 : dsMem, R2 M1 M2 → ((g2 M1 M2) = 0) → (((M2 84 12) = 0)) → ∀ M3 : dsMem, R3 M1 M2 M3 → ((g3 M1 M2 M3) = 0) → ∀ M4 : dsMem, R4 M1 M2 M3 M4 → ((g4 M1 M2 M3 M4) = 0) → ∀ M5 : dsMem, R5 M1 M2 M3 M4 M5 → ((g5 M1 M2 M3 M4 M5) = 0) → ∀ M6 : dsMem, R6 M1 M2 M3 M4 M5 M6 → bCt 210 [uR 11 84, uX 0] M6 (fun _ => []) (R7 M1 M2 M3 M4 M5 M6)) (k1 : ∀ M1 : dsMem, R1 M1 → (¬ (g1 M1) = 0) → ∀ M2 : dsMem, R2 M1 M2 → ((g2 M1 M2) = 0) → (((M2 84 12) = 0)) → ∀ M3 : dsMem, R3 M1 M2 M3 → ((g3 M1 M2 M3) = 0) → ∀ M4 : dsMem, R4 M1 M2 M3 M4 → ((g4 M1 M2 M3 M4) = 0) → ∀ M5 : dsMem, R5 M1 M2 M3 M4 M5 → ((g5 M1 M2 M3 M4 M5) = 0) → ∀ M6 : dsMem, R6 M1 M2 M3 M4 M5 M6 → ∀ M7 : dsMem, R7 M1 M2 M3 M4 M5 M6 M7 → Q [] M7) (hA8 : ∀ M1 : dsMem, R1 M1 → (¬ (g1 M1) = 0) → ∀ M2 : dsMem, R2 M1 M2 → ((g2 M1 M2) = 0) → (((M2 84 12) = 0)) → ∀ M3 : dsMem, R3 M1 M2 M3 → ((g3 M1 M2 M3) = 0) → ∀ M4 : dsMem, R4 M1 M2 M3 M4 → ((g4 M1 M2 M3 M4) = 0) → ∀ M5 : dsMem, R5 M1 M2 M3 M4 M5 → (¬ (g5 M1 M2 M3 M4 M5) = 0) → bCt 209 [uR 11 84, uX 0] M5 (fun _ => []) (R8 M1 M2 M3 M4 M5)) (k2 : ∀ M1 : dsMem, R1 M1 → (¬ (g1 M1) = 0) → ∀ M2 : dsMem, R2 M1 M2 → ((g2 M1 M2) = 0) → (((M2 84 12) = 0)) → ∀ M3 : dsMem, R3 M1 M2 M3 → ((g3 M1 M2 M3) = 0) → ∀ M4 : dsMem, R4 M1 M2 M3 M4 → ((g4 M1 M2 M3 M4) = 0) → ∀ M5 : dsMem, R5 M1 M2 M3 M4 M5 → (¬ (g5 M1 M2 M3 M4 M5) = 0) → ∀ M8 : dsMem, R8 M1 M2 M3 M4 M5 M8 → Q [] M8) (hA9 : ∀ M1 : dsMem, R1 M1 → (¬ (g1 M1) = 0) → ∀ M2 : dsMem, R2 M1 M2 → ((g2 M1 M2) = 0) → (((M2 84 12) = 0)) → ∀ M3 : dsMem, R3 M1 M2 M3 → ((g3 M1 M2 M3) = 0) → ∀ M4 : dsMem, R4 M1 M2 M3 M4 → (¬ (g4 M1 M2 M3 M4) = 0) → bCt 208 [uR 11 84, uX 0] M4 (fun _ => []) (R9 M1 M2 M3 M4)) (k3 : ∀ M1 : dsMem, R1 M1 → (¬ (g1 M1) = 0) → ∀ M2 : dsMem, R2 M1 M2 → ((g2 M1 M2) = 0) → (((M2 84 12) = 0)) → ∀ M3 : dsMem, R3 M1 M2 M3 → ((g3 M1 M2 M3) = 0) → ∀ M4 : dsMem, R4 M1 M2 M3 M4 → (¬ (g4 M1 M2 M3 M4) = 0) → ∀ M9 : dsMem, R9 M1 M2 M3 M4 M9 → Q [] M9) (hA10 : ∀ M1 : dsMem, R1 M1 → (¬ (g1 M1) = 0) → ∀ M2 : dsMem, R2 M1 M2 → ((g2 M1 M2) = 0) → (((M2 84 12) = 0)) → ∀ M3 : dsMem, R3 M1 M2 M3 → (¬ (g3 M1 M2 M3) = 0) → bCt 207 [uR 11 84, uX 0] M3 (fun _ => []) (R10 M1 M2 M3)) (k4 : ∀ M1 : dsMem, R1 M1 → (¬ (g1 M1) = 0) → ∀ M2 : dsMem, R2 M1 M2 → ((g2 M1 M2) = 0) → (((M2 84 12) = 0)) → ∀ M3 : dsMem, R3 M1 M2 M3 → (¬ (g3 M1 M2 M3) = 0) → ∀ M10 : dsMem, R10 M1 M2 M3 M10 → Q [] M10) (k5 : ∀ M1 : dsMem, R1 M1 → (¬ (g1 M1) = 0) → ∀ M2 : dsMem, R2 M1 M2 → ((g2 M1 M2) = 0) → (¬ ((M2 84 12) = 0)) → Q [] M2) (hA11 : ∀ M1 : dsMem, R1 M1 → (¬ (g1 M1) = 0) → ∀ M2 : dsMem, R2 M1 M2 → (¬ (g2 M1 M2) = 0) → bCt 199 [uR 11 84, uI 3] M2 (fun _ => []) (R11 M1 M2)) (hA12 : ∀ M1 : dsMem, R1 M1 → (¬ (g1 M1) = 0) → ∀ M2 : dsMem, R2 M1 M2 → (¬ (g2 M1 M2) = 0) → ∀ M11 : dsMem, R11 M1 M2 M11 → (((M11 84 12) = 0)) → bCt 201 [uR 11 84, uX 6, uX 0] M11 (fun M12 => [uI (g12 M1 M2 M11 M12)]) (R12 M1 M2 M11)) (hA13 : ∀ M1 : dsMem, R1 M1 → (¬ (g1 M1) = 0) → ∀ M2 : dsMem, R2 M1 M2 → (¬ (g2 M1 M2) = 0) → ∀ M11 : dsMem, R11 M1 M2 M11 → (((M11 84 12) = 0)) → ∀ M12 : dsMem, R12 M1 M2 M11 M12 → ((g12 M1 M2 M11 M12) = 0) → bCt 201 [uR 11 84, uX 9, uX 0] M12 (fun M13 => [uI (g13 M1 M2 M11 M12 M13)]) (R13 M1 M2 M11 M12)) (hA14 : ∀ M1 : dsMem, R1 M1 → (¬ (g1 M1) = 0) → ∀ M2 : dsMem, R2 M1 M2 → (¬ (g2 M1 M2) = 0) → ∀ M11 : dsMem, R11 M1 M2 M11 → (((M11 84 12) = 0)) → ∀ M12 : dsMem, R12 M1 M2 M11 M12 → ((g12 M1 M2 M11 M12) = 0) → ∀ M13 : dsMem, R13 M1 M2 M11 M12 M13 → ((g13 M1 M2 M11 M12 M13) = 0) → bCt 201 [uR 11 84, uX 13, uX 0] M13 (fun M14 => [uI (g14 M1 M2 M11 M12 M13 M14)]) (R14 M1 M2 M11 M12 M13)) (hA15 : ∀ M1 : dsMem, R1 M1 → (¬ (g1 M1) = 0) → ∀ M2 : dsMem, R2 M1 M2 → (¬ (g2 M1 M2) = 0) → ∀ M11 : dsMem, R11 M1 M2 M11 → (((M11 84 12) = 0)) → ∀ M12 : dsMem, R12 M1 M2 M11 M12 → ((g12 M1 M2 M11 M12) = 0) → ∀ M13 : dsMem, R13 M1 M2 M11 M12 M13 → ((g13 M1 M2 M11 M12 M13) = 0) → ∀ M14 : dsMem, R14 M1 M2 M11 M12 M13 M14 → ((g14 M1 M2 M11 M12 M13 M14) = 0) → bCt 197 [uR 11 84, uX 0] M14 (fun _ => []) (R15 M1 M2 M11 M12 M13 M14)) (hA16 : ∀ M1 : dsMem, R1 M1 → (¬ (g1 M1) = 0) → ∀ M2 : dsMem, R2 M1 M2 → (¬ (g2 M1 M2) = 0) → ∀ M11 : dsMem, R11 M1 M2 M11 → (((M11 84 12) = 0)) → ∀ M12 : dsMem, R12 M1 M2 M11 M12 → ((g12 M1 M2 M11 M12) = 0) → ∀ M13 : dsMem, R13 M1 M2 M11 M12 M13 → ((g13 M1 M2 M11 M12 M13) = 0) → ∀ M14 : dsMem, R14 M1 M2 M11 M12 M13 M14 → ((g14 M1 M2 M11 M12 M13 M14) = 0) → ∀ M15 : dsMem, R15 M1 M2 M11 M12 M13 M14 M15 → bCt 210 [uR 11 84, uX 0] M15 (fun _ => []) (R16 M1 M2 M11 M12 M13 M14 M15)) (k6 : ∀ M1 : dsMem, R1 M1 → (¬ (g1 M1) = 0) → ∀ M2 : dsMem, R2 M1 M2 → (¬ (g2 M1 M2) = 0) → ∀ M11 : dsMem, R11 M1 M2 M11 → (((M11 84 12) = 0)) → ∀ M12 : dsMem, R12 M1 M2 M11 M12 → ((g12 M1 M2 M11 M12) = 0) → ∀ M13 : dsMem, R13 M1 M2 M11 M12 M13 → ((g13 M1 M2 M11 M12 M13) = 0) → ∀ M14 : dsMem, R14 M1 M2 M11 M12 M13 M14 → ((g14 M1 M2 M11 M12 M13 M14) = 0) → ∀ M15 : dsMem, R15 M1 M2 M11 M12 M13 M14 M15 → ∀ M16 : dsMem, R16 M1 M2 M11 M12 M13 M14 M15 M16 → Q [] M16) (hA17 : ∀ M1 : dsMem, R1 M1 → (¬ (g1 M1) = 0) → ∀ M2 : dsMem, R2 M1 M2 → (¬ (g2 M1 M2) = 0) → ∀ M11 : dsMem, R11 M1 M2 M11 → (((M11 84 12) = 0)) → ∀ M12 : dsMem, R12 M1 M2 M11 M12 → ((g12 M1 M2 M11 M12) = 0) → ∀ M13 : dsMem, R13 M1 M2 M11 M12 M13 → ((g13 M1 M2 M11 M12 M13) = 0) → ∀ M14 : dsMem, R14 M1 M2 M11 M12 M13 M14 → (¬ (g14 M1 M2 M11 M12 M13 M14) = 0) → bCt 209 [uR 11 84, uX 0] M14 (fun _ => []) (R17 M1 M2 M11 M12 M13 M14)) (k7 : ∀ M1 : dsMem, R1 M1 → (¬ (g1 M1) = 0) → ∀ M2 : dsMem, R2 M1 M2 → (¬ (g2 M1 M2) = 0) → ∀ M11 : dsMem, R11 M1 M2 M11 → (((M11 84 12) = 0)) → ∀ M12 : dsMem, R12 M1 M2 M11 M12 → ((g12 M1 M2 M11 M12) = 0) → ∀ M13 : dsMem, R13 M1 M2 M11 M12 M13 → ((g13 M1 M2 M11 M12 M13) = 0) → ∀ M14 : dsMem, R14 M1 M2 M11 M12 M13 M14 → (¬ (g14 M1 M2 M11 M12 M13 M14) = 0) → ∀ M17 : dsMem, R17 M1 M2 M11 M12 M13 M14 M17 → Q [] M17) (hA18 : ∀ M1 : dsMem, R1 M1 → (¬ (g1 M1) = 0) → ∀ M2 : dsMem, R2 M1 M2 → (¬ (g2 M1 M2) = 0) → ∀ M11 : dsMem, R11 M1 M2 M11 → (((M11 84 12) = 0)) → ∀ M12 : dsMem, R12 M1 M2 M11 M12 → ((g12 M1 M2 M11 M12) = 0) → ∀ M13 : dsMem, R13 M1 M2 M11 M12 M13 → (¬ (g13 M1 M2 M11 M12 M13) = 0) → bCt 208 [uR 11 84, uX 0] M13 (fun _ => []) (R18 M1 M2 M11 M12 M13)) (k8 : ∀ M1 : dsMem, R1 M1 → (¬ (g1 M1) = 0) → ∀ M2 : dsMem, R2 M1 M2 → (¬ (g2 M1 M2) = 0) → ∀ M11 : dsMem, R11 M1 M2 M11 → (((M11 84 12) = 0)) → ∀ M12 : dsMem, R12 M1 M2 M11 M12 → ((g12 M1 M2 M11 M12) = 0) → ∀ M13 : dsMem, R13 M1 M2 M11 M12 M13 → (¬ (g13 M1 M2 M11 M12 M13) = 0) → ∀ M18 : dsMem, R18 M1 M2 M11 M12 M13 M18 → Q [] M18) (hA19 : ∀ M1 : dsMem, R1 M1 → (¬ (g1 M1) = 0) → ∀ M2 : dsMem, R2 M1 M2 → (¬ (g2 M1 M2) = 0) → ∀ M11 : dsMem, R11 M1 M2 M11 → (((M11 84 12) = 0)) → ∀ M12 : dsMem, R12 M1 M2 M11 M12 → (¬ (g12 M1 M2 M11 M12) = 0) → bCt 207 [uR 11 84, uX 0] M12 (fun _ => []) (R19 M1 M2 M11 M12)) (k9 : ∀ M1 : dsMem, R1 M1 → (¬ (g1 M1) = 0) → ∀ M2 : dsMem, R2 M1 M2 → (¬ (g2 M1 M2) = 0) → ∀ M11 : dsMem, R11 M1 M2 M11 → (((M11 84 12) = 0)) → ∀ M12 : dsMem, R12 M1 M2 M11 M12 → (¬ (g12 M1 M2 M11 M12) = 0) → ∀ M19 : dsMem, R19 M1 M2 M11 M12 M19 → Q [] M19) (k10 : ∀ M1 : dsMem, R1 M1 → (¬ (g1 M1) = 0) → ∀ M2 : dsMem, R2 M1 M2 → (¬ (g2 M1 M2) = 0) → ∀ M11 : dsMem, R11 M1 M2 M11 → (¬ ((M11 84 12) = 0)) → Q [] M11) (hA20 : ∀ M1 : dsMem, R1 M1 → ((g1 M1) = 0) → bCt 200 [uR 11 84, uX 9, uX 0, uX 0] M1 (fun M20 => [uI (g20 M1 M20)]) (R20 M1)) (hA21 : ∀ M1 : dsMem, R1 M1 → ((g1 M1) = 0) → ∀ M20 : dsMem, R20 M1 M20 → (¬ (g20 M1 M20) = 0) → bCt 211 [uR 11 84] M20 (fun M21 => [uI (g21 M1 M20 M21)]) (R21 M1 M20)) (hA22 : ∀ M1 : dsMem, R1 M1 → ((g1 M1) = 0) → ∀ M20 : dsMem, R20 M1 M20 → (¬ (g20 M1 M20) = 0) → ∀ M21 : dsMem, R21 M1 M20 M21 → ((g21 M1 M20 M21) = 0) → (((M21 84 12) = 0)) → bCt 201 [uR 11 84, uX 6, uX 0] M21 (fun M22 => [uI (g22 M1 M20 M21 M22)]) (R22 M1 M20 M21)) (hA23 : ∀ M1 : dsMem, R1 M1 → ((g1 M1) = 0) → ∀ M20 : dsMem, R20 M1 M20 → (¬ (g20 M1 M20) = 0) → ∀ M21 : dsMem, R21 M1 M20 M21 → ((g21 M1 M20 M21) = 0) → (((M21 84 12) = 0)) → ∀ M22 : dsMem, R22 M1 M20 M21 M22 → ((g22 M1 M20 M21 M22) = 0) → bCt 201 [uR 11 84, uX 9, uX 0] M22 (fun M23 => [uI (g23 M1 M20 M21 M22 M23)]) (R23 M1 M20 M21 M22)) (hA24 : ∀ M1 : dsMem, R1 M1 → ((g1 M1) = 0) → ∀ M20 : dsMem, R20 M1 M20 → (¬ (g20 M1 M20) = 0) → ∀ M21 : dsMem, R21 M1 M20 M21 → ((g21 M1 M20 M21) = 0) → (((M21 84 12) = 0)) → ∀ M22 : dsMem, R22 M1 M20 M21 M22 → ((g22 M1 M20 M21 M22) = 0) → ∀ M23 : dsMem, R23 M1 M20 M21 M22 M23 → ((g23 M1 M20 M21 M22 M23) = 0) → bCt 201 [uR 11 84, uX 13, uX 0] M23 (fun M24 => [uI (g24 M1 M20 M21 M22 M23 M24)]) (R24 M1 M20 M21 M22 M23)) (hA25 : ∀ M1 : dsMem, R1 M1 → ((g1 M1) = 0) → ∀ M20 : dsMem, R20 M1 M20 → (¬ (g20 M1 M20) = 0) → ∀ M21 : dsMem, R21 M1 M20 M21 → ((g21 M1 M20 M21) = 0) → (((M21 84 12) = 0)) → ∀ M22 : dsMem, R22 M1 M20 M21 M22 → ((g22 M1 M20 M21 M22) = 0) → ∀ M23 : dsMem, R23 M1 M20 M21 M22 M23 → ((g23 M1 M20 M21 M22 M23) = 0) → ∀ M24 : dsMem, R24 M1 M20 M21 M22 M23 M24 → ((g24 M1 M20 M21 M22 M23 M24) = 0) → bCt 197 [uR 11 84, uX 0] M24 (fun _ => []) (R25 M1 M20 M21 M22 M23 M24)) (hA26 : ∀ M1 : dsMem, R1 M1 → ((g1 M1) = 0) → ∀ M20 : dsMem, R20 M1 M20 → (¬ (g20 M1 M20) = 0) → ∀ M21 : dsMem, R21 M1 M20 M21 → ((g21 M1 M20 M21) = 0) → (((M21 84 12) = 0)) → ∀ M22 : dsMem, R22 M1 M20 M21 M22 → ((g22 M1 M20 M21 M22) = 0) → ∀ M23 : dsMem, R23 M1 M20 M21 M22 M23 → ((g23 M1 M20 M21 M22 M23) = 0) → ∀ M24 : dsMem, R24 M1 M20 M21 M22 M23 M24 → ((g24 M1 M20 M21 M22 M23 M24) = 0) → ∀ M25 : dsMem, R25 M1 M20 M21 M22 M23 M24 M25 → bCt 210 [uR 11 84, uX 0] M25 (fun _ => []) (R26 M1 M20 M21 M22 M23 M24 M25)) (k11 : ∀ M1 : dsMem, R1 M1 → ((g1 M1) = 0) → ∀ M20 : dsMem, R20 M1 M20 → (¬ (g20 M1 M20) = 0) → ∀ M21 : dsMem, R21 M1 M20 M21 → ((g21 M1 M20 M21) = 0) → (((M21 84 12) = 0)) → ∀ M22 : dsMem, R22 M1 M20 M21 M22 → ((g22 M1 M20 M21 M22) = 0) → ∀ M23 : dsMem, R23 M1 M20 M21 M22 M23 → ((g23 M1 M20 M21 M22 M23) = 0) → ∀ M24 : dsMem, R24 M1 M20 M21 M22 M23 M24 → ((g24 M1 M20 M21 M22 M23 M24) = 0) → ∀ M25 : dsMem, R25 M1 M20 M21 M22 M23 M24 M25 → ∀ M26 : dsMem, R26 M1 M20 M21 M22 M23 M24 M25 M26 → Q [] M26) (hA27 : ∀ M1 : dsMem, R1 M1 → ((g1 M1) = 0) → ∀ M20 : dsMem, R20 M1 M20 → (¬ (g20 M1 M20) = 0) → ∀ M21 : dsMem, R21 M1 M20 M21 → ((g21 M1 M20 M21) = 0) → (((M21 84 12) = 0)) → ∀ M22 : dsMem, R22 M1 M20 M21 M22 → ((g22 M1 M20 M21 M22) = 0) → ∀ M23 : dsMem, R23 M1 M20 M21 M22 M23 → ((g23 M1 M20 M21 M22 M23) = 0) → ∀ M24 : dsMem, R24 M1 M20 M21 M22 M23 M24 → (¬ (g24 M1 M20 M21 M22 M23 M24) = 0) → bCt 209 [uR 11 84, uX 0] M24 (fun _ => []) (R27 M1 M20 M21 M22 M23 M24)) (k12 : ∀ M1 : dsMem, R1 M1 → ((g1 M1) = 0) → ∀ M20 : dsMem, R20 M1 M20 → (¬ (g20 M1 M20) = 0) → ∀ M21 : dsMem, R21 M1 M20 M21 → ((g21 M1 M20 M21) = 0) → (((M21 84 12) = 0)) → ∀ M22 : dsMem, R22 M1 M20 M21 M22 → ((g22 M1 M20 M21 M22) = 0) → ∀ M23 : dsMem, R23 M1 M20 M21 M22 M23 → ((g23 M1 M20 M21 M22 M23) = 0) → ∀ M24 : dsMem, R24 M1 M20 M21 M22 M23 M24 → (¬ (g24 M1 M20 M21 M22 M23 M24) = 0) → ∀ M27 : dsMem, R27 M1 M20 M21 M22 M23 M24 M27 → Q [] M27) (hA28 : ∀ M1 : dsMem, R1 M1 → ((g1 M1) = 0) → ∀ M20 : dsMem, R20 M1 M20 → (¬ (g20 M1 M20) = 0) → ∀ M21 : dsMem, R21 M1 M20 M21 → ((g21 M1 M20 M21) = 0) → (((M21 84 12) = 0)) → ∀ M22 : dsMem, R22 M1 M20 M21 M22 → ((g22 M1 M20 M21 M22) = 0) → ∀ M23 : dsMem, R23 M1 M20 M21 M22 M23 → (¬ (g23 M1 M20 M21 M22 M23) = 0) → bCt 208 [uR 11 84, uX 0] M23 (fun _ => []) (R28 M1 M20 M21 M22 M23)) (k13 : ∀ M1 : dsMem, R1 M1 → ((g1 M1) = 0) → ∀ M20 : dsMem, R20 M1 M20 → (¬ (g20 M1 M20) = 0) → ∀ M21 : dsMem, R21 M1 M20 M21 → ((g21 M1 M20 M21) = 0) → (((M21 84 12) = 0)) → ∀ M22 : dsMem, R22 M1 M20 M21 M22 → ((g22 M1 M20 M21 M22) = 0) → ∀ M23 : dsMem, R23 M1 M20 M21 M22 M23 → (¬ (g23 M1 M20 M21 M22 M23) = 0) → ∀ M28 : dsMem, R28 M1 M20 M21 M22 M23 M28 → Q [] M28) (hA29 : ∀ M1 : dsMem, R1 M1 → ((g1 M1) = 0) → ∀ M20 : dsMem, R20 M1 M20 → (¬ (g20 M1 M20) = 0) → ∀ M21 : dsMem, R21 M1 M20 M21 → ((g21 M1 M20 M21) = 0) → (((M21 84 12) = 0)) → ∀ M22 : dsMem, R22 M1 M20 M21 M22 → (¬ (g22 M1 M20 M21 M22) = 0) → bCt 207 [uR 11 84, uX 0] M22 (fun _ => []) (R29 M1 M20 M21 M22)) (k14 : ∀ M1 : dsMem, R1 M1 → ((g1 M1) = 0) → ∀ M20 : dsMem, R20 M1 M20 → (¬ (g20 M1 M20) = 0) → ∀ M21 : dsMem, R21 M1 M20 M21 → ((g21 M1 M20 M21) = 0) → (((M21 84 12) = 0)) → ∀ M22 : dsMem, R22 M1 M20 M21 M22 → (¬ (g22 M1 M20 M21 M22) = 0) → ∀ M29 : dsMem, R29 M1 M20 M21 M22 M29 → Q [] M29) (k15 : ∀ M1 : dsMem, R1 M1 → ((g1 M1) = 0) → ∀ M20 : dsMem, R20 M1 M20 → (¬ (g20 M1 M20) = 0) → ∀ M21 : dsMem, R21 M1 M20 M21 → ((g21 M1 M20 M21) = 0) → (¬ ((M21 84 12) = 0)) → Q [] M21) (hA30 : ∀ M1 : dsMem, R1 M1 → ((g1 M1) = 0) → ∀ M20 : dsMem, R20 M1 M20 → (¬ (g20 M1 M20) = 0) → ∀ M21 : dsMem, R21 M1 M20 M21 → (¬ (g21 M1 M20 M21) = 0) → bCt 199 [uR 11 84, uI 3] M21 (fun _ => []) (R30 M1 M20 M21)) (hA31 : ∀ M1 : dsMem, R1 M1 → ((g1 M1) = 0) → ∀ M20 : dsMem, R20 M1 M20 → (¬ (g20 M1 M20) = 0) → ∀ M21 : dsMem, R21 M1 M20 M21 → (¬ (g21 M1 M20 M21) = 0) → ∀ M30 : dsMem, R30 M1 M20 M21 M30 → (((M30 84 12) = 0)) → bCt 201 [uR 11 84, uX 6, uX 0] M30 (fun M31 => [uI (g31 M1 M20 M21 M30 M31)]) (R31 M1 M20 M21 M30)) (hA32 : ∀ M1 : dsMem, R1 M1 → ((g1 M1) = 0) → ∀ M20 : dsMem, R20 M1 M20 → (¬ (g20 M1 M20) = 0) → ∀ M21 : dsMem, R21 M1 M20 M21 → (¬ (g21 M1 M20 M21) = 0) → ∀ M30 : dsMem, R30 M1 M20 M21 M30 → (((M30 84 12) = 0)) → ∀ M31 : dsMem, R31 M1 M20 M21 M30 M31 → ((g31 M1 M20 M21 M30 M31) = 0) → bCt 201 [uR 11 84, uX 9, uX 0] M31 (fun M32 => [uI (g32 M1 M20 M21 M30 M31 M32)]) (R32 M1 M20 M21 M30 M31)) (hA33 : ∀ M1 : dsMem, R1 M1 → ((g1 M1) = 0) → ∀ M20 : dsMem, R20 M1 M20 → (¬ (g20 M1 M20) = 0) → ∀ M21 : dsMem, R21 M1 M20 M21 → (¬ (g21 M1 M20 M21) = 0) → ∀ M30 : dsMem, R30 M1 M20 M21 M30 → (((M30 84 12) = 0)) → ∀ M31 : dsMem, R31 M1 M20 M21 M30 M31 → ((g31 M1 M20 M21 M30 M31) = 0) → ∀ M32 : dsMem, R32 M1 M20 M21 M30 M31 M32 → ((g32 M1 M20 M21 M30 M31 M32) = 0) → bCt 201 [uR 11 84, uX 13, uX 0] M32 (fun M33 => [uI (g33 M1 M20 M21 M30 M31 M32 M33)]) (R33 M1 M20 M21 M30 M31 M32)) (hA34 : ∀ M1 : dsMem, R1 M1 → ((g1 M1) = 0) → ∀ M20 : dsMem, R20 M1 M20 → (¬ (g20 M1 M20) = 0) → ∀ M21 : dsMem, R21 M1 M20 M21 → (¬ (g21 M1 M20 M21) = 0) → ∀ M30 : dsMem, R30 M1 M20 M21 M30 → (((M30 84 12) = 0)) → ∀ M31 : dsMem, R31 M1 M20 M21 M30 M31 → ((g31 M1 M20 M21 M30 M31) = 0) → ∀ M32 : dsMem, R32 M1 M20 M21 M30 M31 M32 → ((g32 M1 M20 M21 M30 M31 M32) = 0) → ∀ M33 : dsMem, R33 M1 M20 M21 M30 M31 M32 M33 → ((g33 M1 M20 M21 M30 M31 M32 M33) = 0) → bCt 197 [uR 11 84, uX 0] M33 (fun _ => []) (R34 M1 M20 M21 M30 M31 M32 M33)) (hA35 : ∀ M1 : dsMem, R1 M1 → ((g1 M1) = 0) → ∀ M20 : dsMem, R20 M1 M20 → (¬ (g20 M1 M20) = 0) → ∀ M21 : dsMem, R21 M1 M20 M21 → (¬ (g21 M1 M20 M21) = 0) → ∀ M30 : dsMem, R30 M1 M20 M21 M30 → (((M30 84 12) = 0)) → ∀ M31 : dsMem, R31 M1 M20 M21 M30 M31 → ((g31 M1 M20 M21 M30 M31) = 0) → ∀ M32 : dsMem, R32 M1 M20 M21 M30 M31 M32 → ((g32 M1 M20 M21 M30 M31 M32) = 0) → ∀ M33 : dsMem, R33 M1 M20 M21 M30 M31 M32 M33 → ((g33 M1 M20 M21 M30 M31 M32 M33) = 0) → ∀ M34 : dsMem, R34 M1 M20 M21 M30 M31 M32 M33 M34 → bCt 210 [uR 11 84, uX 0] M34 (fun _ => []) (R35 M1 M20 M21 M30 M31 M32 M33 M34)) (k16 : ∀ M1 : dsMem, R1 M1 → ((g1 M1) = 0) → ∀ M20 : dsMem, R20 M1 M20 → (¬ (g20 M1 M20) = 0) → ∀ M21 : dsMem, R21 M1 M20 M21 → (¬ (g21 M1 M20 M21) = 0) → ∀ M30 : dsMem, R30 M1 M20 M21 M30 → (((M30 84 12) = 0)) → ∀ M31 : dsMem, R31 M1 M20 M21 M30 M31 → ((g31 M1 M20 M21 M30 M31) = 0) → ∀ M32 : dsMem, R32 M1 M20 M21 M30 M31 M32 → ((g32 M1 M20 M21 M30 M31 M32) = 0) → ∀ M33 : dsMem, R33 M1 M20 M21 M30 M31 M32 M33 → ((g33 M1 M20 M21 M30 M31 M32 M33) = 0) → ∀ M34 : dsMem, R34 M1 M20 M21 M30 M31 M32 M33 M34 → ∀ M35 : dsMem, R35 M1 M20 M21 M30 M31 M32 M33 M34 M35 → Q [] M35) (hA36 : ∀ M1 : dsMem, R1 M1 → ((g1 M1) = 0) → ∀ M20 : dsMem, R20 M1 M20 → (¬ (g20 M1 M20) = 0) → ∀ M21 : dsMem, R21 M1 M20 M21 → (¬ (g21 M1 M20 M21) = 0) → ∀ M30 : dsMem, R30 M1 M20 M21 M30 → (((M30 84 12) = 0)) → ∀ M31 : dsMem, R31 M1 M20 M21 M30 M31 → ((g31 M1 M20 M21 M30 M31) = 0) → ∀ M32 : dsMem, R32 M1 M20 M21 M30 M31 M32 → ((g32 M1 M20 M21 M30 M31 M32) = 0) → ∀ M33 : dsMem, R33 M1 M20 M21 M30 M31 M32 M33 → (¬ (g33 M1 M20 M21 M30 M31 M32 M33) = 0) → bCt 209 [uR 11 84, uX 0] M33 (fun _ => []) (R36 M1 M20 M21 M30 M31 M32 M33)) (k17 : ∀ M1 : dsMem, R1 M1 → ((g1 M1) = 0) → ∀ M20 : dsMem, R20 M1 M20 → (¬ (g20 M1 M20) = 0) → ∀ M21 : dsMem, R21 M1 M20 M21 → (¬ (g21 M1 M20 M21) = 0) → ∀ M30 : dsMem, R30 M1 M20 M21 M30 → (((M30 84 12) = 0)) → ∀ M31 : dsMem, R31 M1 M20 M21 M30 M31 → ((g31 M1 M20 M21 M30 M31) = 0) → ∀ M32 : dsMem, R32 M1 M20 M21 M30 M31 M32 → ((g32 M1 M20 M21 M30 M31 M32) = 0) → ∀ M33 : dsMem, R33 M1 M20 M21 M30 M31 M32 M33 → (¬ (g33 M1 M20 M21 M30 M31 M32 M33) = 0) → ∀ M36 : dsMem, R36 M1 M20 M21 M30 M31 M32 M33 M36 → Q [] M36) (hA37 : ∀ M1 : dsMem, R1 M1 → ((g1 M1) = 0) → ∀ M20 : dsMem, R20 M1 M20 → (¬ (g20 M1 M20) = 0) → ∀ M21 : dsMem, R21 M1 M20 M21 → (¬ (g21 M1 M20 M21) = 0) → ∀ M30 : dsMem, R30 M1 M20 M21 M30 → (((M30 84 12) = 0)) → ∀ M31 : dsMem, R31 M1 M20 M21 M30 M31 → ((g31 M1 M20 M21 M30 M31) = 0) → ∀ M32 : dsMem, R32 M1 M20 M21 M30 M31 M32 → (¬ (g32 M1 M20 M21 M30 M31 M32) = 0) → bCt 208 [uR 11 84, uX 0] M32 (fun _ => []) (R37 M1 M20 M21 M30 M31 M32)) (k18 : ∀ M1 : dsMem, R1 M1 → ((g1 M1) = 0) → ∀ M20 : dsMem, R20 M1 M20 → (¬ (g20 M1 M20) = 0) → ∀ M21 : dsMem, R21 M1 M20 M21 → (¬ (g21 M1 M20 M21) = 0) → ∀ M30 : dsMem, R30 M1 M20 M21 M30 → (((M30 84 12) = 0)) → ∀ M31 : dsMem, R31 M1 M20 M21 M30 M31 → ((g31 M1 M20 M21 M30 M31) = 0) → ∀ M32 : dsMem, R32 M1 M20 M21 M30 M31 M32 → (¬ (g32 M1 M20 M21 M30 M31 M32) = 0) → ∀ M37 : dsMem, R37 M1 M20 M21 M30 M31 M32 M37 → Q [] M37) (hA38 : ∀ M1 : dsMem, R1 M1 → ((g1 M1) = 0) → ∀ M20 : dsMem, R20 M1 M20 → (¬ (g20 M1 M20) = 0) → ∀ M21 : dsMem, R21 M1 M20 M21 → (¬ (g21 M1 M20 M21) = 0) → ∀ M30 : dsMem, R30 M1 M20 M21 M30 → (((M30 84 12) = 0)) → ∀ M31 : dsMem, R31 M1 M20 M21 M30 M31 → (¬ (g31 M1 M20 M21 M30 M31) = 0) → bCt 207 [uR 11 84, uX 0] M31 (fun _ => []) (R38 M1 M20 M21 M30 M31)) (k19 : ∀ M1 : dsMem, R1 M1 → ((g1 M1) = 0) → ∀ M20 : dsMem, R20 M1 M20 → (¬ (g20 M1 M20) = 0) → ∀ M21 : dsMem, R21 M1 M20 M21 → (¬ (g21 M1 M20 M21) = 0) → ∀ M30 : dsMem, R30 M1 M20 M21 M30 → (((M30 84 12) = 0)) → ∀ M31 : dsMem, R31 M1 M20 M21 M30 M31 → (¬ (g31 M1 M20 M21 M30 M31) = 0) → ∀ M38 : dsMem, R38 M1 M20 M21 M30 M31 M38 → Q [] M38) (k20 : ∀ M1 : dsMem, R1 M1 → ((g1 M1) = 0) → ∀ M20 : dsMem, R20 M1 M20 → (¬ (g20 M1 M20) = 0) → ∀ M21 : dsMem, R21 M1 M20 M21 → (¬ (g21 M1 M20 M21) = 0) → ∀ M30 : dsMem, R30 M1 M20 M21 M30 → (¬ ((M30 84 12) = 0)) → Q [] M30) (hA39 : ∀ M1 : dsMem, R1 M1 → ((g1 M1) = 0) → ∀ M20 : dsMem, R20 M1 M20 → ((g20 M1 M20) = 0) → bCt 200 [uR 11 84, uX 13, uX 0, uX 0] M20 (fun M39 => [uI (g39 M1 M20 M39)]) (R39 M1 M20)) (hA40 : ∀ M1 : dsMem, R1 M1 → ((g1 M1) = 0) → ∀ M20 : dsMem, R20 M1 M20 → ((g20 M1 M20) = 0) → ∀ M39 : dsMem, R39 M1 M20 M39 → (¬ (g39 M1 M20 M39) = 0) → bCt 211 [uR 11 84] M39 (fun M40 => [uI (g40 M1 M20 M39 M40)]) (R40 M1 M20 M39)) (hA41 : ∀ M1 : dsMem, R1 M1 → ((g1 M1) = 0) → ∀ M20 : dsMem, R20 M1 M20 → ((g20 M1 M20) = 0) → ∀ M39 : dsMem, R39 M1 M20 M39 → (¬ (g39 M1 M20 M39) = 0) → ∀ M40 : dsMem, R40 M1 M20 M39 M40 → ((g40 M1 M20 M39 M40) = 0) → (((M40 84 12) = 0)) → bCt 201 [uR 11 84, uX 6, uX 0] M40 (fun M41 => [uI (g41 M1 M20 M39 M40 M41)]) (R41 M1 M20 M39 M40)) (hA42 : ∀ M1 : dsMem, R1 M1 → ((g1 M1) = 0) → ∀ M20 : dsMem, R20 M1 M20 → ((g20 M1 M20) = 0) → ∀ M39 : dsMem, R39 M1 M20 M39 → (¬ (g39 M1 M20 M39) = 0) → ∀ M40 : dsMem, R40 M1 M20 M39 M40 → ((g40 M1 M20 M39 M40) = 0) → (((M40 84 12) = 0)) → ∀ M41 : dsMem, R41 M1 M20 M39 M40 M41 → ((g41 M1 M20 M39 M40 M41) = 0) → bCt 201 [uR 11 84, uX 9, uX 0] M41 (fun M42 => [uI (g42 M1 M20 M39 M40 M41 M42)]) (R42 M1 M20 M39 M40 M41)) (hA43 : ∀ M1 : dsMem, R1 M1 → ((g1 M1) = 0) → ∀ M20 : dsMem, R20 M1 M20 → ((g20 M1 M20) = 0) → ∀ M39 : dsMem, R39 M1 M20 M39 → (¬ (g39 M1 M20 M39) = 0) → ∀ M40 : dsMem, R40 M1 M20 M39 M40 → ((g40 M1 M20 M39 M40) = 0) → (((M40 84 12) = 0)) → ∀ M41 : dsMem, R41 M1 M20 M39 M40 M41 → ((g41 M1 M20 M39 M40 M41) = 0) → ∀ M42 : dsMem, R42 M1 M20 M39 M40 M41 M42 → ((g42 M1 M20 M39 M40 M41 M42) = 0) → bCt 201 [uR 11 84, uX 13, uX 0] M42 (fun M43 => [uI (g43 M1 M20 M39 M40 M41 M42 M43)]) (R43 M1 M20 M39 M40 M41 M42)) (hA44 : ∀ M1 : dsMem, R1 M1 → ((g1 M1) = 0) → ∀ M20 : dsMem, R20 M1 M20 → ((g20 M1 M20) = 0) → ∀ M39 : dsMem, R39 M1 M20 M39 → (¬ (g39 M1 M20 M39) = 0) → ∀ M40 : dsMem, R40 M1 M20 M39 M40 → ((g40 M1 M20 M39 M40) = 0) → (((M40 84 12) = 0)) → ∀ M41 : dsMem, R41 M1 M20 M39 M40 M41 → ((g41 M1 M20 M39 M40 M41) = 0) → ∀ M42 : dsMem, R42 M1 M20 M39 M40 M41 M42 → ((g42 M1 M20 M39 M40 M41 M42) = 0) → ∀ M43 : dsMem, R43 M1 M20 M39 M40 M41 M42 M43 → ((g43 M1 M20 M39 M40 M41 M42 M43) = 0) → bCt 197 [uR 11 84, uX 0] M43 (fun _ => []) (R44 M1 M20 M39 M40 M41 M42 M43)) (hA45 : ∀ M1 : dsMem, R1 M1 → ((g1 M1) = 0) → ∀ M20 : dsMem, R20 M1 M20 → ((g20 M1 M20) = 0) → ∀ M39 : dsMem, R39 M1 M20 M39 → (¬ (g39 M1 M20 M39) = 0) → ∀ M40 : dsMem, R40 M1 M20 M39 M40 → ((g40 M1 M20 M39 M40) = 0) → (((M40 84 12) = 0)) → ∀ M41 : dsMem, R41 M1 M20 M39 M40 M41 → ((g41 M1 M20 M39 M40 M41) = 0) → ∀ M42 : dsMem, R42 M1 M20 M39 M40 M41 M42 → ((g42 M1 M20 M39 M40 M41 M42) = 0) → ∀ M43 : dsMem, R43 M1 M20 M39 M40 M41 M42 M43 → ((g43 M1 M20 M39 M40 M41 M42 M43) = 0) → ∀ M44 : dsMem, R44 M1 M20 M39 M40 M41 M42 M43 M44 → bCt 210 [uR 11 84, uX 0] M44 (fun _ => []) (R45 M1 M20 M39 M40 M41 M42 M43 M44)) (k21 : ∀ M1 : dsMem, R1 M1 → ((g1 M1) = 0) → ∀ M20 : dsMem, R20 M1 M20 → ((g20 M1 M20) = 0) → ∀ M39 : dsMem, R39 M1 M20 M39 → (¬ (g39 M1 M20 M39) = 0) → ∀ M40 : dsMem, R40 M1 M20 M39 M40 → ((g40 M1 M20 M39 M40) = 0) → (((M40 84 12) = 0)) → ∀ M41 : dsMem, R41 M1 M20 M39 M40 M41 → ((g41 M1 M20 M39 M40 M41) = 0) → ∀ M42 : dsMem, R42 M1 M20 M39 M40 M41 M42 → ((g42 M1 M20 M39 M40 M41 M42) = 0) → ∀ M43 : dsMem, R43 M1 M20 M39 M40 M41 M42 M43 → ((g43 M1 M20 M39 M40 M41 M42 M43) = 0) → ∀ M44 : dsMem, R44 M1 M20 M39 M40 M41 M42 M43 M44 → ∀ M45 : dsMem, R45 M1 M20 M39 M40 M41 M42 M43 M44 M45 → Q [] M45) (hA46 : ∀ M1 : dsMem, R1 M1 → ((g1 M1) = 0) → ∀ M20 : dsMem, R20 M1 M20 → ((g20 M1 M20) = 0) → ∀ M39 : dsMem, R39 M1 M20 M39 → (¬ (g39 M1 M20 M39) = 0) → ∀ M40 : dsMem, R40 M1 M20 M39 M40 → ((g40 M1 M20 M39 M40) = 0) → (((M40 84 12) = 0)) → ∀ M41 : dsMem, R41 M1 M20 M39 M40 M41 → ((g41 M1 M20 M39 M40 M41) = 0) → ∀ M42 : dsMem, R42 M1 M20 M39 M40 M41 M42 → ((g42 M1 M20 M39 M40 M41 M42) = 0) → ∀ M43 : dsMem, R43 M1 M20 M39 M40 M41 M42 M43 → (¬ (g43 M1 M20 M39 M40 M41 M42 M43) = 0) → bCt 209 [uR 11 84, uX 0] M43 (fun _ => []) (R46 M1 M20 M39 M40 M41 M42 M43)) (k22 : ∀ M1 : dsMem, R1 M1 → ((g1 M1) = 0) → ∀ M20 : dsMem, R20 M1 M20 → ((g20 M1 M20) = 0) → ∀ M39 : dsMem, R39 M1 M20 M39 → (¬ (g39 M1 M20 M39) = 0) → ∀ M40 : dsMem, R40 M1 M20 M39 M40 → ((g40 M1 M20 M39 M40) = 0) → (((M40 84 12) = 0)) → ∀ M41 : dsMem, R41 M1 M20 M39 M40 M41 → ((g41 M1 M20 M39 M40 M41) = 0) → ∀ M42 : dsMem, R42 M1 M20 M39 M40 M41 M42 → ((g42 M1 M20 M39 M40 M41 M42) = 0) → ∀ M43 : dsMem, R43 M1 M20 M39 M40 M41 M42 M43 → (¬ (g43 M1 M20 M39 M40 M41 M42 M43) = 0) → ∀ M46 : dsMem, R46 M1 M20 M39 M40 M41 M42 M43 M46 → Q [] M46) (hA47 : ∀ M1 : dsMem, R1 M1 → ((g1 M1) = 0) → ∀ M20 : dsMem, R20 M1 M20 → ((g20 M1 M20) = 0) → ∀ M39 : dsMem, R39 M1 M20 M39 → (¬ (g39 M1 M20 M39) = 0) → ∀ M40 : dsMem, R40 M1 M20 M39 M40 → ((g40 M1 M20 M39 M40) = 0) → (((M40 84 12) = 0)) → ∀ M41 : dsMem, R41 M1 M20 M39 M40 M41 → ((g41 M1 M20 M39 M40 M41) = 0) → ∀ M42 : dsMem, R42 M1 M20 M39 M40 M41 M42 → (¬ (g42 M1 M20 M39 M40 M41 M42) = 0) → bCt 208 [uR 11 84, uX 0] M42 (fun _ => []) (R47 M1 M20 M39 M40 M41 M42)) (k23 : ∀ M1 : dsMem, R1 M1 → ((g1 M1) = 0) → ∀ M20 : dsMem, R20 M1 M20 → ((g20 M1 M20) = 0) → ∀ M39 : dsMem, R39 M1 M20 M39 → (¬ (g39 M1 M20 M39) = 0) → ∀ M40 : dsMem, R40 M1 M20 M39 M40 → ((g40 M1 M20 M39 M40) = 0) → (((M40 84 12) = 0)) → ∀ M41 : dsMem, R41 M1 M20 M39 M40 M41 → ((g41 M1 M20 M39 M40 M41) = 0) → ∀ M42 : dsMem, R42 M1 M20 M39 M40 M41 M42 → (¬ (g42 M1 M20 M39 M40 M41 M42) = 0) → ∀ M47 : dsMem, R47 M1 M20 M39 M40 M41 M42 M47 → Q [] M47) (hA48 : ∀ M1 : dsMem, R1 M1 → ((g1 M1) = 0) → ∀ M20 : dsMem, R20 M1 M20 → ((g20 M1 M20) = 0) → ∀ M39 : dsMem, R39 M1 M20 M39 → (¬ (g39 M1 M20 M39) = 0) → ∀ M40 : dsMem, R40 M1 M20 M39 M40 → ((g40 M1 M20 M39 M40) = 0) → (((M40 84 12) = 0)) → ∀ M41 : dsMem, R41 M1 M20 M39 M40 M41 → (¬ (g41 M1 M20 M39 M40 M41) = 0) → bCt 207 [uR 11 84, uX 0] M41 (fun _ => []) (R48 M1 M20 M39 M40 M41)) (k24 : ∀ M1 : dsMem, R1 M1 → ((g1 M1) = 0) → ∀ M20 : dsMem, R20 M1 M20 → ((g20 M1 M20) = 0) → ∀ M39 : dsMem, R39 M1 M20 M39 → (¬ (g39 M1 M20 M39) = 0) → ∀ M40 : dsMem, R40 M1 M20 M39 M40 → ((g40 M1 M20 M39 M40) = 0) → (((M40 84 12) = 0)) → ∀ M41 : dsMem, R41 M1 M20 M39 M40 M41 → (¬ (g41 M1 M20 M39 M40 M41) = 0) → ∀ M48 : dsMem, R48 M1 M20 M39 M40 M41 M48 → Q [] M48) (k25 : ∀ M1 : dsMem, R1 M1 → ((g1 M1) = 0) → ∀ M20 : dsMem, R20 M1 M20 → ((g20 M1 M20) = 0) → ∀ M39 : dsMem, R39 M1 M20 M39 → (¬ (g39 M1 M20 M39) = 0) → ∀ M40 : dsMem, R40 M1 M20 M39 M40 → ((g40 M1 M20 M39 M40) = 0) → (¬ ((M40 84 12) = 0)) → Q [] M40) (hA49 : ∀ M1 : dsMem, R1 M1 → ((g1 M1) = 0) → ∀ M20 : dsMem, R20 M1 M20 → ((g20 M1 M20) = 0) → ∀ M39 : dsMem, R39 M1 M20 M39 → (¬ (g39 M1 M20 M39) = 0) → ∀ M40 : dsMem, R40 M1 M20 M39 M40 → (¬ (g40 M1 M20 M39 M40) = 0) → bCt 199 [uR 11 84, uI 3] M40 (fun _ => []) (R49 M1 M20 M39 M40)) (hA50 : ∀ M1 : dsMem, R1 M1 → ((g1 M1) = 0) → ∀ M20 : dsMem, R20 M1 M20 → ((g20 M1 M20) = 0) → ∀ M39 : dsMem, R39 M1 M20 M39 → (¬ (g39 M1 M20 M39) = 0) → ∀ M40 : dsMem, R40 M1 M20 M39 M40 → (¬ (g40 M1 M20 M39 M40) = 0) → ∀ M49 : dsMem, R49 M1 M20 M39 M40 M49 → (((M49 84 12) = 0)) → bCt 201 [uR 11 84, uX 6, uX 0] M49 (fun M50 => [uI (g50 M1 M20 M39 M40 M49 M50)]) (R50 M1 M20 M39 M40 M49)) (hA51 : ∀ M1 : dsMem, R1 M1 → ((g1 M1) = 0) → ∀ M20 : dsMem, R20 M1 M20 → ((g20 M1 M20) = 0) → ∀ M39 : dsMem, R39 M1 M20 M39 → (¬ (g39 M1 M20 M39) = 0) → ∀ M40 : dsMem, R40 M1 M20 M39 M40 → (¬ (g40 M1 M20 M39 M40) = 0) → ∀ M49 : dsMem, R49 M1 M20 M39 M40 M49 → (((M49 84 12) = 0)) → ∀ M50 : dsMem, R50 M1 M20 M39 M40 M49 M50 → ((g50 M1 M20 M39 M40 M49 M50) = 0) → bCt 201 [uR 11 84, uX 9, uX 0] M50 (fun M51 => [uI (g51 M1 M20 M39 M40 M49 M50 M51)]) (R51 M1 M20 M39 M40 M49 M50)) (hA52 : ∀ M1 : dsMem, R1 M1 → ((g1 M1) = 0) → ∀ M20 : dsMem, R20 M1 M20 → ((g20 M1 M20) = 0) → ∀ M39 : dsMem, R39 M1 M20 M39 → (¬ (g39 M1 M20 M39) = 0) → ∀ M40 : dsMem, R40 M1 M20 M39 M40 → (¬ (g40 M1 M20 M39 M40) = 0) → ∀ M49 : dsMem, R49 M1 M20 M39 M40 M49 → (((M49 84 12) = 0)) → ∀ M50 : dsMem, R50 M1 M20 M39 M40 M49 M50 → ((g50 M1 M20 M39 M40 M49 M50) = 0) → ∀ M51 : dsMem, R51 M1 M20 M39 M40 M49 M50 M51 → ((g51 M1 M20 M39 M40 M49 M50 M51) = 0) → bCt 201 [uR 11 84, uX 13, uX 0] M51 (fun M52 => [uI (g52 M1 M20 M39 M40 M49 M50 M51 M52)]) (R52 M1 M20 M39 M40 M49 M50 M51)) (hA53 : ∀ M1 : dsMem, R1 M1 → ((g1 M1) = 0) → ∀ M20 : dsMem, R20 M1 M20 → ((g20 M1 M20) = 0) → ∀ M39 : dsMem, R39 M1 M20 M39 → (¬ (g39 M1 M20 M39) = 0) → ∀ M40 : dsMem, R40 M1 M20 M39 M40 → (¬ (g40 M1 M20 M39 M40) = 0) → ∀ M49 : dsMem, R49 M1 M20 M39 M40 M49 → (((M49 84 12) = 0)) → ∀ M50 : dsMem, R50 M1 M20 M39 M40 M49 M50 → ((g50 M1 M20 M39 M40 M49 M50) = 0) → ∀ M51 : dsMem, R51 M1 M20 M39 M40 M49 M50 M51 → ((g51 M1 M20 M39 M40 M49 M50 M51) = 0) → ∀ M52 : dsMem, R52 M1 M20 M39 M40 M49 M50 M51 M52 → ((g52 M1 M20 M39 M40 M49 M50 M51 M52) = 0) → bCt 197 [uR 11 84, uX 0] M52 (fun _ => []) (R53 M1 M20 M39 M40 M49 M50 M51 M52)) (hA54 : ∀ M1 : dsMem, R1 M1 → ((g1 M1) = 0) → ∀ M20 : dsMem, R20 M1 M20 → ((g20 M1 M20) = 0) → ∀ M39 : dsMem, R39 M1 M20 M39 → (¬ (g39 M1 M20 M39) = 0) → ∀ M40 : dsMem, R40 M1 M20 M39 M40 → (¬ (g40 M1 M20 M39 M40) = 0) → ∀ M49 : dsMem, R49 M1 M20 M39 M40 M49 → (((M49 84 12) = 0)) → ∀ M50 : dsMem, R50 M1 M20 M39 M40 M49 M50 → ((g50 M1 M20 M39 M40 M49 M50) = 0) → ∀ M51 : dsMem, R51 M1 M20 M39 M40 M49 M50 M51 → ((g51 M1 M20 M39 M40 M49 M50 M51) = 0) → ∀ M52 : dsMem, R52 M1 M20 M39 M40 M49 M50 M51 M52 → ((g52 M1 M20 M39 M40 M49 M50 M51 M52) = 0) → ∀ M53 : dsMem, R53 M1 M20 M39 M40 M49 M50 M51 M52 M53 → bCt 210 [uR 11 84, uX 0] M53 (fun _ => []) (R54 M1 M20 M39 M40 M49 M50 M51 M52 M53)) (k26 : ∀ M1 : dsMem, R1 M1 → ((g1 M1) = 0) → ∀ M20 : dsMem, R20 M1 M20 → ((g20 M1 M20) = 0) → ∀ M39 : dsMem, R39 M1 M20 M39 → (¬ (g39 M1 M20 M39) = 0) → ∀ M40 : dsMem, R40 M1 M20 M39 M40 → (¬ (g40 M1 M20 M39 M40) = 0) → ∀ M49 : dsMem, R49 M1 M20 M39 M40 M49 → (((M49 84 12) = 0)) → ∀ M50 : dsMem, R50 M1 M20 M39 M40 M49 M50 → ((g50 M1 M20 M39 M40 M49 M50) = 0) → ∀ M51 : dsMem, R51 M1 M20 M39 M40 M49 M50 M51 → ((g51 M1 M20 M39 M40 M49 M50 M51) = 0) → ∀ M52 : dsMem, R52 M1 M20 M39 M40 M49 M50 M51 M52 → ((g52 M1 M20 M39 M40 M49 M50 M51 M52) = 0) → ∀ M53 : dsMem, R53 M1 M20 M39 M40 M49 M50 M51 M52 M53 → ∀ M54 : dsMem, R54 M1 M20 M39 M40 M49 M50 M51 M52 M53 M54 → Q [] M54) (hA55 : ∀ M1 : dsMem, R1 M1 → ((g1 M1) = 0) → ∀ M20 : dsMem, R20 M1 M20 → ((g20 M1 M20) = 0) → ∀ M39 : dsMem, R39 M1 M20 M39 → (¬ (g39 M1 M20 M39) = 0) → ∀ M40 : dsMem, R40 M1 M20 M39 M40 → (¬ (g40 M1 M20 M39 M40) = 0) → ∀ M49 : dsMem, R49 M1 M20 M39 M40 M49 → (((M49 84 12) = 0)) → ∀ M50 : dsMem, R50 M1 M20 M39 M40 M49 M50 → ((g50 M1 M20 M39 M40 M49 M50) = 0) → ∀ M51 : dsMem, R51 M1 M20 M39 M40 M49 M50 M51 → ((g51 M1 M20 M39 M40 M49 M50 M51) = 0) → ∀ M52 : dsMem, R52 M1 M20 M39 M40 M49 M50 M51 M52 → (¬ (g52 M1 M20 M39 M40 M49 M50 M51 M52) = 0) → bCt 209 [uR 11 84, uX 0] M52 (fun _ => []) (R55 M1 M20 M39 M40 M49 M50 M51 M52)) (k27 : ∀ M1 : dsMem, R1 M1 → ((g1 M1) = 0) → ∀ M20 : dsMem, R20 M1 M20 → ((g20 M1 M20) = 0) → ∀ M39 : dsMem, R39 M1 M20 M39 → (¬ (g39 M1 M20 M39) = 0) → ∀ M40 : dsMem, R40 M1 M20 M39 M40 → (¬ (g40 M1 M20 M39 M40) = 0) → ∀ M49 : dsMem, R49 M1 M20 M39 M40 M49 → (((M49 84 12) = 0)) → ∀ M50 : dsMem, R50 M1 M20 M39 M40 M49 M50 → ((g50 M1 M20 M39 M40 M49 M50) = 0) → ∀ M51 : dsMem, R51 M1 M20 M39 M40 M49 M50 M51 → ((g51 M1 M20 M39 M40 M49 M50 M51) = 0) → ∀ M52 : dsMem, R52 M1 M20 M39 M40 M49 M50 M51 M52 → (¬ (g52 M1 M20 M39 M40 M49 M50 M51 M52) = 0) → ∀ M55 : dsMem, R55 M1 M20 M39 M40 M49 M50 M51 M52 M55 → Q [] M55) (hA56 : ∀ M1 : dsMem, R1 M1 → ((g1 M1) = 0) → ∀ M20 : dsMem, R20 M1 M20 → ((g20 M1 M20) = 0) → ∀ M39 : dsMem, R39 M1 M20 M39 → (¬ (g39 M1 M20 M39) = 0) → ∀ M40 : dsMem, R40 M1 M20 M39 M40 → (¬ (g40 M1 M20 M39 M40) = 0) → ∀ M49 : dsMem, R49 M1 M20 M39 M40 M49 → (((M49 84 12) = 0)) → ∀ M50 : dsMem, R50 M1 M20 M39 M40 M49 M50 → ((g50 M1 M20 M39 M40 M49 M50) = 0) → ∀ M51 : dsMem, R51 M1 M20 M39 M40 M49 M50 M51 → (¬ (g51 M1 M20 M39 M40 M49 M50 M51) = 0) → bCt 208 [uR 11 84, uX 0] M51 (fun _ => []) (R56 M1 M20 M39 M40 M49 M50 M51)) (k28 : ∀ M1 : dsMem, R1 M1 → ((g1 M1) = 0) → ∀ M20 : dsMem, R20 M1 M20 → ((g20 M1 M20) = 0) → ∀ M39 : dsMem, R39 M1 M20 M39 → (¬ (g39 M1 M20 M39) = 0) → ∀ M40 : dsMem, R40 M1 M20 M39 M40 → (¬ (g40 M1 M20 M39 M40) = 0) → ∀ M49 : dsMem, R49 M1 M20 M39 M40 M49 → (((M49 84 12) = 0)) → ∀ M50 : dsMem, R50 M1 M20 M39 M40 M49 M50 → ((g50 M1 M20 M39 M40 M49 M50) = 0) → ∀ M51 : dsMem, R51 M1 M20 M39 M40 M49 M50 M51 → (¬ (g51 M1 M20 M39 M40 M49 M50 M51) = 0) → ∀ M56 : dsMem, R56 M1 M20 M39 M40 M49 M50 M51 M56 → Q [] M56) (hA57 : ∀ M1 : dsMem, R1 M1 → ((g1 M1) = 0) → ∀ M20 : dsMem, R20 M1 M20 → ((g20 M1 M20) = 0) → ∀ M39 : dsMem, R39 M1 M20 M39 → (¬ (g39 M1 M20 M39) = 0) → ∀ M40 : dsMem, R40 M1 M20 M39 M40 → (¬ (g40 M1 M20 M39 M40) = 0) → ∀ M49 : dsMem, R49 M1 M20 M39 M40 M49 → (((M49 84 12) = 0)) → ∀ M50 : dsMem, R50 M1 M20 M39 M40 M49 M50 → (¬ (g50 M1 M20 M39 M40 M49 M50) = 0) → bCt 207 [uR 11 84, uX 0] M50 (fun _ => []) (R57 M1 M20 M39 M40 M49 M50)) (k29 : ∀ M1 : dsMem, R1 M1 → ((g1 M1) = 0) → ∀ M20 : dsMem, R20 M1 M20 → ((g20 M1 M20) = 0) → ∀ M39 : dsMem, R39 M1 M20 M39 → (¬ (g39 M1 M20 M39) = 0) → ∀ M40 : dsMem, R40 M1 M20 M39 M40 → (¬ (g40 M1 M20 M39 M40) = 0) → ∀ M49 : dsMem, R49 M1 M20 M39 M40 M49 → (((M49 84 12) = 0)) → ∀ M50 : dsMem, R50 M1 M20 M39 M40 M49 M50 → (¬ (g50 M1 M20 M39 M40 M49 M50) = 0) → ∀ M57 : dsMem, R57 M1 M20 M39 M40 M49 M50 M57 → Q [] M57) (k30 : ∀ M1 : dsMem, R1 M1 → ((g1 M1) = 0) → ∀ M20 : dsMem, R20 M1 M20 → ((g20 M1 M20) = 0) → ∀ M39 : dsMem, R39 M1 M20 M39 → (¬ (g39 M1 M20 M39) = 0) → ∀ M40 : dsMem, R40 M1 M20 M39 M40 → (¬ (g40 M1 M20 M39 M40) = 0) → ∀ M49 : dsMem, R49 M1 M20 M39 M40 M49 → (¬ ((M49 84 12) = 0)) → Q [] M49) (hA58 : ∀ M1 : dsMem, R1 M1 → ((g1 M1) = 0) → ∀ M20 : dsMem, R20 M1 M20 → ((g20 M1 M20) = 0) → ∀ M39 : dsMem, R39 M1 M20 M39 → ((g39 M1 M20 M39) = 0) → bCt 200 [uR 11 84, uX 16, uX 0, uX 0] M39 (fun M58 => [uI (g58 M1 M20 M39 M58)]) (R58 M1 M20 M39)) (hA59 : ∀ M1 : dsMem, R1 M1 → ((g1 M1) = 0) → ∀ M20 : dsMem, R20 M1 M20 → ((g20 M1 M20) = 0) → ∀ M39 : dsMem, R39 M1 M20 M39 → ((g39 M1 M20 M39) = 0) → ∀ M58 : dsMem, R58 M1 M20 M39 M58 → ((g58 M1 M20 M39 M58) = 0) → bCt 199 [uR 11 84, uI 1] M58 (fun _ => []) (R59 M1 M20 M39 M58)) (hA60 : ∀ M1 : dsMem, R1 M1 → ((g1 M1) = 0) → ∀ M20 : dsMem, R20 M1 M20 → ((g20 M1 M20) = 0) → ∀ M39 : dsMem, R39 M1 M20 M39 → ((g39 M1 M20 M39) = 0) → ∀ M58 : dsMem, R58 M1 M20 M39 M58 → ((g58 M1 M20 M39 M58) = 0) → ∀ M59 : dsMem, R59 M1 M20 M39 M58 M59 → bCt 211 [uR 11 84] M59 (fun M60 => [uI (g60 M1 M20 M39 M58 M59 M60)]) (R60 M1 M20 M39 M58 M59)) (hA61 : ∀ M1 : dsMem, R1 M1 → ((g1 M1) = 0) → ∀ M20 : dsMem, R20 M1 M20 → ((g20 M1 M20) = 0) → ∀ M39 : dsMem, R39 M1 M20 M39 → ((g39 M1 M20 M39) = 0) → ∀ M58 : dsMem, R58 M1 M20 M39 M58 → ((g58 M1 M20 M39 M58) = 0) → ∀ M59 : dsMem, R59 M1 M20 M39 M58 M59 → ∀ M60 : dsMem, R60 M1 M20 M39 M58 M59 M60 → ((g60 M1 M20 M39 M58 M59 M60) = 0) → (((M60 84 12) = 0)) → bCt 201 [uR 11 84, uX 6, uX 0] M60 (fun M61 => [uI (g61 M1 M20 M39 M58 M59 M60 M61)]) (R61 M1 M20 M39 M58 M59 M60)) (hA62 : ∀ M1 : dsMem, R1 M1 → ((g1 M1) = 0) → ∀ M20 : dsMem, R20 M1 M20 → ((g20 M1 M20) = 0) → ∀ M39 : dsMem, R39 M1 M20 M39 → ((g39 M1 M20 M39) = 0) → ∀ M58 : dsMem, R58 M1 M20 M39 M58 → ((g58 M1 M20 M39 M58) = 0) → ∀ M59 : dsMem, R59 M1 M20 M39 M58 M59 → ∀ M60 : dsMem, R60 M1 M20 M39 M58 M59 M60 → ((g60 M1 M20 M39 M58 M59 M60) = 0) → (((M60 84 12) = 0)) → ∀ M61 : dsMem, R61 M1 M20 M39 M58 M59 M60 M61 → ((g61 M1 M20 M39 M58 M59 M60 M61) = 0) → bCt 201 [uR 11 84, uX 9, uX 0] M61 (fun M62 => [uI (g62 M1 M20 M39 M58 M59 M60 M61 M62)]) (R62 M1 M20 M39 M58 M59 M60 M61)) (hA63 : ∀ M1 : dsMem, R1 M1 → ((g1 M1) = 0) → ∀ M20 : dsMem, R20 M1 M20 → ((g20 M1 M20) = 0) → ∀ M39 : dsMem, R39 M1 M20 M39 → ((g39 M1 M20 M39) = 0) → ∀ M58 : dsMem, R58 M1 M20 M39 M58 → ((g58 M1 M20 M39 M58) = 0) → ∀ M59 : dsMem, R59 M1 M20 M39 M58 M59 → ∀ M60 : dsMem, R60 M1 M20 M39 M58 M59 M60 → ((g60 M1 M20 M39 M58 M59 M60) = 0) → (((M60 84 12) = 0)) → ∀ M61 : dsMem, R61 M1 M20 M39 M58 M59 M60 M61 → ((g61 M1 M20 M39 M58 M59 M60 M61) = 0) → ∀ M62 : dsMem, R62 M1 M20 M39 M58 M59 M60 M61 M62 → ((g62 M1 M20 M39 M58 M59 M60 M61 M62) = 0) → bCt 201 [uR 11 84, uX 13, uX 0] M62 (fun M63 => [uI (g63 M1 M20 M39 M58 M59 M60 M61 M62 M63)]) (R63 M1 M20 M39 M58 M59 M60 M61 M62)) (hA64 : ∀ M1 : dsMem, R1 M1 → ((g1 M1) = 0) → ∀ M20 : dsMem, R20 M1 M20 → ((g20 M1 M20) = 0) → ∀ M39 : dsMem, R39 M1 M20 M39 → ((g39 M1 M20 M39) = 0) → ∀ M58 : dsMem, R58 M1 M20 M39 M58 → ((g58 M1 M20 M39 M58) = 0) → ∀ M59 : dsMem, R59 M1 M20 M39 M58 M59 → ∀ M60 : dsMem, R60 M1 M20 M39 M58 M59 M60 → ((g60 M1 M20 M39 M58 M59 M60) = 0) → (((M60 84 12) = 0)) → ∀ M61 : dsMem, R61 M1 M20 M39 M58 M59 M60 M61 → ((g61 M1 M20 M39 M58 M59 M60 M61) = 0) → ∀ M62 : dsMem, R62 M1 M20 M39 M58 M59 M60 M61 M62 → ((g62 M1 M20 M39 M58 M59 M60 M61 M62) = 0) → ∀ M63 : dsMem, R63 M1 M20 M39 M58 M59 M60 M61 M62 M63 → ((g63 M1 M20 M39 M58 M59 M60 M61 M62 M63) = 0) → bCt 197 [uR 11 84, uX 0] M63 (fun _ => []) (R64 M1 M20 M39 M58 M59 M60 M61 M62 M63)) (hA65 : ∀ M1 : dsMem, R1 M1 → ((g1 M1) = 0) → ∀ M20 : dsMem, R20 M1 M20 → ((g20 M1 M20) = 0) → ∀ M39 : dsMem, R39 M1 M20 M39 → ((g39 M1 M20 M39) = 0) → ∀ M58 : dsMem, R58 M1 M20 M39 M58 → ((g58 M1 M20 M39 M58) = 0) → ∀ M59 : dsMem, R59 M1 M20 M39 M58 M59 → ∀ M60 : dsMem, R60 M1 M20 M39 M58 M59 M60 → ((g60 M1 M20 M39 M58 M59 M60) = 0) → (((M60 84 12) = 0)) → ∀ M61 : dsMem, R61 M1 M20 M39 M58 M59 M60 M61 → ((g61 M1 M20 M39 M58 M59 M60 M61) = 0) → ∀ M62 : dsMem, R62 M1 M20 M39 M58 M59 M60 M61 M62 → ((g62 M1 M20 M39 M58 M59 M60 M61 M62) = 0) → ∀ M63 : dsMem, R63 M1 M20 M39 M58 M59 M60 M61 M62 M63 → ((g63 M1 M20 M39 M58 M59 M60 M61 M62 M63) = 0) → ∀ M64 : dsMem, R64 M1 M20 M39 M58 M59 M60 M61 M62 M63 M64 → bCt 210 [uR 11 84, uX 0] M64 (fun _ => []) (R65 M1 M20 M39 M58 M59 M60 M61 M62 M63 M64)) (k31 : ∀ M1 : dsMem, R1 M1 → ((g1 M1) = 0) → ∀ M20 : dsMem, R20 M1 M20 → ((g20 M1 M20) = 0) → ∀ M39 : dsMem, R39 M1 M20 M39 → ((g39 M1 M20 M39) = 0) → ∀ M58 : dsMem, R58 M1 M20 M39 M58 → ((g58 M1 M20 M39 M58) = 0) → ∀ M59 : dsMem, R59 M1 M20 M39 M58 M59 → ∀ M60 : dsMem, R60 M1 M20 M39 M58 M59 M60 → ((g60 M1 M20 M39 M58 M59 M60) = 0) → (((M60 84 12) = 0)) → ∀ M61 : dsMem, R61 M1 M20 M39 M58 M59 M60 M61 → ((g61 M1 M20 M39 M58 M59 M60 M61) = 0) → ∀ M62 : dsMem, R62 M1 M20 M39 M58 M59 M60 M61 M62 → ((g62 M1 M20 M39 M58 M59 M60 M61 M62) = 0) → ∀ M63 : dsMem, R63 M1 M20 M39 M58 M59 M60 M61 M62 M63 → ((g63 M1 M20 M39 M58 M59 M60 M61 M62 M63) = 0) → ∀ M64 : dsMem, R64 M1 M20 M39 M58 M59 M60 M61 M62 M63 M64 → ∀ M65 : dsMem, R65 M1 M20 M39 M58 M59 M60 M61 M62 M63 M64 M65 → Q [] M65) (hA66 : ∀ M1 : dsMem, R1 M1 → ((g1 M1) = 0) → ∀ M20 : dsMem, R20 M1 M20 → ((g20 M1 M20) = 0) → ∀ M39 : dsMem, R39 M1 M20 M39 → ((g39 M1 M20 M39) = 0) → ∀ M58 : dsMem, R58 M1 M20 M39 M58 → ((g58 M1 M20 M39 M58) = 0) → ∀ M59 : dsMem, R59 M1 M20 M39 M58 M59 → ∀ M60 : dsMem, R60 M1 M20 M39 M58 M59 M60 → ((g60 M1 M20 M39 M58 M59 M60) = 0) → (((M60 84 12) = 0)) → ∀ M61 : dsMem, R61 M1 M20 M39 M58 M59 M60 M61 → ((g61 M1 M20 M39 M58 M59 M60 M61) = 0) → ∀ M62 : dsMem, R62 M1 M20 M39 M58 M59 M60 M61 M62 → ((g62 M1 M20 M39 M58 M59 M60 M61 M62) = 0) → ∀ M63 : dsMem, R63 M1 M20 M39 M58 M59 M60 M61 M62 M63 → (¬ (g63 M1 M20 M39 M58 M59 M60 M61 M62 M63) = 0) → bCt 209 [uR 11 84, uX 0] M63 (fun _ => []) (R66 M1 M20 M39 M58 M59 M60 M61 M62 M63)) (k32 : ∀ M1 : dsMem, R1 M1 → ((g1 M1) = 0) → ∀ M20 : dsMem, R20 M1 M20 → ((g20 M1 M20) = 0) → ∀ M39 : dsMem, R39 M1 M20 M39 → ((g39 M1 M20 M39) = 0) → ∀ M58 : dsMem, R58 M1 M20 M39 M58 → ((g58 M1 M20 M39 M58) = 0) → ∀ M59 : dsMem, R59 M1 M20 M39 M58 M59 → ∀ M60 : dsMem, R60 M1 M20 M39 M58 M59 M60 → ((g60 M1 M20 M39 M58 M59 M60) = 0) → (((M60 84 12) = 0)) → ∀ M61 : dsMem, R61 M1 M20 M39 M58 M59 M60 M61 → ((g61 M1 M20 M39 M58 M59 M60 M61) = 0) → ∀ M62 : dsMem, R62 M1 M20 M39 M58 M59 M60 M61 M62 → ((g62 M1 M20 M39 M58 M59 M60 M61 M62) = 0) → ∀ M63 : dsMem, R63 M1 M20 M39 M58 M59 M60 M61 M62 M63 → (¬ (g63 M1 M20 M39 M58 M59 M60 M61 M62 M63) = 0) → ∀ M66 : dsMem, R66 M1 M20 M39 M58 M59 M60 M61 M62 M63 M66 → Q [] M66) (hA67 : ∀ M1 : dsMem, R1 M1 → ((g1 M1) = 0) → ∀ M20 : dsMem, R20 M1 M20 → ((g20 M1 M20) = 0) → ∀ M39 : dsMem, R39 M1 M20 M39 → ((g39 M1 M20 M39) = 0) → ∀ M58 : dsMem, R58 M1 M20 M39 M58 → ((g58 M1 M20 M39 M58) = 0) → ∀ M59 : dsMem, R59 M1 M20 M39 M58 M59 → ∀ M60 : dsMem, R60 M1 M20 M39 M58 M59 M60 → ((g60 M1 M20 M39 M58 M59 M60) = 0) → (((M60 84 12) = 0)) → ∀ M61 : dsMem, R61 M1 M20 M39 M58 M59 M60 M61 → ((g61 M1 M20 M39 M58 M59 M60 M61) = 0) → ∀ M62 : dsMem, R62 M1 M20 M39 M58 M59 M60 M61 M62 → (¬ (g62 M1 M20 M39 M58 M59 M60 M61 M62) = 0) → bCt 208 [uR 11 84, uX 0] M62 (fun _ => []) (R67 M1 M20 M39 M58 M59 M60 M61 M62)) (k33 : ∀ M1 : dsMem, R1 M1 → ((g1 M1) = 0) → ∀ M20 : dsMem, R20 M1 M20 → ((g20 M1 M20) = 0) → ∀ M39 : dsMem, R39 M1 M20 M39 → ((g39 M1 M20 M39) = 0) → ∀ M58 : dsMem, R58 M1 M20 M39 M58 → ((g58 M1 M20 M39 M58) = 0) → ∀ M59 : dsMem, R59 M1 M20 M39 M58 M59 → ∀ M60 : dsMem, R60 M1 M20 M39 M58 M59 M60 → ((g60 M1 M20 M39 M58 M59 M60) = 0) → (((M60 84 12) = 0)) → ∀ M61 : dsMem, R61 M1 M20 M39 M58 M59 M60 M61 → ((g61 M1 M20 M39 M58 M59 M60 M61) = 0) → ∀ M62 : dsMem, R62 M1 M20 M39 M58 M59 M60 M61 M62 → (¬ (g62 M1 M20 M39 M58 M59 M60 M61 M62) = 0) → ∀ M67 : dsMem, R67 M1 M20 M39 M58 M59 M60 M61 M62 M67 → Q [] M67) (hA68 : ∀ M1 : dsMem, R1 M1 → ((g1 M1) = 0) → ∀ M20 : dsMem, R20 M1 M20 → ((g20 M1 M20) = 0) → ∀ M39 : dsMem, R39 M1 M20 M39 → ((g39 M1 M20 M39) = 0) → ∀ M58 : dsMem, R58 M1 M20 M39 M58 → ((g58 M1 M20 M39 M58) = 0) → ∀ M59 : dsMem, R59 M1 M20 M39 M58 M59 → ∀ M60 : dsMem, R60 M1 M20 M39 M58 M59 M60 → ((g60 M1 M20 M39 M58 M59 M60) = 0) → (((M60 84 12) = 0)) → ∀ M61 : dsMem, R61 M1 M20 M39 M58 M59 M60 M61 → (¬ (g61 M1 M20 M39 M58 M59 M60 M61) = 0) → bCt 207 [uR 11 84, uX 0] M61 (fun _ => []) (R68 M1 M20 M39 M58 M59 M60 M61)) (k34 : ∀ M1 : dsMem, R1 M1 → ((g1 M1) = 0) → ∀ M20 : dsMem, R20 M1 M20 → ((g20 M1 M20) = 0) → ∀ M39 : dsMem, R39 M1 M20 M39 → ((g39 M1 M20 M39) = 0) → ∀ M58 : dsMem, R58 M1 M20 M39 M58 → ((g58 M1 M20 M39 M58) = 0) → ∀ M59 : dsMem, R59 M1 M20 M39 M58 M59 → ∀ M60 : dsMem, R60 M1 M20 M39 M58 M59 M60 → ((g60 M1 M20 M39 M58 M59 M60) = 0) → (((M60 84 12) = 0)) → ∀ M61 : dsMem, R61 M1 M20 M39 M58 M59 M60 M61 → (¬ (g61 M1 M20 M39 M58 M59 M60 M61) = 0) → ∀ M68 : dsMem, R68 M1 M20 M39 M58 M59 M60 M61 M68 → Q [] M68) (k35 : ∀ M1 : dsMem, R1 M1 → ((g1 M1) = 0) → ∀ M20 : dsMem, R20 M1 M20 → ((g20 M1 M20) = 0) → ∀ M39 : dsMem, R39 M1 M20 M39 → ((g39 M1 M20 M39) = 0) → ∀ M58 : dsMem, R58 M1 M20 M39 M58 → ((g58 M1 M20 M39 M58) = 0) → ∀ M59 : dsMem, R59 M1 M20 M39 M58 M59 → ∀ M60 : dsMem, R60 M1 M20 M39 M58 M59 M60 → ((g60 M1 M20 M39 M58 M59 M60) = 0) → (¬ ((M60 84 12) = 0)) → Q [] M60) (hA69 : ∀ M1 : dsMem, R1 M1 → ((g1 M1) = 0) → ∀ M20 : dsMem, R20 M1 M20 → ((g20 M1 M20) = 0) → ∀ M39 : dsMem, R39 M1 M20 M39 → ((g39 M1 M20 M39) = 0) → ∀ M58 : dsMem, R58 M1 M20 M39 M58 → ((g58 M1 M20 M39 M58) = 0) → ∀ M59 : dsMem, R59 M1 M20 M39 M58 M59 → ∀ M60 : dsMem, R60 M1 M20 M39 M58 M59 M60 → (¬ (g60 M1 M20 M39 M58 M59 M60) = 0) → bCt 199 [uR 11 84, uI 3] M60 (fun _ => []) (R69 M1 M20 M39 M58 M59 M60)) (hA70 : ∀ M1 : dsMem, R1 M1 → ((g1 M1) = 0) → ∀ M20 : dsMem, R20 M1 M20 → ((g20 M1 M20) = 0) → ∀ M39 : dsMem, R39 M1 M20 M39 → ((g39 M1 M20 M39) = 0) → ∀ M58 : dsMem, R58 M1 M20 M39 M58 → ((g58 M1 M20 M39 M58) = 0) → ∀ M59 : dsMem, R59 M1 M20 M39 M58 M59 → ∀ M60 : dsMem, R60 M1 M20 M39 M58 M59 M60 → (¬ (g60 M1 M20 M39 M58 M59 M60) = 0) → ∀ M69 : dsMem, R69 M1 M20 M39 M58 M59 M60 M69 → (((M69 84 12) = 0)) → bCt 201 [uR 11 84, uX 6, uX 0] M69 (fun M70 => [uI (g70 M1 M20 M39 M58 M59 M60 M69 M70)]) (R70 M1 M20 M39 M58 M59 M60 M69)) (hA71 : ∀ M1 : dsMem, R1 M1 → ((g1 M1) = 0) → ∀ M20 : dsMem, R20 M1 M20 → ((g20 M1 M20) = 0) → ∀ M39 : dsMem, R39 M1 M20 M39 → ((g39 M1 M20 M39) = 0) → ∀ M58 : dsMem, R58 M1 M20 M39 M58 → ((g58 M1 M20 M39 M58) = 0) → ∀ M59 : dsMem, R59 M1 M20 M39 M58 M59 → ∀ M60 : dsMem, R60 M1 M20 M39 M58 M59 M60 → (¬ (g60 M1 M20 M39 M58 M59 M60) = 0) → ∀ M69 : dsMem, R69 M1 M20 M39 M58 M59 M60 M69 → (((M69 84 12) = 0)) → ∀ M70 : dsMem, R70 M1 M20 M39 M58 M59 M60 M69 M70 → ((g70 M1 M20 M39 M58 M59 M60 M69 M70) = 0) → bCt 201 [uR 11 84, uX 9, uX 0] M70 (fun M71 => [uI (g71 M1 M20 M39 M58 M59 M60 M69 M70 M71)]) (R71 M1 M20 M39 M58 M59 M60 M69 M70)) (hA72 : ∀ M1 : dsMem, R1 M1 → ((g1 M1) = 0) → ∀ M20 : dsMem, R20 M1 M20 → ((g20 M1 M20) = 0) → ∀ M39 : dsMem, R39 M1 M20 M39 → ((g39 M1 M20 M39) = 0) → ∀ M58 : dsMem, R58 M1 M20 M39 M58 → ((g58 M1 M20 M39 M58) = 0) → ∀ M59 : dsMem, R59 M1 M20 M39 M58 M59 → ∀ M60 : dsMem, R60 M1 M20 M39 M58 M59 M60 → (¬ (g60 M1 M20 M39 M58 M59 M60) = 0) → ∀ M69 : dsMem, R69 M1 M20 M39 M58 M59 M60 M69 → (((M69 84 12) = 0)) → ∀ M70 : dsMem, R70 M1 M20 M39 M58 M59 M60 M69 M70 → ((g70 M1 M20 M39 M58 M59 M60 M69 M70) = 0) → ∀ M71 : dsMem, R71 M1 M20 M39 M58 M59 M60 M69 M70 M71 → ((g71 M1 M20 M39 M58 M59 M60 M69 M70 M71) = 0) → bCt 201 [uR 11 84, uX 13, uX 0] M71 (fun M72 => [uI (g72 M1 M20 M39 M58 M59 M60 M69 M70 M71 M72)]) (R72 M1 M20 M39 M58 M59 M60 M69 M70 M71)) (hA73 : ∀ M1 : dsMem, R1 M1 → ((g1 M1) = 0) → ∀ M20 : dsMem, R20 M1 M20 → ((g20 M1 M20) = 0) → ∀ M39 : dsMem, R39 M1 M20 M39 → ((g39 M1 M20 M39) = 0) → ∀ M58 : dsMem, R58 M1 M20 M39 M58 → ((g58 M1 M20 M39 M58) = 0) → ∀ M59 : dsMem, R59 M1 M20 M39 M58 M59 → ∀ M60 : dsMem, R60 M1 M20 M39 M58 M59 M60 → (¬ (g60 M1 M20 M39 M58 M59 M60) = 0) → ∀ M69 : dsMem, R69 M1 M20 M39 M58 M59 M60 M69 → (((M69 84 12) = 0)) → ∀ M70 : dsMem, R70 M1 M20 M39 M58 M59 M60 M69 M70 → ((g70 M1 M20 M39 M58 M59 M60 M69 M70) = 0) → ∀ M71 : dsMem, R71 M1 M20 M39 M58 M59 M60 M69 M70 M71 → ((g71 M1 M20 M39 M58 M59 M60 M69 M70 M71) = 0) → ∀ M72 : dsMem, R72 M1 M20 M39 M58 M59 M60 M69 M70 M71 M72 → ((g72 M1 M20 M39 M58 M59 M60 M69 M70 M71 M72) = 0) → bCt 197 [uR 11 84, uX 0] M72 (fun _ => []) (R73 M1 M20 M39 M58 M59 M60 M69 M70 M71 M72)) (hA74 : ∀ M1 : dsMem, R1 M1 → ((g1 M1) = 0) → ∀ M20 : dsMem, R20 M1 M20 → ((g20 M1 M20) = 0) → ∀ M39 : dsMem, R39 M1 M20 M39 → ((g39 M1 M20 M39) = 0) → ∀ M58 : dsMem, R58 M1 M20 M39 M58 → ((g58 M1 M20 M39 M58) = 0) → ∀ M59 : dsMem, R59 M1 M20 M39 M58 M59 → ∀ M60 : dsMem, R60 M1 M20 M39 M58 M59 M60 → (¬ (g60 M1 M20 M39 M58 M59 M60) = 0) → ∀ M69 : dsMem, R69 M1 M20 M39 M58 M59 M60 M69 → (((M69 84 12) = 0)) → ∀ M70 : dsMem, R70 M1 M20 M39 M58 M59 M60 M69 M70 → ((g70 M1 M20 M39 M58 M59 M60 M69 M70) = 0) → ∀ M71 : dsMem, R71 M1 M20 M39 M58 M59 M60 M69 M70 M71 → ((g71 M1 M20 M39 M58 M59 M60 M69 M70 M71) = 0) → ∀ M72 : dsMem, R72 M1 M20 M39 M58 M59 M60 M69 M70 M71 M72 → ((g72 M1 M20 M39 M58 M59 M60 M69 M70 M71 M72) = 0) → ∀ M73 : dsMem, R73 M1 M20 M39 M58 M59 M60 M69 M70 M71 M72 M73 → bCt 210 [uR 11 84, uX 0] M73 (fun _ => []) (R74 M1 M20 M39 M58 M59 M60 M69 M70 M71 M72 M73)) (k36 : ∀ M1 : dsMem, R1 M1 → ((g1 M1) = 0) → ∀ M20 : dsMem, R20 M1 M20 → ((g20 M1 M20) = 0) → ∀ M39 : dsMem, R39 M1 M20 M39 → ((g39 M1 M20 M39) = 0) → ∀ M58 : dsMem, R58 M1 M20 M39 M58 → ((g58 M1 M20 M39 M58) = 0) → ∀ M59 : dsMem, R59 M1 M20 M39 M58 M59 → ∀ M60 : dsMem, R60 M1 M20 M39 M58 M59 M60 → (¬ (g60 M1 M20 M39 M58 M59 M60) = 0) → ∀ M69 : dsMem, R69 M1 M20 M39 M58 M59 M60 M69 → (((M69 84 12) = 0)) → ∀ M70 : dsMem, R70 M1 M20 M39 M58 M59 M60 M69 M70 → ((g70 M1 M20 M39 M58 M59 M60 M69 M70) = 0) → ∀ M71 : dsMem, R71 M1 M20 M39 M58 M59 M60 M69 M70 M71 → ((g71 M1 M20 M39 M58 M59 M60 M69 M70 M71) = 0) → ∀ M72 : dsMem, R72 M1 M20 M39 M58 M59 M60 M69 M70 M71 M72 → ((g72 M1 M20 M39 M58 M59 M60 M69 M70 M71 M72) = 0) → ∀ M73 : dsMem, R73 M1 M20 M39 M58 M59 M60 M69 M70 M71 M72 M73 → ∀ M74 : dsMem, R74 M1 M20 M39 M58 M59 M60 M69 M70 M71 M72 M73 M74 → Q [] M74) (hA75 : ∀ M1 : dsMem, R1 M1 → ((g1 M1) = 0) → ∀ M20 : dsMem, R20 M1 M20 → ((g20 M1 M20) = 0) → ∀ M39 : dsMem, R39 M1 M20 M39 → ((g39 M1 M20 M39) = 0) → ∀ M58 : dsMem, R58 M1 M20 M39 M58 → ((g58 M1 M20 M39 M58) = 0) → ∀ M59 : dsMem, R59 M1 M20 M39 M58 M59 → ∀ M60 : dsMem, R60 M1 M20 M39 M58 M59 M60 → (¬ (g60 M1 M20 M39 M58 M59 M60) = 0) → ∀ M69 : dsMem, R69 M1 M20 M39 M58 M59 M60 M69 → (((M69 84 12) = 0)) → ∀ M70 : dsMem, R70 M1 M20 M39 M58 M59 M60 M69 M70 → ((g70 M1 M20 M39 M58 M59 M60 M69 M70) = 0) → ∀ M71 : dsMem, R71 M1 M20 M39 M58 M59 M60 M69 M70 M71 → ((g71 M1 M20 M39 M58 M59 M60 M69 M70 M71) = 0) → ∀ M72 : dsMem, R72 M1 M20 M39 M58 M59 M60 M69 M70 M71 M72 → (¬ (g72 M1 M20 M39 M58 M59 M60 M69 M70 M71 M72) = 0) → bCt 209 [uR 11 84, uX 0] M72 (fun _ => []) (R75 M1 M20 M39 M58 M59 M60 M69 M70 M71 M72)) (k37 : ∀ M1 : dsMem, R1 M1 → ((g1 M1) = 0) → ∀ M20 : dsMem, R20 M1 M20 → ((g20 M1 M20) = 0) → ∀ M39 : dsMem, R39 M1 M20 M39 → ((g39 M1 M20 M39) = 0) → ∀ M58 : dsMem, R58 M1 M20 M39 M58 → ((g58 M1 M20 M39 M58) = 0) → ∀ M59 : dsMem, R59 M1 M20 M39 M58 M59 → ∀ M60 : dsMem, R60 M1 M20 M39 M58 M59 M60 → (¬ (g60 M1 M20 M39 M58 M59 M60) = 0) → ∀ M69 : dsMem, R69 M1 M20 M39 M58 M59 M60 M69 → (((M69 84 12) = 0)) → ∀ M70 : dsMem, R70 M1 M20 M39 M58 M59 M60 M69 M70 → ((g70 M1 M20 M39 M58 M59 M60 M69 M70) = 0) → ∀ M71 : dsMem, R71 M1 M20 M39 M58 M59 M60 M69 M70 M71 → ((g71 M1 M20 M39 M58 M59 M60 M69 M70 M71) = 0) → ∀ M72 : dsMem, R72 M1 M20 M39 M58 M59 M60 M69 M70 M71 M72 → (¬ (g72 M1 M20 M39 M58 M59 M60 M69 M70 M71 M72) = 0) → ∀ M75 : dsMem, R75 M1 M20 M39 M58 M59 M60 M69 M70 M71 M72 M75 → Q [] M75) (hA76 : ∀ M1 : dsMem, R1 M1 → ((g1 M1) = 0) → ∀ M20 : dsMem, R20 M1 M20 → ((g20 M1 M20) = 0) → ∀ M39 : dsMem, R39 M1 M20 M39 → ((g39 M1 M20 M39) = 0) → ∀ M58 : dsMem, R58 M1 M20 M39 M58 → ((g58 M1 M20 M39 M58) = 0) → ∀ M59 : dsMem, R59 M1 M20 M39 M58 M59 → ∀ M60 : dsMem, R60 M1 M20 M39 M58 M59 M60 → (¬ (g60 M1 M20 M39 M58 M59 M60) = 0) → ∀ M69 : dsMem, R69 M1 M20 M39 M58 M59 M60 M69 → (((M69 84 12) = 0)) → ∀ M70 : dsMem, R70 M1 M20 M39 M58 M59 M60 M69 M70 → ((g70 M1 M20 M39 M58 M59 M60 M69 M70) = 0) → ∀ M71 : dsMem, R71 M1 M20 M39 M58 M59 M60 M69 M70 M71 → (¬ (g71 M1 M20 M39 M58 M59 M60 M69 M70 M71) = 0) → bCt 208 [uR 11 84, uX 0] M71 (fun _ => []) (R76 M1 M20 M39 M58 M59 M60 M69 M70 M71)) (k38 : ∀ M1 : dsMem, R1 M1 → ((g1 M1) = 0) → ∀ M20 : dsMem, R20 M1 M20 → ((g20 M1 M20) = 0) → ∀ M39 : dsMem, R39 M1 M20 M39 → ((g39 M1 M20 M39) = 0) → ∀ M58 : dsMem, R58 M1 M20 M39 M58 → ((g58 M1 M20 M39 M58) = 0) → ∀ M59 : dsMem, R59 M1 M20 M39 M58 M59 → ∀ M60 : dsMem, R60 M1 M20 M39 M58 M59 M60 → (¬ (g60 M1 M20 M39 M58 M59 M60) = 0) → ∀ M69 : dsMem, R69 M1 M20 M39 M58 M59 M60 M69 → (((M69 84 12) = 0)) → ∀ M70 : dsMem, R70 M1 M20 M39 M58 M59 M60 M69 M70 → ((g70 M1 M20 M39 M58 M59 M60 M69 M70) = 0) → ∀ M71 : dsMem, R71 M1 M20 M39 M58 M59 M60 M69 M70 M71 → (¬ (g71 M1 M20 M39 M58 M59 M60 M69 M70 M71) = 0) → ∀ M76 : dsMem, R76 M1 M20 M39 M58 M59 M60 M69 M70 M71 M76 → Q [] M76) (hA77 : ∀ M1 : dsMem, R1 M1 → ((g1 M1) = 0) → ∀ M20 : dsMem, R20 M1 M20 → ((g20 M1 M20) = 0) → ∀ M39 : dsMem, R39 M1 M20 M39 → ((g39 M1 M20 M39) = 0) → ∀ M58 : dsMem, R58 M1 M20 M39 M58 → ((g58 M1 M20 M39 M58) = 0) → ∀ M59 : dsMem, R59 M1 M20 M39 M58 M59 → ∀ M60 : dsMem, R60 M1 M20 M39 M58 M59 M60 → (¬ (g60 M1 M20 M39 M58 M59 M60) = 0) → ∀ M69 : dsMem, R69 M1 M20 M39 M58 M59 M60 M69 → (((M69 84 12) = 0)) → ∀ M70 : dsMem, R70 M1 M20 M39 M58 M59 M60 M69 M70 → (¬ (g70 M1 M20 M39 M58 M59 M60 M69 M70) = 0) → bCt 207 [uR 11 84, uX 0] M70 (fun _ => []) (R77 M1 M20 M39 M58 M59 M60 M69 M70)) (k39 : ∀ M1 : dsMem, R1 M1 → ((g1 M1) = 0) → ∀ M20 : dsMem, R20 M1 M20 → ((g20 M1 M20) = 0) → ∀ M39 : dsMem, R39 M1 M20 M39 → ((g39 M1 M20 M39) = 0) → ∀ M58 : dsMem, R58 M1 M20 M39 M58 → ((g58 M1 M20 M39 M58) = 0) → ∀ M59 : dsMem, R59 M1 M20 M39 M58 M59 → ∀ M60 : dsMem, R60 M1 M20 M39 M58 M59 M60 → (¬ (g60 M1 M20 M39 M58 M59 M60) = 0) → ∀ M69 : dsMem, R69 M1 M20 M39 M58 M59 M60 M69 → (((M69 84 12) = 0)) → ∀ M70 : dsMem, R70 M1 M20 M39 M58 M59 M60 M69 M70 → (¬ (g70 M1 M20 M39 M58 M59 M60 M69 M70) = 0) → ∀ M77 : dsMem, R77 M1 M20 M39 M58 M59 M60 M69 M70 M77 → Q [] M77) (k40 : ∀ M1 : dsMem, R1 M1 → ((g1 M1) = 0) → ∀ M20 : dsMem, R20 M1 M20 → ((g20 M1 M20) = 0) → ∀ M39 : dsMem, R39 M1 M20 M39 → ((g39 M1 M20 M39) = 0) → ∀ M58 : dsMem, R58 M1 M20 M39 M58 → ((g58 M1 M20 M39 M58) = 0) → ∀ M59 : dsMem, R59 M1 M20 M39 M58 M59 → ∀ M60 : dsMem, R60 M1 M20 M39 M58 M59 M60 → (¬ (g60 M1 M20 M39 M58 M59 M60) = 0) → ∀ M69 : dsMem, R69 M1 M20 M39 M58 M59 M60 M69 → (¬ ((M69 84 12) = 0)) → Q [] M69) (hA78 : ∀ M1 : dsMem, R1 M1 → ((g1 M1) = 0) → ∀ M20 : dsMem, R20 M1 M20 → ((g20 M1 M20) = 0) → ∀ M39 : dsMem, R39 M1 M20 M39 → ((g39 M1 M20 M39) = 0) → ∀ M58 : dsMem, R58 M1 M20 M39 M58 → (¬ (g58 M1 M20 M39 M58) = 0) → bCt 211 [uR 11 84] M58 (fun M78 => [uI (g78 M1 M20 M39 M58 M78)]) (R78 M1 M20 M39 M58)) (hA79 : ∀ M1 : dsMem, R1 M1 → ((g1 M1) = 0) → ∀ M20 : dsMem, R20 M1 M20 → ((g20 M1 M20) = 0) → ∀ M39 : dsMem, R39 M1 M20 M39 → ((g39 M1 M20 M39) = 0) → ∀ M58 : dsMem, R58 M1 M20 M39 M58 → (¬ (g58 M1 M20 M39 M58) = 0) → ∀ M78 : dsMem, R78 M1 M20 M39 M58 M78 → ((g78 M1 M20 M39 M58 M78) = 0) → (((M78 84 12) = 0)) → bCt 201 [uR 11 84, uX 6, uX 0] M78 (fun M79 => [uI (g79 M1 M20 M39 M58 M78 M79)]) (R79 M1 M20 M39 M58 M78)) (hA80 : ∀ M1 : dsMem, R1 M1 → ((g1 M1) = 0) → ∀ M20 : dsMem, R20 M1 M20 → ((g20 M1 M20) = 0) → ∀ M39 : dsMem, R39 M1 M20 M39 → ((g39 M1 M20 M39) = 0) → ∀ M58 : dsMem, R58 M1 M20 M39 M58 → (¬ (g58 M1 M20 M39 M58) = 0) → ∀ M78 : dsMem, R78 M1 M20 M39 M58 M78 → ((g78 M1 M20 M39 M58 M78) = 0) → (((M78 84 12) = 0)) → ∀ M79 : dsMem, R79 M1 M20 M39 M58 M78 M79 → ((g79 M1 M20 M39 M58 M78 M79) = 0) → bCt 201 [uR 11 84, uX 9, uX 0] M79 (fun M80 => [uI (g80 M1 M20 M39 M58 M78 M79 M80)]) (R80 M1 M20 M39 M58 M78 M79)) (hA81 : ∀ M1 : dsMem, R1 M1 → ((g1 M1) = 0) → ∀ M20 : dsMem, R20 M1 M20 → ((g20 M1 M20) = 0) → ∀ M39 : dsMem, R39 M1 M20 M39 → ((g39 M1 M20 M39) = 0) → ∀ M58 : dsMem, R58 M1 M20 M39 M58 → (¬ (g58 M1 M20 M39 M58) = 0) → ∀ M78 : dsMem, R78 M1 M20 M39 M58 M78 → ((g78 M1 M20 M39 M58 M78) = 0) → (((M78 84 12) = 0)) → ∀ M79 : dsMem, R79 M1 M20 M39 M58 M78 M79 → ((g79 M1 M20 M39 M58 M78 M79) = 0) → ∀ M80 : dsMem, R80 M1 M20 M39 M58 M78 M79 M80 → ((g80 M1 M20 M39 M58 M78 M79 M80) = 0) → bCt 201 [uR 11 84, uX 13, uX 0] M80 (fun M81 => [uI (g81 M1 M20 M39 M58 M78 M79 M80 M81)]) (R81 M1 M20 M39 M58 M78 M79 M80)) (hA82 : ∀ M1 : dsMem, R1 M1 → ((g1 M1) = 0) → ∀ M20 : dsMem, R20 M1 M20 → ((g20 M1 M20) = 0) → ∀ M39 : dsMem, R39 M1 M20 M39 → ((g39 M1 M20 M39) = 0) → ∀ M58 : dsMem, R58 M1 M20 M39 M58 → (¬ (g58 M1 M20 M39 M58) = 0) → ∀ M78 : dsMem, R78 M1 M20 M39 M58 M78 → ((g78 M1 M20 M39 M58 M78) = 0) → (((M78 84 12) = 0)) → ∀ M79 : dsMem, R79 M1 M20 M39 M58 M78 M79 → ((g79 M1 M20 M39 M58 M78 M79) = 0) → ∀ M80 : dsMem, R80 M1 M20 M39 M58 M78 M79 M80 → ((g80 M1 M20 M39 M58 M78 M79 M80) = 0) → ∀ M81 : dsMem, R81 M1 M20 M39 M58 M78 M79 M80 M81 → ((g81 M1 M20 M39 M58 M78 M79 M80 M81) = 0) → bCt 197 [uR 11 84, uX 0] M81 (fun _ => []) (R82 M1 M20 M39 M58 M78 M79 M80 M81)) (hA83 : ∀ M1 : dsMem, R1 M1 → ((g1 M1) = 0) → ∀ M20 : dsMem, R20 M1 M20 → ((g20 M1 M20) = 0) → ∀ M39 : dsMem, R39 M1 M20 M39 → ((g39 M1 M20 M39) = 0) → ∀ M58 : dsMem, R58 M1 M20 M39 M58 → (¬ (g58 M1 M20 M39 M58) = 0) → ∀ M78 : dsMem, R78 M1 M20 M39 M58 M78 → ((g78 M1 M20 M39 M58 M78) = 0) → (((M78 84 12) = 0)) → ∀ M79 : dsMem, R79 M1 M20 M39 M58 M78 M79 → ((g79 M1 M20 M39 M58 M78 M79) = 0) → ∀ M80 : dsMem, R80 M1 M20 M39 M58 M78 M79 M80 → ((g80 M1 M20 M39 M58 M78 M79 M80) = 0) → ∀ M81 : dsMem, R81 M1 M20 M39 M58 M78 M79 M80 M81 → ((g81 M1 M20 M39 M58 M78 M79 M80 M81) = 0) → ∀ M82 : dsMem, R82 M1 M20 M39 M58 M78 M79 M80 M81 M82 → bCt 210 [uR 11 84, uX 0] M82 (fun _ => []) (R83 M1 M20 M39 M58 M78 M79 M80 M81 M82)) (k41 : ∀ M1 : dsMem, R1 M1 → ((g1 M1) = 0) → ∀ M20 : dsMem, R20 M1 M20 → ((g20 M1 M20) = 0) → ∀ M39 : dsMem, R39 M1 M20 M39 → ((g39 M1 M20 M39) = 0) → ∀ M58 : dsMem, R58 M1 M20 M39 M58 → (¬ (g58 M1 M20 M39 M58) = 0) → ∀ M78 : dsMem, R78 M1 M20 M39 M58 M78 → ((g78 M1 M20 M39 M58 M78) = 0) → (((M78 84 12) = 0)) → ∀ M79 : dsMem, R79 M1 M20 M39 M58 M78 M79 → ((g79 M1 M20 M39 M58 M78 M79) = 0) → ∀ M80 : dsMem, R80 M1 M20 M39 M58 M78 M79 M80 → ((g80 M1 M20 M39 M58 M78 M79 M80) = 0) → ∀ M81 : dsMem, R81 M1 M20 M39 M58 M78 M79 M80 M81 → ((g81 M1 M20 M39 M58 M78 M79 M80 M81) = 0) → ∀ M82 : dsMem, R82 M1 M20 M39 M58 M78 M79 M80 M81 M82 → ∀ M83 : dsMem, R83 M1 M20 M39 M58 M78 M79 M80 M81 M82 M83 → Q [] M83) (hA84 : ∀ M1 : dsMem, R1 M1 → ((g1 M1) = 0) → ∀ M20 : dsMem, R20 M1 M20 → ((g20 M1 M20) = 0) → ∀ M39 : dsMem, R39 M1 M20 M39 → ((g39 M1 M20 M39) = 0) → ∀ M58 : dsMem, R58 M1 M20 M39 M58 → (¬ (g58 M1 M20 M39 M58) = 0) → ∀ M78 : dsMem, R78 M1 M20 M39 M58 M78 → ((g78 M1 M20 M39 M58 M78) = 0) → (((M78 84 12) = 0)) → ∀ M79 : dsMem, R79 M1 M20 M39 M58 M78 M79 → ((g79 M1 M20 M39 M58 M78 M79) = 0) → ∀ M80 : dsMem, R80 M1 M20 M39 M58 M78 M79 M80 → ((g80 M1 M20 M39 M58 M78 M79 M80) = 0) → ∀ M81 : dsMem, R81 M1 M20 M39 M58 M78 M79 M80 M81 → (¬ (g81 M1 M20 M39 M58 M78 M79 M80 M81) = 0) → bCt 209 [uR 11 84, uX 0] M81 (fun _ => []) (R84 M1 M20 M39 M58 M78 M79 M80 M81)) (k42 : ∀ M1 : dsMem, R1 M1 → ((g1 M1) = 0) → ∀ M20 : dsMem, R20 M1 M20 → ((g20 M1 M20) = 0) → ∀ M39 : dsMem, R39 M1 M20 M39 → ((g39 M1 M20 M39) = 0) → ∀ M58 : dsMem, R58 M1 M20 M39 M58 → (¬ (g58 M1 M20 M39 M58) = 0) → ∀ M78 : dsMem, R78 M1 M20 M39 M58 M78 → ((g78 M1 M20 M39 M58 M78) = 0) → (((M78 84 12) = 0)) → ∀ M79 : dsMem, R79 M1 M20 M39 M58 M78 M79 → ((g79 M1 M20 M39 M58 M78 M79) = 0) → ∀ M80 : dsMem, R80 M1 M20 M39 M58 M78 M79 M80 → ((g80 M1 M20 M39 M58 M78 M79 M80) = 0) → ∀ M81 : dsMem, R81 M1 M20 M39 M58 M78 M79 M80 M81 → (¬ (g81 M1 M20 M39 M58 M78 M79 M80 M81) = 0) → ∀ M84 : dsMem, R84 M1 M20 M39 M58 M78 M79 M80 M81 M84 → Q [] M84) (hA85 : ∀ M1 : dsMem, R1 M1 → ((g1 M1) = 0) → ∀ M20 : dsMem, R20 M1 M20 → ((g20 M1 M20) = 0) → ∀ M39 : dsMem, R39 M1 M20 M39 → ((g39 M1 M20 M39) = 0) → ∀ M58 : dsMem, R58 M1 M20 M39 M58 → (¬ (g58 M1 M20 M39 M58) = 0) → ∀ M78 : dsMem, R78 M1 M20 M39 M58 M78 → ((g78 M1 M20 M39 M58 M78) = 0) → (((M78 84 12) = 0)) → ∀ M79 : dsMem, R79 M1 M20 M39 M58 M78 M79 → ((g79 M1 M20 M39 M58 M78 M79) = 0) → ∀ M80 : dsMem, R80 M1 M20 M39 M58 M78 M79 M80 → (¬ (g80 M1 M20 M39 M58 M78 M79 M80) = 0) → bCt 208 [uR 11 84, uX 0] M80 (fun _ => []) (R85 M1 M20 M39 M58 M78 M79 M80)) (k43 : ∀ M1 : dsMem, R1 M1 → ((g1 M1) = 0) → ∀ M20 : dsMem, R20 M1 M20 → ((g20 M1 M20) = 0) → ∀ M39 : dsMem, R39 M1 M20 M39 → ((g39 M1 M20 M39) = 0) → ∀ M58 : dsMem, R58 M1 M20 M39 M58 → (¬ (g58 M1 M20 M39 M58) = 0) → ∀ M78 : dsMem, R78 M1 M20 M39 M58 M78 → ((g78 M1 M20 M39 M58 M78) = 0) → (((M78 84 12) = 0)) → ∀ M79 : dsMem, R79 M1 M20 M39 M58 M78 M79 → ((g79 M1 M20 M39 M58 M78 M79) = 0) → ∀ M80 : dsMem, R80 M1 M20 M39 M58 M78 M79 M80 → (¬ (g80 M1 M20 M39 M58 M78 M79 M80) = 0) → ∀ M85 : dsMem, R85 M1 M20 M39 M58 M78 M79 M80 M85 → Q [] M85) (hA86 : ∀ M1 : dsMem, R1 M1 → ((g1 M1) = 0) → ∀ M20 : dsMem, R20 M1 M20 → ((g20 M1 M20) = 0) → ∀ M39 : dsMem, R39 M1 M20 M39 → ((g39 M1 M20 M39) = 0) → ∀ M58 : dsMem, R58 M1 M20 M39 M58 → (¬ (g58 M1 M20 M39 M58) = 0) → ∀ M78 : dsMem, R78 M1 M20 M39 M58 M78 → ((g78 M1 M20 M39 M58 M78) = 0) → (((M78 84 12) = 0)) → ∀ M79 : dsMem, R79 M1 M20 M39 M58 M78 M79 → (¬ (g79 M1 M20 M39 M58 M78 M79) = 0) → bCt 207 [uR 11 84, uX 0] M79 (fun _ => []) (R86 M1 M20 M39 M58 M78 M79)) (k44 : ∀ M1 : dsMem, R1 M1 → ((g1 M1) = 0) → ∀ M20 : dsMem, R20 M1 M20 → ((g20 M1 M20) = 0) → ∀ M39 : dsMem, R39 M1 M20 M39 → ((g39 M1 M20 M39) = 0) → ∀ M58 : dsMem, R58 M1 M20 M39 M58 → (¬ (g58 M1 M20 M39 M58) = 0) → ∀ M78 : dsMem, R78 M1 M20 M39 M58 M78 → ((g78 M1 M20 M39 M58 M78) = 0) → (((M78 84 12) = 0)) → ∀ M79 : dsMem, R79 M1 M20 M39 M58 M78 M79 → (¬ (g79 M1 M20 M39 M58 M78 M79) = 0) → ∀ M86 : dsMem, R86 M1 M20 M39 M58 M78 M79 M86 → Q [] M86) (k45 : ∀ M1 : dsMem, R1 M1 → ((g1 M1) = 0) → ∀ M20 : dsMem, R20 M1 M20 → ((g20 M1 M20) = 0) → ∀ M39 : dsMem, R39 M1 M20 M39 → ((g39 M1 M20 M39) = 0) → ∀ M58 : dsMem, R58 M1 M20 M39 M58 → (¬ (g58 M1 M20 M39 M58) = 0) → ∀ M78 : dsMem, R78 M1 M20 M39 M58 M78 → ((g78 M1 M20 M39 M58 M78) = 0) → (¬ ((M78 84 12) = 0)) → Q [] M78) (hA87 : ∀ M1 : dsMem, R1 M1 → ((g1 M1) = 0) → ∀ M20 : dsMem, R20 M1 M20 → ((g20 M1 M20) = 0) → ∀ M39 : dsMem, R39 M1 M20 M39 → ((g39 M1 M20 M39) = 0) → ∀ M58 : dsMem, R58 M1 M20 M39 M58 → (¬ (g58 M1 M20 M39 M58) = 0) → ∀ M78 : dsMem, R78 M1 M20 M39 M58 M78 → (¬ (g78 M1 M20 M39 M58 M78) = 0) → bCt 199 [uR 11 84, uI 3] M78 (fun _ => []) (R87 M1 M20 M39 M58 M78)) (hA88 : ∀ M1 : dsMem, R1 M1 → ((g1 M1) = 0) → ∀ M20 : dsMem, R20 M1 M20 → ((g20 M1 M20) = 0) → ∀ M39 : dsMem, R39 M1 M20 M39 → ((g39 M1 M20 M39) = 0) → ∀ M58 : dsMem, R58 M1 M20 M39 M58 → (¬ (g58 M1 M20 M39 M58) = 0) → ∀ M78 : dsMem, R78 M1 M20 M39 M58 M78 → (¬ (g78 M1 M20 M39 M58 M78) = 0) → ∀ M87 : dsMem, R87 M1 M20 M39 M58 M78 M87 → (((M87 84 12) = 0)) → bCt 201 [uR 11 84, uX 6, uX 0] M87 (fun M88 => [uI (g88 M1 M20 M39 M58 M78 M87 M88)]) (R88 M1 M20 M39 M58 M78 M87)) (hA89 : ∀ M1 : dsMem, R1 M1 → ((g1 M1) = 0) → ∀ M20 : dsMem, R20 M1 M20 → ((g20 M1 M20) = 0) → ∀ M39 : dsMem, R39 M1 M20 M39 → ((g39 M1 M20 M39) = 0) → ∀ M58 : dsMem, R58 M1 M20 M39 M58 → (¬ (g58 M1 M20 M39 M58) = 0) → ∀ M78 : dsMem, R78 M1 M20 M39 M58 M78 → (¬ (g78 M1 M20 M39 M58 M78) = 0) → ∀ M87 : dsMem, R87 M1 M20 M39 M58 M78 M87 → (((M87 84 12) = 0)) → ∀ M88 : dsMem, R88 M1 M20 M39 M58 M78 M87 M88 → ((g88 M1 M20 M39 M58 M78 M87 M88) = 0) → bCt 201 [uR 11 84, uX 9, uX 0] M88 (fun M89 => [uI (g89 M1 M20 M39 M58 M78 M87 M88 M89)]) (R89 M1 M20 M39 M58 M78 M87 M88)) (hA90 : ∀ M1 : dsMem, R1 M1 → ((g1 M1) = 0) → ∀ M20 : dsMem, R20 M1 M20 → ((g20 M1 M20) = 0) → ∀ M39 : dsMem, R39 M1 M20 M39 → ((g39 M1 M20 M39) = 0) → ∀ M58 : dsMem, R58 M1 M20 M39 M58 → (¬ (g58 M1 M20 M39 M58) = 0) → ∀ M78 : dsMem, R78 M1 M20 M39 M58 M78 → (¬ (g78 M1 M20 M39 M58 M78) = 0) → ∀ M87 : dsMem, R87 M1 M20 M39 M58 M78 M87 → (((M87 84 12) = 0)) → ∀ M88 : dsMem, R88 M1 M20 M39 M58 M78 M87 M88 → ((g88 M1 M20 M39 M58 M78 M87 M88) = 0) → ∀ M89 : dsMem, R89 M1 M20 M39 M58 M78 M87 M88 M89 → ((g89 M1 M20 M39 M58 M78 M87 M88 M89) = 0) → bCt 201 [uR 11 84, uX 13, uX 0] M89 (fun M90 => [uI (g90 M1 M20 M39 M58 M78 M87 M88 M89 M90)]) (R90 M1 M20 M39 M58 M78 M87 M88 M89)) (hA91 : ∀ M1 : dsMem, R1 M1 → ((g1 M1) = 0) → ∀ M20 : dsMem, R20 M1 M20 → ((g20 M1 M20) = 0) → ∀ M39 : dsMem, R39 M1 M20 M39 → ((g39 M1 M20 M39) = 0) → ∀ M58 : dsMem, R58 M1 M20 M39 M58 → (¬ (g58 M1 M20 M39 M58) = 0) → ∀ M78 : dsMem, R78 M1 M20 M39 M58 M78 → (¬ (g78 M1 M20 M39 M58 M78) = 0) → ∀ M87 : dsMem, R87 M1 M20 M39 M58 M78 M87 → (((M87 84 12) = 0)) → ∀ M88 : dsMem, R88 M1 M20 M39 M58 M78 M87 M88 → ((g88 M1 M20 M39 M58 M78 M87 M88) = 0) → ∀ M89 : dsMem, R89 M1 M20 M39 M58 M78 M87 M88 M89 → ((g89 M1 M20 M39 M58 M78 M87 M88 M89) = 0) → ∀ M90 : dsMem, R90 M1 M20 M39 M58 M78 M87 M88 M89 M90 → ((g90 M1 M20 M39 M58 M78 M87 M88 M89 M90) = 0) → bCt 197 [uR 11 84, uX 0] M90 (fun _ => []) (R91 M1 M20 M39 M58 M78 M87 M88 M89 M90)) (hA92 : ∀ M1 : dsMem, R1 M1 → ((g1 M1) = 0) → ∀ M20 : dsMem, R20 M1 M20 → ((g20 M1 M20) = 0) → ∀ M39 : dsMem, R39 M1 M20 M39 → ((g39 M1 M20 M39) = 0) → ∀ M58 : dsMem, R58 M1 M20 M39 M58 → (¬ (g58 M1 M20 M39 M58) = 0) → ∀ M78 : dsMem, R78 M1 M20 M39 M58 M78 → (¬ (g78 M1 M20 M39 M58 M78) = 0) → ∀ M87 : dsMem, R87 M1 M20 M39 M58 M78 M87 → (((M87 84 12) = 0)) → ∀ M88 : dsMem, R88 M1 M20 M39 M58 M78 M87 M88 → ((g88 M1 M20 M39 M58 M78 M87 M88) = 0) → ∀ M89 : dsMem, R89 M1 M20 M39 M58 M78 M87 M88 M89 → ((g89 M1 M20 M39 M58 M78 M87 M88 M89) = 0) → ∀ M90 : dsMem, R90 M1 M20 M39 M58 M78 M87 M88 M89 M90 → ((g90 M1 M20 M39 M58 M78 M87 M88 M89 M90) = 0) → ∀ M91 : dsMem, R91 M1 M20 M39 M58 M78 M87 M88 M89 M90 M91 → bCt 210 [uR 11 84, uX 0] M91 (fun _ => []) (R92 M1 M20 M39 M58 M78 M87 M88 M89 M90 M91)) (k46 : ∀ M1 : dsMem, R1 M1 → ((g1 M1) = 0) → ∀ M20 : dsMem, R20 M1 M20 → ((g20 M1 M20) = 0) → ∀ M39 : dsMem, R39 M1 M20 M39 → ((g39 M1 M20 M39) = 0) → ∀ M58 : dsMem, R58 M1 M20 M39 M58 → (¬ (g58 M1 M20 M39 M58) = 0) → ∀ M78 : dsMem, R78 M1 M20 M39 M58 M78 → (¬ (g78 M1 M20 M39 M58 M78) = 0) → ∀ M87 : dsMem, R87 M1 M20 M39 M58 M78 M87 → (((M87 84 12) = 0)) → ∀ M88 : dsMem, R88 M1 M20 M39 M58 M78 M87 M88 → ((g88 M1 M20 M39 M58 M78 M87 M88) = 0) → ∀ M89 : dsMem, R89 M1 M20 M39 M58 M78 M87 M88 M89 → ((g89 M1 M20 M39 M58 M78 M87 M88 M89) = 0) → ∀ M90 : dsMem, R90 M1 M20 M39 M58 M78 M87 M88 M89 M90 → ((g90 M1 M20 M39 M58 M78 M87 M88 M89 M90) = 0) → ∀ M91 : dsMem, R91 M1 M20 M39 M58 M78 M87 M88 M89 M90 M91 → ∀ M92 : dsMem, R92 M1 M20 M39 M58 M78 M87 M88 M89 M90 M91 M92 → Q [] M92) (hA93 : ∀ M1 : dsMem, R1 M1 → ((g1 M1) = 0) → ∀ M20 : dsMem, R20 M1 M20 → ((g20 M1 M20) = 0) → ∀ M39 : dsMem, R39 M1 M20 M39 → ((g39 M1 M20 M39) = 0) → ∀ M58 : dsMem, R58 M1 M20 M39 M58 → (¬ (g58 M1 M20 M39 M58) = 0) → ∀ M78 : dsMem, R78 M1 M20 M39 M58 M78 → (¬ (g78 M1 M20 M39 M58 M78) = 0) → ∀ M87 : dsMem, R87 M1 M20 M39 M58 M78 M87 → (((M87 84 12) = 0)) → ∀ M88 : dsMem, R88 M1 M20 M39 M58 M78 M87 M88 → ((g88 M1 M20 M39 M58 M78 M87 M88) = 0) → ∀ M89 : dsMem, R89 M1 M20 M39 M58 M78 M87 M88 M89 → ((g89 M1 M20 M39 M58 M78 M87 M88 M89) = 0) → ∀ M90 : dsMem, R90 M1 M20 M39 M58 M78 M87 M88 M89 M90 → (¬ (g90 M1 M20 M39 M58 M78 M87 M88 M89 M90) = 0) → bCt 209 [uR 11 84, uX 0] M90 (fun _ => []) (R93 M1 M20 M39 M58 M78 M87 M88 M89 M90)) (k47 : ∀ M1 : dsMem, R1 M1 → ((g1 M1) = 0) → ∀ M20 : dsMem, R20 M1 M20 → ((g20 M1 M20) = 0) → ∀ M39 : dsMem, R39 M1 M20 M39 → ((g39 M1 M20 M39) = 0) → ∀ M58 : dsMem, R58 M1 M20 M39 M58 → (¬ (g58 M1 M20 M39 M58) = 0) → ∀ M78 : dsMem, R78 M1 M20 M39 M58 M78 → (¬ (g78 M1 M20 M39 M58 M78) = 0) → ∀ M87 : dsMem, R87 M1 M20 M39 M58 M78 M87 → (((M87 84 12) = 0)) → ∀ M88 : dsMem, R88 M1 M20 M39 M58 M78 M87 M88 → ((g88 M1 M20 M39 M58 M78 M87 M88) = 0) → ∀ M89 : dsMem, R89 M1 M20 M39 M58 M78 M87 M88 M89 → ((g89 M1 M20 M39 M58 M78 M87 M88 M89) = 0) → ∀ M90 : dsMem, R90 M1 M20 M39 M58 M78 M87 M88 M89 M90 → (¬ (g90 M1 M20 M39 M58 M78 M87 M88 M89 M90) = 0) → ∀ M93 : dsMem, R93 M1 M20 M39 M58 M78 M87 M88 M89 M90 M93 → Q [] M93) (hA94 : ∀ M1 : dsMem, R1 M1 → ((g1 M1) = 0) → ∀ M20 : dsMem, R20 M1 M20 → ((g20 M1 M20) = 0) → ∀ M39 : dsMem, R39 M1 M20 M39 → ((g39 M1 M20 M39) = 0) → ∀ M58 : dsMem, R58 M1 M20 M39 M58 → (¬ (g58 M1 M20 M39 M58) = 0) → ∀ M78 : dsMem, R78 M1 M20 M39 M58 M78 → (¬ (g78 M1 M20 M39 M58 M78) = 0) → ∀ M87 : dsMem, R87 M1 M20 M39 M58 M78 M87 → (((M87 84 12) = 0)) → ∀ M88 : dsMem, R88 M1 M20 M39 M58 M78 M87 M88 → ((g88 M1 M20 M39 M58 M78 M87 M88) = 0) → ∀ M89 : dsMem, R89 M1 M20 M39 M58 M78 M87 M88 M89 → (¬ (g89 M1 M20 M39 M58 M78 M87 M88 M89) = 0) → bCt 208 [uR 11 84, uX 0] M89 (fun _ => []) (R94 M1 M20 M39 M58 M78 M87 M88 M89)) (k48 : ∀ M1 : dsMem, R1 M1 → ((g1 M1) = 0) → ∀ M20 : dsMem, R20 M1 M20 → ((g20 M1 M20) = 0) → ∀ M39 : dsMem, R39 M1 M20 M39 → ((g39 M1 M20 M39) = 0) → ∀ M58 : dsMem, R58 M1 M20 M39 M58 → (¬ (g58 M1 M20 M39 M58) = 0) → ∀ M78 : dsMem, R78 M1 M20 M39 M58 M78 → (¬ (g78 M1 M20 M39 M58 M78) = 0) → ∀ M87 : dsMem, R87 M1 M20 M39 M58 M78 M87 → (((M87 84 12) = 0)) → ∀ M88 : dsMem, R88 M1 M20 M39 M58 M78 M87 M88 → ((g88 M1 M20 M39 M58 M78 M87 M88) = 0) → ∀ M89 : dsMem, R89 M1 M20 M39 M58 M78 M87 M88 M89 → (¬ (g89 M1 M20 M39 M58 M78 M87 M88 M89) = 0) → ∀ M94 : dsMem, R94 M1 M20 M39 M58 M78 M87 M88 M89 M94 → Q [] M94) (hA95 : ∀ M1 : dsMem, R1 M1 → ((g1 M1) = 0) → ∀ M20 : dsMem, R20 M1 M20 → ((g20 M1 M20) = 0) → ∀ M39 : dsMem, R39 M1 M20 M39 → ((g39 M1 M20 M39) = 0) → ∀ M58 : dsMem, R58 M1 M20 M39 M58 → (¬ (g58 M1 M20 M39 M58) = 0) → ∀ M78 : dsMem, R78 M1 M20 M39 M58 M78 → (¬ (g78 M1 M20 M39 M58 M78) = 0) → ∀ M87 : dsMem, R87 M1 M20 M39 M58 M78 M87 → (((M87 84 12) = 0)) → ∀ M88 : dsMem, R88 M1 M20 M39 M58 M78 M87 M88 → (¬ (g88 M1 M20 M39 M58 M78 M87 M88) = 0) → bCt 207 [uR 11 84, uX 0] M88 (fun _ => []) (R95 M1 M20 M39 M58 M78 M87 M88)) (k49 : ∀ M1 : dsMem, R1 M1 → ((g1 M1) = 0) → ∀ M20 : dsMem, R20 M1 M20 → ((g20 M1 M20) = 0) → ∀ M39 : dsMem, R39 M1 M20 M39 → ((g39 M1 M20 M39) = 0) → ∀ M58 : dsMem, R58 M1 M20 M39 M58 → (¬ (g58 M1 M20 M39 M58) = 0) → ∀ M78 : dsMem, R78 M1 M20 M39 M58 M78 → (¬ (g78 M1 M20 M39 M58 M78) = 0) → ∀ M87 : dsMem, R87 M1 M20 M39 M58 M78 M87 → (((M87 84 12) = 0)) → ∀ M88 : dsMem, R88 M1 M20 M39 M58 M78 M87 M88 → (¬ (g88 M1 M20 M39 M58 M78 M87 M88) = 0) → ∀ M95 : dsMem, R95 M1 M20 M39 M58 M78 M87 M88 M95 → Q [] M95) (k50 : ∀ M1 : dsMem, R1 M1 → ((g1 M1) = 0) → ∀ M20 : dsMem, R20 M1 M20 → ((g20 M1 M20) = 0) → ∀ M39 : dsMem, R39 M1 M20 M39 → ((g39 M1 M20 M39) = 0) → ∀ M58 : dsMem, R58 M1 M20 M39 M58 → (¬ (g58 M1 M20 M39 M58) = 0) → ∀ M78 : dsMem, R78 M1 M20 M39 M58 M78 → (¬ (g78 M1 M20 M39 M58 M78) = 0) → ∀ M87 : dsMem, R87 M1 M20 M39 M58 M78 M87 → (¬ ((M87 84 12) = 0)) → Q [] M87) :
    bB 212 0 [uR 11 84, uX 0] [] M Q := by
  refine b_aload_n (d212 (j := 0) rfl) rfl ?_
  refine b_ldcS (d212 (j := 1) rfl) rfl rfl ?_
  refine b_stk [uX 6, uR 11 84] rfl ?_
  refine b_callV (d212 (j := 2) rfl) rfl rfl (Or.inl rfl) rfl (bCk_mk (n := 0) (k := 2) (by decide +kernel) rfl rfl) ((hA1) _ (fun M1 hR1 => ?_))
  refine b_stk [uI (g1 M1)] rfl ?_
  refine b_if_ne (d212 (j := 3) rfl) (fun c1 => ?_) (fun c1 => ?_)
  ·
    refine b_iconst (d212 (j := 16) rfl) (by decide) ?_
    refine b_goto (d212 (j := 17) rfl) ?_
    refine b_istore_n [uR 11 84, uI 1] (d212 (j := 19) rfl) (by decide) rfl ?_
    refine b_iload_n (d212 (j := 20) rfl) rfl ?_
    refine b_if_ne (d212 (j := 21) rfl) (fun _ => ?_) (fun q => absurd q (by decide))
    refine b_aload_n (d212 (j := 25) rfl) rfl ?_
    refine b_callV (d212 (j := 26) rfl) rfl rfl (Or.inl rfl) rfl (bCk_mk (n := 0) (k := 1) (by decide +kernel) rfl rfl) ((hA2 M1 hR1 c1) _ (fun M2 hR2 => ?_))
    refine b_stk [uI (g2 M1 M2)] rfl ?_
    refine b_if_eq (d212 (j := 27) rfl) (fun c3 => ?_) (fun c3 => ?_)
    ·
      refine b_aload_n (d212 (j := 31) rfl) rfl ?_
      refine b_callV (d212 (j := 32) rfl) rfl rfl (Or.inl rfl) rfl (bCk_mk (n := 0) (k := 1) (by decide +kernel) rfl rfl) (pu198  ?_)
      refine b_stk [uI (if ((M2 84 12) = 0) then 1 else 0)] rfl ?_
      refine b_ifneP (d212 (j := 33) rfl) (fun c4 => ?_) (fun c4 => ?_)
      ·
        refine b_aload_n (d212 (j := 35) rfl) rfl ?_
        refine b_ldcS (d212 (j := 36) rfl) rfl rfl ?_
        refine b_stk [uX 6, uR 11 84] rfl ?_
        refine b_callV (d212 (j := 37) rfl) rfl rfl (Or.inl rfl) rfl (bCk_mk (n := 0) (k := 2) (by decide +kernel) rfl rfl) ((hA3 M1 hR1 c1 M2 hR2 c3 c4) _ (fun M3 hR3 => ?_))
        refine b_stk [uI (g3 M1 M2 M3)] rfl ?_
        refine b_if_eq (d212 (j := 38) rfl) (fun c5 => ?_) (fun c5 => ?_)
        ·
          refine b_aload_n (d212 (j := 42) rfl) rfl ?_
          refine b_ldcS (d212 (j := 43) rfl) rfl rfl ?_
          refine b_stk [uX 9, uR 11 84] rfl ?_
          refine b_callV (d212 (j := 44) rfl) rfl rfl (Or.inl rfl) rfl (bCk_mk (n := 0) (k := 2) (by decide +kernel) rfl rfl) ((hA4 M1 hR1 c1 M2 hR2 c3 c4 M3 hR3 c5) _ (fun M4 hR4 => ?_))
          refine b_stk [uI (g4 M1 M2 M3 M4)] rfl ?_
          refine b_if_eq (d212 (j := 45) rfl) (fun c6 => ?_) (fun c6 => ?_)
          ·
            refine b_aload_n (d212 (j := 49) rfl) rfl ?_
            refine b_ldcS (d212 (j := 50) rfl) rfl rfl ?_
            refine b_stk [uX 13, uR 11 84] rfl ?_
            refine b_callV (d212 (j := 51) rfl) rfl rfl (Or.inl rfl) rfl (bCk_mk (n := 0) (k := 2) (by decide +kernel) rfl rfl) ((hA5 M1 hR1 c1 M2 hR2 c3 c4 M3 hR3 c5 M4 hR4 c6) _ (fun M5 hR5 => ?_))
            refine b_stk [uI (g5 M1 M2 M3 M4 M5)] rfl ?_
            refine b_if_eq (d212 (j := 52) rfl) (fun c7 => ?_) (fun c7 => ?_)
            ·
              refine b_aload_n (d212 (j := 56) rfl) rfl ?_
              refine b_callV (d212 (j := 57) rfl) rfl rfl (Or.inl rfl) rfl (bCk_mk (n := 0) (k := 1) (by decide +kernel) rfl rfl) ((hA6 M1 hR1 c1 M2 hR2 c3 c4 M3 hR3 c5 M4 hR4 c6 M5 hR5 c7) _ (fun M6 hR6 => ?_))
              refine b_stk [] rfl ?_
              refine b_aload_n (d212 (j := 58) rfl) rfl ?_
              refine b_callV (d212 (j := 59) rfl) rfl rfl (Or.inl rfl) rfl (bCk_mk (n := 0) (k := 1) (by decide +kernel) rfl rfl) ((hA7 M1 hR1 c1 M2 hR2 c3 c4 M3 hR3 c5 M4 hR4 c6 M5 hR5 c7 M6 hR6) _ (fun M7 hR7 => ?_))
              refine b_stk [] rfl ?_
              exact b_vret (d212 (j := 60) rfl) rfl (k1 M1 hR1 c1 M2 hR2 c3 c4 M3 hR3 c5 M4 hR4 c6 M5 hR5 c7 M6 hR6 M7 hR7)
            ·
              refine b_aload_n (d212 (j := 53) rfl) rfl ?_
              refine b_callV (d212 (j := 54) rfl) rfl rfl (Or.inl rfl) rfl (bCk_mk (n := 0) (k := 1) (by decide +kernel) rfl rfl) ((hA8 M1 hR1 c1 M2 hR2 c3 c4 M3 hR3 c5 M4 hR4 c6 M5 hR5 c7) _ (fun M8 hR8 => ?_))
              refine b_stk [] rfl ?_
              refine b_goto (d212 (j := 55) rfl) ?_
              exact b_vret (d212 (j := 60) rfl) rfl (k2 M1 hR1 c1 M2 hR2 c3 c4 M3 hR3 c5 M4 hR4 c6 M5 hR5 c7 M8 hR8)
          ·
            refine b_aload_n (d212 (j := 46) rfl) rfl ?_
            refine b_callV (d212 (j := 47) rfl) rfl rfl (Or.inl rfl) rfl (bCk_mk (n := 0) (k := 1) (by decide +kernel) rfl rfl) ((hA9 M1 hR1 c1 M2 hR2 c3 c4 M3 hR3 c5 M4 hR4 c6) _ (fun M9 hR9 => ?_))
            refine b_stk [] rfl ?_
            refine b_goto (d212 (j := 48) rfl) ?_
            exact b_vret (d212 (j := 60) rfl) rfl (k3 M1 hR1 c1 M2 hR2 c3 c4 M3 hR3 c5 M4 hR4 c6 M9 hR9)
        ·
          refine b_aload_n (d212 (j := 39) rfl) rfl ?_
          refine b_callV (d212 (j := 40) rfl) rfl rfl (Or.inl rfl) rfl (bCk_mk (n := 0) (k := 1) (by decide +kernel) rfl rfl) ((hA10 M1 hR1 c1 M2 hR2 c3 c4 M3 hR3 c5) _ (fun M10 hR10 => ?_))
          refine b_stk [] rfl ?_
          refine b_goto (d212 (j := 41) rfl) ?_
          exact b_vret (d212 (j := 60) rfl) rfl (k4 M1 hR1 c1 M2 hR2 c3 c4 M3 hR3 c5 M10 hR10)
      ·
        exact b_vret (d212 (j := 34) rfl) rfl (k5 M1 hR1 c1 M2 hR2 c3 c4)
    ·
      refine b_aload_n (d212 (j := 28) rfl) rfl ?_
      refine b_iconst (d212 (j := 29) rfl) (by decide) ?_
      refine b_callV (d212 (j := 30) rfl) rfl rfl (Or.inl rfl) rfl (bCk_mk (n := 0) (k := 2) (by decide +kernel) rfl rfl) ((hA11 M1 hR1 c1 M2 hR2 c3) _ (fun M11 hR11 => ?_))
      refine b_stk [] rfl ?_
      refine b_aload_n (d212 (j := 31) rfl) rfl ?_
      refine b_callV (d212 (j := 32) rfl) rfl rfl (Or.inl rfl) rfl (bCk_mk (n := 0) (k := 1) (by decide +kernel) rfl rfl) (pu198  ?_)
      refine b_stk [uI (if ((M11 84 12) = 0) then 1 else 0)] rfl ?_
      refine b_ifneP (d212 (j := 33) rfl) (fun c8 => ?_) (fun c8 => ?_)
      ·
        refine b_aload_n (d212 (j := 35) rfl) rfl ?_
        refine b_ldcS (d212 (j := 36) rfl) rfl rfl ?_
        refine b_stk [uX 6, uR 11 84] rfl ?_
        refine b_callV (d212 (j := 37) rfl) rfl rfl (Or.inl rfl) rfl (bCk_mk (n := 0) (k := 2) (by decide +kernel) rfl rfl) ((hA12 M1 hR1 c1 M2 hR2 c3 M11 hR11 c8) _ (fun M12 hR12 => ?_))
        refine b_stk [uI (g12 M1 M2 M11 M12)] rfl ?_
        refine b_if_eq (d212 (j := 38) rfl) (fun c9 => ?_) (fun c9 => ?_)
        ·
          refine b_aload_n (d212 (j := 42) rfl) rfl ?_
          refine b_ldcS (d212 (j := 43) rfl) rfl rfl ?_
          refine b_stk [uX 9, uR 11 84] rfl ?_
          refine b_callV (d212 (j := 44) rfl) rfl rfl (Or.inl rfl) rfl (bCk_mk (n := 0) (k := 2) (by decide +kernel) rfl rfl) ((hA13 M1 hR1 c1 M2 hR2 c3 M11 hR11 c8 M12 hR12 c9) _ (fun M13 hR13 => ?_))
          refine b_stk [uI (g13 M1 M2 M11 M12 M13)] rfl ?_
          refine b_if_eq (d212 (j := 45) rfl) (fun c10 => ?_) (fun c10 => ?_)
          ·
            refine b_aload_n (d212 (j := 49) rfl) rfl ?_
            refine b_ldcS (d212 (j := 50) rfl) rfl rfl ?_
            refine b_stk [uX 13, uR 11 84] rfl ?_
            refine b_callV (d212 (j := 51) rfl) rfl rfl (Or.inl rfl) rfl (bCk_mk (n := 0) (k := 2) (by decide +kernel) rfl rfl) ((hA14 M1 hR1 c1 M2 hR2 c3 M11 hR11 c8 M12 hR12 c9 M13 hR13 c10) _ (fun M14 hR14 => ?_))
            refine b_stk [uI (g14 M1 M2 M11 M12 M13 M14)] rfl ?_
            refine b_if_eq (d212 (j := 52) rfl) (fun c11 => ?_) (fun c11 => ?_)
            ·
              refine b_aload_n (d212 (j := 56) rfl) rfl ?_
              refine b_callV (d212 (j := 57) rfl) rfl rfl (Or.inl rfl) rfl (bCk_mk (n := 0) (k := 1) (by decide +kernel) rfl rfl) ((hA15 M1 hR1 c1 M2 hR2 c3 M11 hR11 c8 M12 hR12 c9 M13 hR13 c10 M14 hR14 c11) _ (fun M15 hR15 => ?_))
              refine b_stk [] rfl ?_
              refine b_aload_n (d212 (j := 58) rfl) rfl ?_
              refine b_callV (d212 (j := 59) rfl) rfl rfl (Or.inl rfl) rfl (bCk_mk (n := 0) (k := 1) (by decide +kernel) rfl rfl) ((hA16 M1 hR1 c1 M2 hR2 c3 M11 hR11 c8 M12 hR12 c9 M13 hR13 c10 M14 hR14 c11 M15 hR15) _ (fun M16 hR16 => ?_))
              refine b_stk [] rfl ?_
              exact b_vret (d212 (j := 60) rfl) rfl (k6 M1 hR1 c1 M2 hR2 c3 M11 hR11 c8 M12 hR12 c9 M13 hR13 c10 M14 hR14 c11 M15 hR15 M16 hR16)
            ·
              refine b_aload_n (d212 (j := 53) rfl) rfl ?_
              refine b_callV (d212 (j := 54) rfl) rfl rfl (Or.inl rfl) rfl (bCk_mk (n := 0) (k := 1) (by decide +kernel) rfl rfl) ((hA17 M1 hR1 c1 M2 hR2 c3 M11 hR11 c8 M12 hR12 c9 M13 hR13 c10 M14 hR14 c11) _ (fun M17 hR17 => ?_))
              refine b_stk [] rfl ?_
              refine b_goto (d212 (j := 55) rfl) ?_
              exact b_vret (d212 (j := 60) rfl) rfl (k7 M1 hR1 c1 M2 hR2 c3 M11 hR11 c8 M12 hR12 c9 M13 hR13 c10 M14 hR14 c11 M17 hR17)
          ·
            refine b_aload_n (d212 (j := 46) rfl) rfl ?_
            refine b_callV (d212 (j := 47) rfl) rfl rfl (Or.inl rfl) rfl (bCk_mk (n := 0) (k := 1) (by decide +kernel) rfl rfl) ((hA18 M1 hR1 c1 M2 hR2 c3 M11 hR11 c8 M12 hR12 c9 M13 hR13 c10) _ (fun M18 hR18 => ?_))
            refine b_stk [] rfl ?_
            refine b_goto (d212 (j := 48) rfl) ?_
            exact b_vret (d212 (j := 60) rfl) rfl (k8 M1 hR1 c1 M2 hR2 c3 M11 hR11 c8 M12 hR12 c9 M13 hR13 c10 M18 hR18)
        ·
          refine b_aload_n (d212 (j := 39) rfl) rfl ?_
          refine b_callV (d212 (j := 40) rfl) rfl rfl (Or.inl rfl) rfl (bCk_mk (n := 0) (k := 1) (by decide +kernel) rfl rfl) ((hA19 M1 hR1 c1 M2 hR2 c3 M11 hR11 c8 M12 hR12 c9) _ (fun M19 hR19 => ?_))
          refine b_stk [] rfl ?_
          refine b_goto (d212 (j := 41) rfl) ?_
          exact b_vret (d212 (j := 60) rfl) rfl (k9 M1 hR1 c1 M2 hR2 c3 M11 hR11 c8 M12 hR12 c9 M19 hR19)
      ·
        exact b_vret (d212 (j := 34) rfl) rfl (k10 M1 hR1 c1 M2 hR2 c3 M11 hR11 c8)
  ·
    refine b_aload_n (d212 (j := 4) rfl) rfl ?_
    refine b_ldcS (d212 (j := 5) rfl) rfl rfl ?_
    refine b_stk [uX 9, uR 11 84] rfl ?_
    refine b_callV (d212 (j := 6) rfl) rfl rfl (Or.inl rfl) rfl (bCk_mk (n := 0) (k := 2) (by decide +kernel) rfl rfl) ((hA20 M1 hR1 c1) _ (fun M20 hR20 => ?_))
    refine b_stk [uI (g20 M1 M20)] rfl ?_
    refine b_if_ne (d212 (j := 7) rfl) (fun c12 => ?_) (fun c12 => ?_)
    ·
      refine b_iconst (d212 (j := 16) rfl) (by decide) ?_
      refine b_goto (d212 (j := 17) rfl) ?_
      refine b_istore_n [uR 11 84, uI 1] (d212 (j := 19) rfl) (by decide) rfl ?_
      refine b_iload_n (d212 (j := 20) rfl) rfl ?_
      refine b_if_ne (d212 (j := 21) rfl) (fun _ => ?_) (fun q => absurd q (by decide))
      refine b_aload_n (d212 (j := 25) rfl) rfl ?_
      refine b_callV (d212 (j := 26) rfl) rfl rfl (Or.inl rfl) rfl (bCk_mk (n := 0) (k := 1) (by decide +kernel) rfl rfl) ((hA21 M1 hR1 c1 M20 hR20 c12) _ (fun M21 hR21 => ?_))
      refine b_stk [uI (g21 M1 M20 M21)] rfl ?_
      refine b_if_eq (d212 (j := 27) rfl) (fun c14 => ?_) (fun c14 => ?_)
      ·
        refine b_aload_n (d212 (j := 31) rfl) rfl ?_
        refine b_callV (d212 (j := 32) rfl) rfl rfl (Or.inl rfl) rfl (bCk_mk (n := 0) (k := 1) (by decide +kernel) rfl rfl) (pu198  ?_)
        refine b_stk [uI (if ((M21 84 12) = 0) then 1 else 0)] rfl ?_
        refine b_ifneP (d212 (j := 33) rfl) (fun c15 => ?_) (fun c15 => ?_)
        ·
          refine b_aload_n (d212 (j := 35) rfl) rfl ?_
          refine b_ldcS (d212 (j := 36) rfl) rfl rfl ?_
          refine b_stk [uX 6, uR 11 84] rfl ?_
          refine b_callV (d212 (j := 37) rfl) rfl rfl (Or.inl rfl) rfl (bCk_mk (n := 0) (k := 2) (by decide +kernel) rfl rfl) ((hA22 M1 hR1 c1 M20 hR20 c12 M21 hR21 c14 c15) _ (fun M22 hR22 => ?_))
          refine b_stk [uI (g22 M1 M20 M21 M22)] rfl ?_
          refine b_if_eq (d212 (j := 38) rfl) (fun c16 => ?_) (fun c16 => ?_)
          ·
            refine b_aload_n (d212 (j := 42) rfl) rfl ?_
            refine b_ldcS (d212 (j := 43) rfl) rfl rfl ?_
            refine b_stk [uX 9, uR 11 84] rfl ?_
            refine b_callV (d212 (j := 44) rfl) rfl rfl (Or.inl rfl) rfl (bCk_mk (n := 0) (k := 2) (by decide +kernel) rfl rfl) ((hA23 M1 hR1 c1 M20 hR20 c12 M21 hR21 c14 c15 M22 hR22 c16) _ (fun M23 hR23 => ?_))
            refine b_stk [uI (g23 M1 M20 M21 M22 M23)] rfl ?_
            refine b_if_eq (d212 (j := 45) rfl) (fun c17 => ?_) (fun c17 => ?_)
            ·
              refine b_aload_n (d212 (j := 49) rfl) rfl ?_
              refine b_ldcS (d212 (j := 50) rfl) rfl rfl ?_
              refine b_stk [uX 13, uR 11 84] rfl ?_
              refine b_callV (d212 (j := 51) rfl) rfl rfl (Or.inl rfl) rfl (bCk_mk (n := 0) (k := 2) (by decide +kernel) rfl rfl) ((hA24 M1 hR1 c1 M20 hR20 c12 M21 hR21 c14 c15 M22 hR22 c16 M23 hR23 c17) _ (fun M24 hR24 => ?_))
              refine b_stk [uI (g24 M1 M20 M21 M22 M23 M24)] rfl ?_
              refine b_if_eq (d212 (j := 52) rfl) (fun c18 => ?_) (fun c18 => ?_)
              ·
                refine b_aload_n (d212 (j := 56) rfl) rfl ?_
                refine b_callV (d212 (j := 57) rfl) rfl rfl (Or.inl rfl) rfl (bCk_mk (n := 0) (k := 1) (by decide +kernel) rfl rfl) ((hA25 M1 hR1 c1 M20 hR20 c12 M21 hR21 c14 c15 M22 hR22 c16 M23 hR23 c17 M24 hR24 c18) _ (fun M25 hR25 => ?_))
                refine b_stk [] rfl ?_
                refine b_aload_n (d212 (j := 58) rfl) rfl ?_
                refine b_callV (d212 (j := 59) rfl) rfl rfl (Or.inl rfl) rfl (bCk_mk (n := 0) (k := 1) (by decide +kernel) rfl rfl) ((hA26 M1 hR1 c1 M20 hR20 c12 M21 hR21 c14 c15 M22 hR22 c16 M23 hR23 c17 M24 hR24 c18 M25 hR25) _ (fun M26 hR26 => ?_))
                refine b_stk [] rfl ?_
                exact b_vret (d212 (j := 60) rfl) rfl (k11 M1 hR1 c1 M20 hR20 c12 M21 hR21 c14 c15 M22 hR22 c16 M23 hR23 c17 M24 hR24 c18 M25 hR25 M26 hR26)
              ·
                refine b_aload_n (d212 (j := 53) rfl) rfl ?_
                refine b_callV (d212 (j := 54) rfl) rfl rfl (Or.inl rfl) rfl (bCk_mk (n := 0) (k := 1) (by decide +kernel) rfl rfl) ((hA27 M1 hR1 c1 M20 hR20 c12 M21 hR21 c14 c15 M22 hR22 c16 M23 hR23 c17 M24 hR24 c18) _ (fun M27 hR27 => ?_))
                refine b_stk [] rfl ?_
                refine b_goto (d212 (j := 55) rfl) ?_
                exact b_vret (d212 (j := 60) rfl) rfl (k12 M1 hR1 c1 M20 hR20 c12 M21 hR21 c14 c15 M22 hR22 c16 M23 hR23 c17 M24 hR24 c18 M27 hR27)
            ·
              refine b_aload_n (d212 (j := 46) rfl) rfl ?_
              refine b_callV (d212 (j := 47) rfl) rfl rfl (Or.inl rfl) rfl (bCk_mk (n := 0) (k := 1) (by decide +kernel) rfl rfl) ((hA28 M1 hR1 c1 M20 hR20 c12 M21 hR21 c14 c15 M22 hR22 c16 M23 hR23 c17) _ (fun M28 hR28 => ?_))
              refine b_stk [] rfl ?_
              refine b_goto (d212 (j := 48) rfl) ?_
              exact b_vret (d212 (j := 60) rfl) rfl (k13 M1 hR1 c1 M20 hR20 c12 M21 hR21 c14 c15 M22 hR22 c16 M23 hR23 c17 M28 hR28)
          ·
            refine b_aload_n (d212 (j := 39) rfl) rfl ?_
            refine b_callV (d212 (j := 40) rfl) rfl rfl (Or.inl rfl) rfl (bCk_mk (n := 0) (k := 1) (by decide +kernel) rfl rfl) ((hA29 M1 hR1 c1 M20 hR20 c12 M21 hR21 c14 c15 M22 hR22 c16) _ (fun M29 hR29 => ?_))
            refine b_stk [] rfl ?_
            refine b_goto (d212 (j := 41) rfl) ?_
            exact b_vret (d212 (j := 60) rfl) rfl (k14 M1 hR1 c1 M20 hR20 c12 M21 hR21 c14 c15 M22 hR22 c16 M29 hR29)
        ·
          exact b_vret (d212 (j := 34) rfl) rfl (k15 M1 hR1 c1 M20 hR20 c12 M21 hR21 c14 c15)
      ·
        refine b_aload_n (d212 (j := 28) rfl) rfl ?_
        refine b_iconst (d212 (j := 29) rfl) (by decide) ?_
        refine b_callV (d212 (j := 30) rfl) rfl rfl (Or.inl rfl) rfl (bCk_mk (n := 0) (k := 2) (by decide +kernel) rfl rfl) ((hA30 M1 hR1 c1 M20 hR20 c12 M21 hR21 c14) _ (fun M30 hR30 => ?_))
        refine b_stk [] rfl ?_
        refine b_aload_n (d212 (j := 31) rfl) rfl ?_
        refine b_callV (d212 (j := 32) rfl) rfl rfl (Or.inl rfl) rfl (bCk_mk (n := 0) (k := 1) (by decide +kernel) rfl rfl) (pu198  ?_)
        refine b_stk [uI (if ((M30 84 12) = 0) then 1 else 0)] rfl ?_
        refine b_ifneP (d212 (j := 33) rfl) (fun c19 => ?_) (fun c19 => ?_)
        ·
          refine b_aload_n (d212 (j := 35) rfl) rfl ?_
          refine b_ldcS (d212 (j := 36) rfl) rfl rfl ?_
          refine b_stk [uX 6, uR 11 84] rfl ?_
          refine b_callV (d212 (j := 37) rfl) rfl rfl (Or.inl rfl) rfl (bCk_mk (n := 0) (k := 2) (by decide +kernel) rfl rfl) ((hA31 M1 hR1 c1 M20 hR20 c12 M21 hR21 c14 M30 hR30 c19) _ (fun M31 hR31 => ?_))
          refine b_stk [uI (g31 M1 M20 M21 M30 M31)] rfl ?_
          refine b_if_eq (d212 (j := 38) rfl) (fun c20 => ?_) (fun c20 => ?_)
          ·
            refine b_aload_n (d212 (j := 42) rfl) rfl ?_
            refine b_ldcS (d212 (j := 43) rfl) rfl rfl ?_
            refine b_stk [uX 9, uR 11 84] rfl ?_
            refine b_callV (d212 (j := 44) rfl) rfl rfl (Or.inl rfl) rfl (bCk_mk (n := 0) (k := 2) (by decide +kernel) rfl rfl) ((hA32 M1 hR1 c1 M20 hR20 c12 M21 hR21 c14 M30 hR30 c19 M31 hR31 c20) _ (fun M32 hR32 => ?_))
            refine b_stk [uI (g32 M1 M20 M21 M30 M31 M32)] rfl ?_
            refine b_if_eq (d212 (j := 45) rfl) (fun c21 => ?_) (fun c21 => ?_)
            ·
              refine b_aload_n (d212 (j := 49) rfl) rfl ?_
              refine b_ldcS (d212 (j := 50) rfl) rfl rfl ?_
              refine b_stk [uX 13, uR 11 84] rfl ?_
              refine b_callV (d212 (j := 51) rfl) rfl rfl (Or.inl rfl) rfl (bCk_mk (n := 0) (k := 2) (by decide +kernel) rfl rfl) ((hA33 M1 hR1 c1 M20 hR20 c12 M21 hR21 c14 M30 hR30 c19 M31 hR31 c20 M32 hR32 c21) _ (fun M33 hR33 => ?_))
              refine b_stk [uI (g33 M1 M20 M21 M30 M31 M32 M33)] rfl ?_
              refine b_if_eq (d212 (j := 52) rfl) (fun c22 => ?_) (fun c22 => ?_)
              ·
                refine b_aload_n (d212 (j := 56) rfl) rfl ?_
                refine b_callV (d212 (j := 57) rfl) rfl rfl (Or.inl rfl) rfl (bCk_mk (n := 0) (k := 1) (by decide +kernel) rfl rfl) ((hA34 M1 hR1 c1 M20 hR20 c12 M21 hR21 c14 M30 hR30 c19 M31 hR31 c20 M32 hR32 c21 M33 hR33 c22) _ (fun M34 hR34 => ?_))
                refine b_stk [] rfl ?_
                refine b_aload_n (d212 (j := 58) rfl) rfl ?_
                refine b_callV (d212 (j := 59) rfl) rfl rfl (Or.inl rfl) rfl (bCk_mk (n := 0) (k := 1) (by decide +kernel) rfl rfl) ((hA35 M1 hR1 c1 M20 hR20 c12 M21 hR21 c14 M30 hR30 c19 M31 hR31 c20 M32 hR32 c21 M33 hR33 c22 M34 hR34) _ (fun M35 hR35 => ?_))
                refine b_stk [] rfl ?_
                exact b_vret (d212 (j := 60) rfl) rfl (k16 M1 hR1 c1 M20 hR20 c12 M21 hR21 c14 M30 hR30 c19 M31 hR31 c20 M32 hR32 c21 M33 hR33 c22 M34 hR34 M35 hR35)
              ·
                refine b_aload_n (d212 (j := 53) rfl) rfl ?_
                refine b_callV (d212 (j := 54) rfl) rfl rfl (Or.inl rfl) rfl (bCk_mk (n := 0) (k := 1) (by decide +kernel) rfl rfl) ((hA36 M1 hR1 c1 M20 hR20 c12 M21 hR21 c14 M30 hR30 c19 M31 hR31 c20 M32 hR32 c21 M33 hR33 c22) _ (fun M36 hR36 => ?_))
                refine b_stk [] rfl ?_
                refine b_goto (d212 (j := 55) rfl) ?_
                exact b_vret (d212 (j := 60) rfl) rfl (k17 M1 hR1 c1 M20 hR20 c12 M21 hR21 c14 M30 hR30 c19 M31 hR31 c20 M32 hR32 c21 M33 hR33 c22 M36 hR36)
            ·
              refine b_aload_n (d212 (j := 46) rfl) rfl ?_
              refine b_callV (d212 (j := 47) rfl) rfl rfl (Or.inl rfl) rfl (bCk_mk (n := 0) (k := 1) (by decide +kernel) rfl rfl) ((hA37 M1 hR1 c1 M20 hR20 c12 M21 hR21 c14 M30 hR30 c19 M31 hR31 c20 M32 hR32 c21) _ (fun M37 hR37 => ?_))
              refine b_stk [] rfl ?_
              refine b_goto (d212 (j := 48) rfl) ?_
              exact b_vret (d212 (j := 60) rfl) rfl (k18 M1 hR1 c1 M20 hR20 c12 M21 hR21 c14 M30 hR30 c19 M31 hR31 c20 M32 hR32 c21 M37 hR37)
          ·
            refine b_aload_n (d212 (j := 39) rfl) rfl ?_
            refine b_callV (d212 (j := 40) rfl) rfl rfl (Or.inl rfl) rfl (bCk_mk (n := 0) (k := 1) (by decide +kernel) rfl rfl) ((hA38 M1 hR1 c1 M20 hR20 c12 M21 hR21 c14 M30 hR30 c19 M31 hR31 c20) _ (fun M38 hR38 => ?_))
            refine b_stk [] rfl ?_
            refine b_goto (d212 (j := 41) rfl) ?_
            exact b_vret (d212 (j := 60) rfl) rfl (k19 M1 hR1 c1 M20 hR20 c12 M21 hR21 c14 M30 hR30 c19 M31 hR31 c20 M38 hR38)
        ·
          exact b_vret (d212 (j := 34) rfl) rfl (k20 M1 hR1 c1 M20 hR20 c12 M21 hR21 c14 M30 hR30 c19)
    ·
      refine b_aload_n (d212 (j := 8) rfl) rfl ?_
      refine b_ldcS (d212 (j := 9) rfl) rfl rfl ?_
      refine b_stk [uX 13, uR 11 84] rfl ?_
      refine b_callV (d212 (j := 10) rfl) rfl rfl (Or.inl rfl) rfl (bCk_mk (n := 0) (k := 2) (by decide +kernel) rfl rfl) ((hA39 M1 hR1 c1 M20 hR20 c12) _ (fun M39 hR39 => ?_))
      refine b_stk [uI (g39 M1 M20 M39)] rfl ?_
      refine b_if_ne (d212 (j := 11) rfl) (fun c23 => ?_) (fun c23 => ?_)
      ·
        refine b_iconst (d212 (j := 16) rfl) (by decide) ?_
        refine b_goto (d212 (j := 17) rfl) ?_
        refine b_istore_n [uR 11 84, uI 1] (d212 (j := 19) rfl) (by decide) rfl ?_
        refine b_iload_n (d212 (j := 20) rfl) rfl ?_
        refine b_if_ne (d212 (j := 21) rfl) (fun _ => ?_) (fun q => absurd q (by decide))
        refine b_aload_n (d212 (j := 25) rfl) rfl ?_
        refine b_callV (d212 (j := 26) rfl) rfl rfl (Or.inl rfl) rfl (bCk_mk (n := 0) (k := 1) (by decide +kernel) rfl rfl) ((hA40 M1 hR1 c1 M20 hR20 c12 M39 hR39 c23) _ (fun M40 hR40 => ?_))
        refine b_stk [uI (g40 M1 M20 M39 M40)] rfl ?_
        refine b_if_eq (d212 (j := 27) rfl) (fun c25 => ?_) (fun c25 => ?_)
        ·
          refine b_aload_n (d212 (j := 31) rfl) rfl ?_
          refine b_callV (d212 (j := 32) rfl) rfl rfl (Or.inl rfl) rfl (bCk_mk (n := 0) (k := 1) (by decide +kernel) rfl rfl) (pu198  ?_)
          refine b_stk [uI (if ((M40 84 12) = 0) then 1 else 0)] rfl ?_
          refine b_ifneP (d212 (j := 33) rfl) (fun c26 => ?_) (fun c26 => ?_)
          ·
            refine b_aload_n (d212 (j := 35) rfl) rfl ?_
            refine b_ldcS (d212 (j := 36) rfl) rfl rfl ?_
            refine b_stk [uX 6, uR 11 84] rfl ?_
            refine b_callV (d212 (j := 37) rfl) rfl rfl (Or.inl rfl) rfl (bCk_mk (n := 0) (k := 2) (by decide +kernel) rfl rfl) ((hA41 M1 hR1 c1 M20 hR20 c12 M39 hR39 c23 M40 hR40 c25 c26) _ (fun M41 hR41 => ?_))
            refine b_stk [uI (g41 M1 M20 M39 M40 M41)] rfl ?_
            refine b_if_eq (d212 (j := 38) rfl) (fun c27 => ?_) (fun c27 => ?_)
            ·
              refine b_aload_n (d212 (j := 42) rfl) rfl ?_
              refine b_ldcS (d212 (j := 43) rfl) rfl rfl ?_
              refine b_stk [uX 9, uR 11 84] rfl ?_
              refine b_callV (d212 (j := 44) rfl) rfl rfl (Or.inl rfl) rfl (bCk_mk (n := 0) (k := 2) (by decide +kernel) rfl rfl) ((hA42 M1 hR1 c1 M20 hR20 c12 M39 hR39 c23 M40 hR40 c25 c26 M41 hR41 c27) _ (fun M42 hR42 => ?_))
              refine b_stk [uI (g42 M1 M20 M39 M40 M41 M42)] rfl ?_
              refine b_if_eq (d212 (j := 45) rfl) (fun c28 => ?_) (fun c28 => ?_)
              ·
                refine b_aload_n (d212 (j := 49) rfl) rfl ?_
                refine b_ldcS (d212 (j := 50) rfl) rfl rfl ?_
                refine b_stk [uX 13, uR 11 84] rfl ?_
                refine b_callV (d212 (j := 51) rfl) rfl rfl (Or.inl rfl) rfl (bCk_mk (n := 0) (k := 2) (by decide +kernel) rfl rfl) ((hA43 M1 hR1 c1 M20 hR20 c12 M39 hR39 c23 M40 hR40 c25 c26 M41 hR41 c27 M42 hR42 c28) _ (fun M43 hR43 => ?_))
                refine b_stk [uI (g43 M1 M20 M39 M40 M41 M42 M43)] rfl ?_
                refine b_if_eq (d212 (j := 52) rfl) (fun c29 => ?_) (fun c29 => ?_)
                ·
                  refine b_aload_n (d212 (j := 56) rfl) rfl ?_
                  refine b_callV (d212 (j := 57) rfl) rfl rfl (Or.inl rfl) rfl (bCk_mk (n := 0) (k := 1) (by decide +kernel) rfl rfl) ((hA44 M1 hR1 c1 M20 hR20 c12 M39 hR39 c23 M40 hR40 c25 c26 M41 hR41 c27 M42 hR42 c28 M43 hR43 c29) _ (fun M44 hR44 => ?_))
                  refine b_stk [] rfl ?_
                  refine b_aload_n (d212 (j := 58) rfl) rfl ?_
                  refine b_callV (d212 (j := 59) rfl) rfl rfl (Or.inl rfl) rfl (bCk_mk (n := 0) (k := 1) (by decide +kernel) rfl rfl) ((hA45 M1 hR1 c1 M20 hR20 c12 M39 hR39 c23 M40 hR40 c25 c26 M41 hR41 c27 M42 hR42 c28 M43 hR43 c29 M44 hR44) _ (fun M45 hR45 => ?_))
                  refine b_stk [] rfl ?_
                  exact b_vret (d212 (j := 60) rfl) rfl (k21 M1 hR1 c1 M20 hR20 c12 M39 hR39 c23 M40 hR40 c25 c26 M41 hR41 c27 M42 hR42 c28 M43 hR43 c29 M44 hR44 M45 hR45)
                ·
                  refine b_aload_n (d212 (j := 53) rfl) rfl ?_
                  refine b_callV (d212 (j := 54) rfl) rfl rfl (Or.inl rfl) rfl (bCk_mk (n := 0) (k := 1) (by decide +kernel) rfl rfl) ((hA46 M1 hR1 c1 M20 hR20 c12 M39 hR39 c23 M40 hR40 c25 c26 M41 hR41 c27 M42 hR42 c28 M43 hR43 c29) _ (fun M46 hR46 => ?_))
                  refine b_stk [] rfl ?_
                  refine b_goto (d212 (j := 55) rfl) ?_
                  exact b_vret (d212 (j := 60) rfl) rfl (k22 M1 hR1 c1 M20 hR20 c12 M39 hR39 c23 M40 hR40 c25 c26 M41 hR41 c27 M42 hR42 c28 M43 hR43 c29 M46 hR46)
              ·
                refine b_aload_n (d212 (j := 46) rfl) rfl ?_
                refine b_callV (d212 (j := 47) rfl) rfl rfl (Or.inl rfl) rfl (bCk_mk (n := 0) (k := 1) (by decide +kernel) rfl rfl) ((hA47 M1 hR1 c1 M20 hR20 c12 M39 hR39 c23 M40 hR40 c25 c26 M41 hR41 c27 M42 hR42 c28) _ (fun M47 hR47 => ?_))
                refine b_stk [] rfl ?_
                refine b_goto (d212 (j := 48) rfl) ?_
                exact b_vret (d212 (j := 60) rfl) rfl (k23 M1 hR1 c1 M20 hR20 c12 M39 hR39 c23 M40 hR40 c25 c26 M41 hR41 c27 M42 hR42 c28 M47 hR47)
            ·
              refine b_aload_n (d212 (j := 39) rfl) rfl ?_
              refine b_callV (d212 (j := 40) rfl) rfl rfl (Or.inl rfl) rfl (bCk_mk (n := 0) (k := 1) (by decide +kernel) rfl rfl) ((hA48 M1 hR1 c1 M20 hR20 c12 M39 hR39 c23 M40 hR40 c25 c26 M41 hR41 c27) _ (fun M48 hR48 => ?_))
              refine b_stk [] rfl ?_
              refine b_goto (d212 (j := 41) rfl) ?_
              exact b_vret (d212 (j := 60) rfl) rfl (k24 M1 hR1 c1 M20 hR20 c12 M39 hR39 c23 M40 hR40 c25 c26 M41 hR41 c27 M48 hR48)
          ·
            exact b_vret (d212 (j := 34) rfl) rfl (k25 M1 hR1 c1 M20 hR20 c12 M39 hR39 c23 M40 hR40 c25 c26)
        ·
          refine b_aload_n (d212 (j := 28) rfl) rfl ?_
          refine b_iconst (d212 (j := 29) rfl) (by decide) ?_
          refine b_callV (d212 (j := 30) rfl) rfl rfl (Or.inl rfl) rfl (bCk_mk (n := 0) (k := 2) (by decide +kernel) rfl rfl) ((hA49 M1 hR1 c1 M20 hR20 c12 M39 hR39 c23 M40 hR40 c25) _ (fun M49 hR49 => ?_))
          refine b_stk [] rfl ?_
          refine b_aload_n (d212 (j := 31) rfl) rfl ?_
          refine b_callV (d212 (j := 32) rfl) rfl rfl (Or.inl rfl) rfl (bCk_mk (n := 0) (k := 1) (by decide +kernel) rfl rfl) (pu198  ?_)
          refine b_stk [uI (if ((M49 84 12) = 0) then 1 else 0)] rfl ?_
          refine b_ifneP (d212 (j := 33) rfl) (fun c30 => ?_) (fun c30 => ?_)
          ·
            refine b_aload_n (d212 (j := 35) rfl) rfl ?_
            refine b_ldcS (d212 (j := 36) rfl) rfl rfl ?_
            refine b_stk [uX 6, uR 11 84] rfl ?_
            refine b_callV (d212 (j := 37) rfl) rfl rfl (Or.inl rfl) rfl (bCk_mk (n := 0) (k := 2) (by decide +kernel) rfl rfl) ((hA50 M1 hR1 c1 M20 hR20 c12 M39 hR39 c23 M40 hR40 c25 M49 hR49 c30) _ (fun M50 hR50 => ?_))
            refine b_stk [uI (g50 M1 M20 M39 M40 M49 M50)] rfl ?_
            refine b_if_eq (d212 (j := 38) rfl) (fun c31 => ?_) (fun c31 => ?_)
            ·
              refine b_aload_n (d212 (j := 42) rfl) rfl ?_
              refine b_ldcS (d212 (j := 43) rfl) rfl rfl ?_
              refine b_stk [uX 9, uR 11 84] rfl ?_
              refine b_callV (d212 (j := 44) rfl) rfl rfl (Or.inl rfl) rfl (bCk_mk (n := 0) (k := 2) (by decide +kernel) rfl rfl) ((hA51 M1 hR1 c1 M20 hR20 c12 M39 hR39 c23 M40 hR40 c25 M49 hR49 c30 M50 hR50 c31) _ (fun M51 hR51 => ?_))
              refine b_stk [uI (g51 M1 M20 M39 M40 M49 M50 M51)] rfl ?_
              refine b_if_eq (d212 (j := 45) rfl) (fun c32 => ?_) (fun c32 => ?_)
              ·
                refine b_aload_n (d212 (j := 49) rfl) rfl ?_
                refine b_ldcS (d212 (j := 50) rfl) rfl rfl ?_
                refine b_stk [uX 13, uR 11 84] rfl ?_
                refine b_callV (d212 (j := 51) rfl) rfl rfl (Or.inl rfl) rfl (bCk_mk (n := 0) (k := 2) (by decide +kernel) rfl rfl) ((hA52 M1 hR1 c1 M20 hR20 c12 M39 hR39 c23 M40 hR40 c25 M49 hR49 c30 M50 hR50 c31 M51 hR51 c32) _ (fun M52 hR52 => ?_))
                refine b_stk [uI (g52 M1 M20 M39 M40 M49 M50 M51 M52)] rfl ?_
                refine b_if_eq (d212 (j := 52) rfl) (fun c33 => ?_) (fun c33 => ?_)
                ·
                  refine b_aload_n (d212 (j := 56) rfl) rfl ?_
                  refine b_callV (d212 (j := 57) rfl) rfl rfl (Or.inl rfl) rfl (bCk_mk (n := 0) (k := 1) (by decide +kernel) rfl rfl) ((hA53 M1 hR1 c1 M20 hR20 c12 M39 hR39 c23 M40 hR40 c25 M49 hR49 c30 M50 hR50 c31 M51 hR51 c32 M52 hR52 c33) _ (fun M53 hR53 => ?_))
                  refine b_stk [] rfl ?_
                  refine b_aload_n (d212 (j := 58) rfl) rfl ?_
                  refine b_callV (d212 (j := 59) rfl) rfl rfl (Or.inl rfl) rfl (bCk_mk (n := 0) (k := 1) (by decide +kernel) rfl rfl) ((hA54 M1 hR1 c1 M20 hR20 c12 M39 hR39 c23 M40 hR40 c25 M49 hR49 c30 M50 hR50 c31 M51 hR51 c32 M52 hR52 c33 M53 hR53) _ (fun M54 hR54 => ?_))
                  refine b_stk [] rfl ?_
                  exact b_vret (d212 (j := 60) rfl) rfl (k26 M1 hR1 c1 M20 hR20 c12 M39 hR39 c23 M40 hR40 c25 M49 hR49 c30 M50 hR50 c31 M51 hR51 c32 M52 hR52 c33 M53 hR53 M54 hR54)
                ·
                  refine b_aload_n (d212 (j := 53) rfl) rfl ?_
                  refine b_callV (d212 (j := 54) rfl) rfl rfl (Or.inl rfl) rfl (bCk_mk (n := 0) (k := 1) (by decide +kernel) rfl rfl) ((hA55 M1 hR1 c1 M20 hR20 c12 M39 hR39 c23 M40 hR40 c25 M49 hR49 c30 M50 hR50 c31 M51 hR51 c32 M52 hR52 c33) _ (fun M55 hR55 => ?_))
                  refine b_stk [] rfl ?_
                  refine b_goto (d212 (j := 55) rfl) ?_
                  exact b_vret (d212 (j := 60) rfl) rfl (k27 M1 hR1 c1 M20 hR20 c12 M39 hR39 c23 M40 hR40 c25 M49 hR49 c30 M50 hR50 c31 M51 hR51 c32 M52 hR52 c33 M55 hR55)
              ·
                refine b_aload_n (d212 (j := 46) rfl) rfl ?_
                refine b_callV (d212 (j := 47) rfl) rfl rfl (Or.inl rfl) rfl (bCk_mk (n := 0) (k := 1) (by decide +kernel) rfl rfl) ((hA56 M1 hR1 c1 M20 hR20 c12 M39 hR39 c23 M40 hR40 c25 M49 hR49 c30 M50 hR50 c31 M51 hR51 c32) _ (fun M56 hR56 => ?_))
                refine b_stk [] rfl ?_
                refine b_goto (d212 (j := 48) rfl) ?_
                exact b_vret (d212 (j := 60) rfl) rfl (k28 M1 hR1 c1 M20 hR20 c12 M39 hR39 c23 M40 hR40 c25 M49 hR49 c30 M50 hR50 c31 M51 hR51 c32 M56 hR56)
            ·
              refine b_aload_n (d212 (j := 39) rfl) rfl ?_
              refine b_callV (d212 (j := 40) rfl) rfl rfl (Or.inl rfl) rfl (bCk_mk (n := 0) (k := 1) (by decide +kernel) rfl rfl) ((hA57 M1 hR1 c1 M20 hR20 c12 M39 hR39 c23 M40 hR40 c25 M49 hR49 c30 M50 hR50 c31) _ (fun M57 hR57 => ?_))
              refine b_stk [] rfl ?_
              refine b_goto (d212 (j := 41) rfl) ?_
              exact b_vret (d212 (j := 60) rfl) rfl (k29 M1 hR1 c1 M20 hR20 c12 M39 hR39 c23 M40 hR40 c25 M49 hR49 c30 M50 hR50 c31 M57 hR57)
          ·
            exact b_vret (d212 (j := 34) rfl) rfl (k30 M1 hR1 c1 M20 hR20 c12 M39 hR39 c23 M40 hR40 c25 M49 hR49 c30)
      ·
        refine b_aload_n (d212 (j := 12) rfl) rfl ?_
        refine b_ldcS (d212 (j := 13) rfl) rfl rfl ?_
        refine b_stk [uX 16, uR 11 84] rfl ?_
        refine b_callV (d212 (j := 14) rfl) rfl rfl (Or.inl rfl) rfl (bCk_mk (n := 0) (k := 2) (by decide +kernel) rfl rfl) ((hA58 M1 hR1 c1 M20 hR20 c12 M39 hR39 c23) _ (fun M58 hR58 => ?_))
        refine b_stk [uI (g58 M1 M20 M39 M58)] rfl ?_
        refine b_if_eq (d212 (j := 15) rfl) (fun c34 => ?_) (fun c34 => ?_)
        ·
          refine b_iconst (d212 (j := 18) rfl) (by decide) ?_
          refine b_istore_n [uR 11 84, uI 0] (d212 (j := 19) rfl) (by decide) rfl ?_
          refine b_iload_n (d212 (j := 20) rfl) rfl ?_
          refine b_if_ne (d212 (j := 21) rfl) (fun q => absurd q (by decide)) (fun _ => ?_)
          refine b_aload_n (d212 (j := 22) rfl) rfl ?_
          refine b_iconst (d212 (j := 23) rfl) (by decide) ?_
          refine b_callV (d212 (j := 24) rfl) rfl rfl (Or.inl rfl) rfl (bCk_mk (n := 0) (k := 2) (by decide +kernel) rfl rfl) ((hA59 M1 hR1 c1 M20 hR20 c12 M39 hR39 c23 M58 hR58 c34) _ (fun M59 hR59 => ?_))
          refine b_stk [] rfl ?_
          refine b_aload_n (d212 (j := 25) rfl) rfl ?_
          refine b_callV (d212 (j := 26) rfl) rfl rfl (Or.inl rfl) rfl (bCk_mk (n := 0) (k := 1) (by decide +kernel) rfl rfl) ((hA60 M1 hR1 c1 M20 hR20 c12 M39 hR39 c23 M58 hR58 c34 M59 hR59) _ (fun M60 hR60 => ?_))
          refine b_stk [uI (g60 M1 M20 M39 M58 M59 M60)] rfl ?_
          refine b_if_eq (d212 (j := 27) rfl) (fun c36 => ?_) (fun c36 => ?_)
          ·
            refine b_aload_n (d212 (j := 31) rfl) rfl ?_
            refine b_callV (d212 (j := 32) rfl) rfl rfl (Or.inl rfl) rfl (bCk_mk (n := 0) (k := 1) (by decide +kernel) rfl rfl) (pu198  ?_)
            refine b_stk [uI (if ((M60 84 12) = 0) then 1 else 0)] rfl ?_
            refine b_ifneP (d212 (j := 33) rfl) (fun c37 => ?_) (fun c37 => ?_)
            ·
              refine b_aload_n (d212 (j := 35) rfl) rfl ?_
              refine b_ldcS (d212 (j := 36) rfl) rfl rfl ?_
              refine b_stk [uX 6, uR 11 84] rfl ?_
              refine b_callV (d212 (j := 37) rfl) rfl rfl (Or.inl rfl) rfl (bCk_mk (n := 0) (k := 2) (by decide +kernel) rfl rfl) ((hA61 M1 hR1 c1 M20 hR20 c12 M39 hR39 c23 M58 hR58 c34 M59 hR59 M60 hR60 c36 c37) _ (fun M61 hR61 => ?_))
              refine b_stk [uI (g61 M1 M20 M39 M58 M59 M60 M61)] rfl ?_
              refine b_if_eq (d212 (j := 38) rfl) (fun c38 => ?_) (fun c38 => ?_)
              ·
                refine b_aload_n (d212 (j := 42) rfl) rfl ?_
                refine b_ldcS (d212 (j := 43) rfl) rfl rfl ?_
                refine b_stk [uX 9, uR 11 84] rfl ?_
                refine b_callV (d212 (j := 44) rfl) rfl rfl (Or.inl rfl) rfl (bCk_mk (n := 0) (k := 2) (by decide +kernel) rfl rfl) ((hA62 M1 hR1 c1 M20 hR20 c12 M39 hR39 c23 M58 hR58 c34 M59 hR59 M60 hR60 c36 c37 M61 hR61 c38) _ (fun M62 hR62 => ?_))
                refine b_stk [uI (g62 M1 M20 M39 M58 M59 M60 M61 M62)] rfl ?_
                refine b_if_eq (d212 (j := 45) rfl) (fun c39 => ?_) (fun c39 => ?_)
                ·
                  refine b_aload_n (d212 (j := 49) rfl) rfl ?_
                  refine b_ldcS (d212 (j := 50) rfl) rfl rfl ?_
                  refine b_stk [uX 13, uR 11 84] rfl ?_
                  refine b_callV (d212 (j := 51) rfl) rfl rfl (Or.inl rfl) rfl (bCk_mk (n := 0) (k := 2) (by decide +kernel) rfl rfl) ((hA63 M1 hR1 c1 M20 hR20 c12 M39 hR39 c23 M58 hR58 c34 M59 hR59 M60 hR60 c36 c37 M61 hR61 c38 M62 hR62 c39) _ (fun M63 hR63 => ?_))
                  refine b_stk [uI (g63 M1 M20 M39 M58 M59 M60 M61 M62 M63)] rfl ?_
                  refine b_if_eq (d212 (j := 52) rfl) (fun c40 => ?_) (fun c40 => ?_)
                  ·
                    refine b_aload_n (d212 (j := 56) rfl) rfl ?_
                    refine b_callV (d212 (j := 57) rfl) rfl rfl (Or.inl rfl) rfl (bCk_mk (n := 0) (k := 1) (by decide +kernel) rfl rfl) ((hA64 M1 hR1 c1 M20 hR20 c12 M39 hR39 c23 M58 hR58 c34 M59 hR59 M60 hR60 c36 c37 M61 hR61 c38 M62 hR62 c39 M63 hR63 c40) _ (fun M64 hR64 => ?_))
                    refine b_stk [] rfl ?_
                    refine b_aload_n (d212 (j := 58) rfl) rfl ?_
                    refine b_callV (d212 (j := 59) rfl) rfl rfl (Or.inl rfl) rfl (bCk_mk (n := 0) (k := 1) (by decide +kernel) rfl rfl) ((hA65 M1 hR1 c1 M20 hR20 c12 M39 hR39 c23 M58 hR58 c34 M59 hR59 M60 hR60 c36 c37 M61 hR61 c38 M62 hR62 c39 M63 hR63 c40 M64 hR64) _ (fun M65 hR65 => ?_))
                    refine b_stk [] rfl ?_
                    exact b_vret (d212 (j := 60) rfl) rfl (k31 M1 hR1 c1 M20 hR20 c12 M39 hR39 c23 M58 hR58 c34 M59 hR59 M60 hR60 c36 c37 M61 hR61 c38 M62 hR62 c39 M63 hR63 c40 M64 hR64 M65 hR65)
                  ·
                    refine b_aload_n (d212 (j := 53) rfl) rfl ?_
                    refine b_callV (d212 (j := 54) rfl) rfl rfl (Or.inl rfl) rfl (bCk_mk (n := 0) (k := 1) (by decide +kernel) rfl rfl) ((hA66 M1 hR1 c1 M20 hR20 c12 M39 hR39 c23 M58 hR58 c34 M59 hR59 M60 hR60 c36 c37 M61 hR61 c38 M62 hR62 c39 M63 hR63 c40) _ (fun M66 hR66 => ?_))
                    refine b_stk [] rfl ?_
                    refine b_goto (d212 (j := 55) rfl) ?_
                    exact b_vret (d212 (j := 60) rfl) rfl (k32 M1 hR1 c1 M20 hR20 c12 M39 hR39 c23 M58 hR58 c34 M59 hR59 M60 hR60 c36 c37 M61 hR61 c38 M62 hR62 c39 M63 hR63 c40 M66 hR66)
                ·
                  refine b_aload_n (d212 (j := 46) rfl) rfl ?_
                  refine b_callV (d212 (j := 47) rfl) rfl rfl (Or.inl rfl) rfl (bCk_mk (n := 0) (k := 1) (by decide +kernel) rfl rfl) ((hA67 M1 hR1 c1 M20 hR20 c12 M39 hR39 c23 M58 hR58 c34 M59 hR59 M60 hR60 c36 c37 M61 hR61 c38 M62 hR62 c39) _ (fun M67 hR67 => ?_))
                  refine b_stk [] rfl ?_
                  refine b_goto (d212 (j := 48) rfl) ?_
                  exact b_vret (d212 (j := 60) rfl) rfl (k33 M1 hR1 c1 M20 hR20 c12 M39 hR39 c23 M58 hR58 c34 M59 hR59 M60 hR60 c36 c37 M61 hR61 c38 M62 hR62 c39 M67 hR67)
              ·
                refine b_aload_n (d212 (j := 39) rfl) rfl ?_
                refine b_callV (d212 (j := 40) rfl) rfl rfl (Or.inl rfl) rfl (bCk_mk (n := 0) (k := 1) (by decide +kernel) rfl rfl) ((hA68 M1 hR1 c1 M20 hR20 c12 M39 hR39 c23 M58 hR58 c34 M59 hR59 M60 hR60 c36 c37 M61 hR61 c38) _ (fun M68 hR68 => ?_))
                refine b_stk [] rfl ?_
                refine b_goto (d212 (j := 41) rfl) ?_
                exact b_vret (d212 (j := 60) rfl) rfl (k34 M1 hR1 c1 M20 hR20 c12 M39 hR39 c23 M58 hR58 c34 M59 hR59 M60 hR60 c36 c37 M61 hR61 c38 M68 hR68)
            ·
              exact b_vret (d212 (j := 34) rfl) rfl (k35 M1 hR1 c1 M20 hR20 c12 M39 hR39 c23 M58 hR58 c34 M59 hR59 M60 hR60 c36 c37)
          ·
            refine b_aload_n (d212 (j := 28) rfl) rfl ?_
            refine b_iconst (d212 (j := 29) rfl) (by decide) ?_
            refine b_callV (d212 (j := 30) rfl) rfl rfl (Or.inl rfl) rfl (bCk_mk (n := 0) (k := 2) (by decide +kernel) rfl rfl) ((hA69 M1 hR1 c1 M20 hR20 c12 M39 hR39 c23 M58 hR58 c34 M59 hR59 M60 hR60 c36) _ (fun M69 hR69 => ?_))
            refine b_stk [] rfl ?_
            refine b_aload_n (d212 (j := 31) rfl) rfl ?_
            refine b_callV (d212 (j := 32) rfl) rfl rfl (Or.inl rfl) rfl (bCk_mk (n := 0) (k := 1) (by decide +kernel) rfl rfl) (pu198  ?_)
            refine b_stk [uI (if ((M69 84 12) = 0) then 1 else 0)] rfl ?_
            refine b_ifneP (d212 (j := 33) rfl) (fun c41 => ?_) (fun c41 => ?_)
            ·
              refine b_aload_n (d212 (j := 35) rfl) rfl ?_
              refine b_ldcS (d212 (j := 36) rfl) rfl rfl ?_
              refine b_stk [uX 6, uR 11 84] rfl ?_
              refine b_callV (d212 (j := 37) rfl) rfl rfl (Or.inl rfl) rfl (bCk_mk (n := 0) (k := 2) (by decide +kernel) rfl rfl) ((hA70 M1 hR1 c1 M20 hR20 c12 M39 hR39 c23 M58 hR58 c34 M59 hR59 M60 hR60 c36 M69 hR69 c41) _ (fun M70 hR70 => ?_))
              refine b_stk [uI (g70 M1 M20 M39 M58 M59 M60 M69 M70)] rfl ?_
              refine b_if_eq (d212 (j := 38) rfl) (fun c42 => ?_) (fun c42 => ?_)
              ·
                refine b_aload_n (d212 (j := 42) rfl) rfl ?_
                refine b_ldcS (d212 (j := 43) rfl) rfl rfl ?_
                refine b_stk [uX 9, uR 11 84] rfl ?_
                refine b_callV (d212 (j := 44) rfl) rfl rfl (Or.inl rfl) rfl (bCk_mk (n := 0) (k := 2) (by decide +kernel) rfl rfl) ((hA71 M1 hR1 c1 M20 hR20 c12 M39 hR39 c23 M58 hR58 c34 M59 hR59 M60 hR60 c36 M69 hR69 c41 M70 hR70 c42) _ (fun M71 hR71 => ?_))
                refine b_stk [uI (g71 M1 M20 M39 M58 M59 M60 M69 M70 M71)] rfl ?_
                refine b_if_eq (d212 (j := 45) rfl) (fun c43 => ?_) (fun c43 => ?_)
                ·
                  refine b_aload_n (d212 (j := 49) rfl) rfl ?_
                  refine b_ldcS (d212 (j := 50) rfl) rfl rfl ?_
                  refine b_stk [uX 13, uR 11 84] rfl ?_
                  refine b_callV (d212 (j := 51) rfl) rfl rfl (Or.inl rfl) rfl (bCk_mk (n := 0) (k := 2) (by decide +kernel) rfl rfl) ((hA72 M1 hR1 c1 M20 hR20 c12 M39 hR39 c23 M58 hR58 c34 M59 hR59 M60 hR60 c36 M69 hR69 c41 M70 hR70 c42 M71 hR71 c43) _ (fun M72 hR72 => ?_))
                  refine b_stk [uI (g72 M1 M20 M39 M58 M59 M60 M69 M70 M71 M72)] rfl ?_
                  refine b_if_eq (d212 (j := 52) rfl) (fun c44 => ?_) (fun c44 => ?_)
                  ·
                    refine b_aload_n (d212 (j := 56) rfl) rfl ?_
                    refine b_callV (d212 (j := 57) rfl) rfl rfl (Or.inl rfl) rfl (bCk_mk (n := 0) (k := 1) (by decide +kernel) rfl rfl) ((hA73 M1 hR1 c1 M20 hR20 c12 M39 hR39 c23 M58 hR58 c34 M59 hR59 M60 hR60 c36 M69 hR69 c41 M70 hR70 c42 M71 hR71 c43 M72 hR72 c44) _ (fun M73 hR73 => ?_))
                    refine b_stk [] rfl ?_
                    refine b_aload_n (d212 (j := 58) rfl) rfl ?_
                    refine b_callV (d212 (j := 59) rfl) rfl rfl (Or.inl rfl) rfl (bCk_mk (n := 0) (k := 1) (by decide +kernel) rfl rfl) ((hA74 M1 hR1 c1 M20 hR20 c12 M39 hR39 c23 M58 hR58 c34 M59 hR59 M60 hR60 c36 M69 hR69 c41 M70 hR70 c42 M71 hR71 c43 M72 hR72 c44 M73 hR73) _ (fun M74 hR74 => ?_))
                    refine b_stk [] rfl ?_
                    exact b_vret (d212 (j := 60) rfl) rfl (k36 M1 hR1 c1 M20 hR20 c12 M39 hR39 c23 M58 hR58 c34 M59 hR59 M60 hR60 c36 M69 hR69 c41 M70 hR70 c42 M71 hR71 c43 M72 hR72 c44 M73 hR73 M74 hR74)
                  ·
                    refine b_aload_n (d212 (j := 53) rfl) rfl ?_
                    refine b_callV (d212 (j := 54) rfl) rfl rfl (Or.inl rfl) rfl (bCk_mk (n := 0) (k := 1) (by decide +kernel) rfl rfl) ((hA75 M1 hR1 c1 M20 hR20 c12 M39 hR39 c23 M58 hR58 c34 M59 hR59 M60 hR60 c36 M69 hR69 c41 M70 hR70 c42 M71 hR71 c43 M72 hR72 c44) _ (fun M75 hR75 => ?_))
                    refine b_stk [] rfl ?_
                    refine b_goto (d212 (j := 55) rfl) ?_
                    exact b_vret (d212 (j := 60) rfl) rfl (k37 M1 hR1 c1 M20 hR20 c12 M39 hR39 c23 M58 hR58 c34 M59 hR59 M60 hR60 c36 M69 hR69 c41 M70 hR70 c42 M71 hR71 c43 M72 hR72 c44 M75 hR75)
                ·
                  refine b_aload_n (d212 (j := 46) rfl) rfl ?_
                  refine b_callV (d212 (j := 47) rfl) rfl rfl (Or.inl rfl) rfl (bCk_mk (n := 0) (k := 1) (by decide +kernel) rfl rfl) ((hA76 M1 hR1 c1 M20 hR20 c12 M39 hR39 c23 M58 hR58 c34 M59 hR59 M60 hR60 c36 M69 hR69 c41 M70 hR70 c42 M71 hR71 c43) _ (fun M76 hR76 => ?_))
                  refine b_stk [] rfl ?_
                  refine b_goto (d212 (j := 48) rfl) ?_
                  exact b_vret (d212 (j := 60) rfl) rfl (k38 M1 hR1 c1 M20 hR20 c12 M39 hR39 c23 M58 hR58 c34 M59 hR59 M60 hR60 c36 M69 hR69 c41 M70 hR70 c42 M71 hR71 c43 M76 hR76)
              ·
                refine b_aload_n (d212 (j := 39) rfl) rfl ?_
                refine b_callV (d212 (j := 40) rfl) rfl rfl (Or.inl rfl) rfl (bCk_mk (n := 0) (k := 1) (by decide +kernel) rfl rfl) ((hA77 M1 hR1 c1 M20 hR20 c12 M39 hR39 c23 M58 hR58 c34 M59 hR59 M60 hR60 c36 M69 hR69 c41 M70 hR70 c42) _ (fun M77 hR77 => ?_))
                refine b_stk [] rfl ?_
                refine b_goto (d212 (j := 41) rfl) ?_
                exact b_vret (d212 (j := 60) rfl) rfl (k39 M1 hR1 c1 M20 hR20 c12 M39 hR39 c23 M58 hR58 c34 M59 hR59 M60 hR60 c36 M69 hR69 c41 M70 hR70 c42 M77 hR77)
            ·
              exact b_vret (d212 (j := 34) rfl) rfl (k40 M1 hR1 c1 M20 hR20 c12 M39 hR39 c23 M58 hR58 c34 M59 hR59 M60 hR60 c36 M69 hR69 c41)
        ·
          refine b_iconst (d212 (j := 16) rfl) (by decide) ?_
          refine b_goto (d212 (j := 17) rfl) ?_
          refine b_istore_n [uR 11 84, uI 1] (d212 (j := 19) rfl) (by decide) rfl ?_
          refine b_iload_n (d212 (j := 20) rfl) rfl ?_
          refine b_if_ne (d212 (j := 21) rfl) (fun _ => ?_) (fun q => absurd q (by decide))
          refine b_aload_n (d212 (j := 25) rfl) rfl ?_
          refine b_callV (d212 (j := 26) rfl) rfl rfl (Or.inl rfl) rfl (bCk_mk (n := 0) (k := 1) (by decide +kernel) rfl rfl) ((hA78 M1 hR1 c1 M20 hR20 c12 M39 hR39 c23 M58 hR58 c34) _ (fun M78 hR78 => ?_))
          refine b_stk [uI (g78 M1 M20 M39 M58 M78)] rfl ?_
          refine b_if_eq (d212 (j := 27) rfl) (fun c46 => ?_) (fun c46 => ?_)
          ·
            refine b_aload_n (d212 (j := 31) rfl) rfl ?_
            refine b_callV (d212 (j := 32) rfl) rfl rfl (Or.inl rfl) rfl (bCk_mk (n := 0) (k := 1) (by decide +kernel) rfl rfl) (pu198  ?_)
            refine b_stk [uI (if ((M78 84 12) = 0) then 1 else 0)] rfl ?_
            refine b_ifneP (d212 (j := 33) rfl) (fun c47 => ?_) (fun c47 => ?_)
            ·
              refine b_aload_n (d212 (j := 35) rfl) rfl ?_
              refine b_ldcS (d212 (j := 36) rfl) rfl rfl ?_
              refine b_stk [uX 6, uR 11 84] rfl ?_
              refine b_callV (d212 (j := 37) rfl) rfl rfl (Or.inl rfl) rfl (bCk_mk (n := 0) (k := 2) (by decide +kernel) rfl rfl) ((hA79 M1 hR1 c1 M20 hR20 c12 M39 hR39 c23 M58 hR58 c34 M78 hR78 c46 c47) _ (fun M79 hR79 => ?_))
              refine b_stk [uI (g79 M1 M20 M39 M58 M78 M79)] rfl ?_
              refine b_if_eq (d212 (j := 38) rfl) (fun c48 => ?_) (fun c48 => ?_)
              ·
                refine b_aload_n (d212 (j := 42) rfl) rfl ?_
                refine b_ldcS (d212 (j := 43) rfl) rfl rfl ?_
                refine b_stk [uX 9, uR 11 84] rfl ?_
                refine b_callV (d212 (j := 44) rfl) rfl rfl (Or.inl rfl) rfl (bCk_mk (n := 0) (k := 2) (by decide +kernel) rfl rfl) ((hA80 M1 hR1 c1 M20 hR20 c12 M39 hR39 c23 M58 hR58 c34 M78 hR78 c46 c47 M79 hR79 c48) _ (fun M80 hR80 => ?_))
                refine b_stk [uI (g80 M1 M20 M39 M58 M78 M79 M80)] rfl ?_
                refine b_if_eq (d212 (j := 45) rfl) (fun c49 => ?_) (fun c49 => ?_)
                ·
                  refine b_aload_n (d212 (j := 49) rfl) rfl ?_
                  refine b_ldcS (d212 (j := 50) rfl) rfl rfl ?_
                  refine b_stk [uX 13, uR 11 84] rfl ?_
                  refine b_callV (d212 (j := 51) rfl) rfl rfl (Or.inl rfl) rfl (bCk_mk (n := 0) (k := 2) (by decide +kernel) rfl rfl) ((hA81 M1 hR1 c1 M20 hR20 c12 M39 hR39 c23 M58 hR58 c34 M78 hR78 c46 c47 M79 hR79 c48 M80 hR80 c49) _ (fun M81 hR81 => ?_))
                  refine b_stk [uI (g81 M1 M20 M39 M58 M78 M79 M80 M81)] rfl ?_
                  refine b_if_eq (d212 (j := 52) rfl) (fun c50 => ?_) (fun c50 => ?_)
                  ·
                    refine b_aload_n (d212 (j := 56) rfl) rfl ?_
                    refine b_callV (d212 (j := 57) rfl) rfl rfl (Or.inl rfl) rfl (bCk_mk (n := 0) (k := 1) (by decide +kernel) rfl rfl) ((hA82 M1 hR1 c1 M20 hR20 c12 M39 hR39 c23 M58 hR58 c34 M78 hR78 c46 c47 M79 hR79 c48 M80 hR80 c49 M81 hR81 c50) _ (fun M82 hR82 => ?_))
                    refine b_stk [] rfl ?_
                    refine b_aload_n (d212 (j := 58) rfl) rfl ?_
                    refine b_callV (d212 (j := 59) rfl) rfl rfl (Or.inl rfl) rfl (bCk_mk (n := 0) (k := 1) (by decide +kernel) rfl rfl) ((hA83 M1 hR1 c1 M20 hR20 c12 M39 hR39 c23 M58 hR58 c34 M78 hR78 c46 c47 M79 hR79 c48 M80 hR80 c49 M81 hR81 c50 M82 hR82) _ (fun M83 hR83 => ?_))
                    refine b_stk [] rfl ?_
                    exact b_vret (d212 (j := 60) rfl) rfl (k41 M1 hR1 c1 M20 hR20 c12 M39 hR39 c23 M58 hR58 c34 M78 hR78 c46 c47 M79 hR79 c48 M80 hR80 c49 M81 hR81 c50 M82 hR82 M83 hR83)
                  ·
                    refine b_aload_n (d212 (j := 53) rfl) rfl ?_
                    refine b_callV (d212 (j := 54) rfl) rfl rfl (Or.inl rfl) rfl (bCk_mk (n := 0) (k := 1) (by decide +kernel) rfl rfl) ((hA84 M1 hR1 c1 M20 hR20 c12 M39 hR39 c23 M58 hR58 c34 M78 hR78 c46 c47 M79 hR79 c48 M80 hR80 c49 M81 hR81 c50) _ (fun M84 hR84 => ?_))
                    refine b_stk [] rfl ?_
                    refine b_goto (d212 (j := 55) rfl) ?_
                    exact b_vret (d212 (j := 60) rfl) rfl (k42 M1 hR1 c1 M20 hR20 c12 M39 hR39 c23 M58 hR58 c34 M78 hR78 c46 c47 M79 hR79 c48 M80 hR80 c49 M81 hR81 c50 M84 hR84)
                ·
                  refine b_aload_n (d212 (j := 46) rfl) rfl ?_
                  refine b_callV (d212 (j := 47) rfl) rfl rfl (Or.inl rfl) rfl (bCk_mk (n := 0) (k := 1) (by decide +kernel) rfl rfl) ((hA85 M1 hR1 c1 M20 hR20 c12 M39 hR39 c23 M58 hR58 c34 M78 hR78 c46 c47 M79 hR79 c48 M80 hR80 c49) _ (fun M85 hR85 => ?_))
                  refine b_stk [] rfl ?_
                  refine b_goto (d212 (j := 48) rfl) ?_
                  exact b_vret (d212 (j := 60) rfl) rfl (k43 M1 hR1 c1 M20 hR20 c12 M39 hR39 c23 M58 hR58 c34 M78 hR78 c46 c47 M79 hR79 c48 M80 hR80 c49 M85 hR85)
              ·
                refine b_aload_n (d212 (j := 39) rfl) rfl ?_
                refine b_callV (d212 (j := 40) rfl) rfl rfl (Or.inl rfl) rfl (bCk_mk (n := 0) (k := 1) (by decide +kernel) rfl rfl) ((hA86 M1 hR1 c1 M20 hR20 c12 M39 hR39 c23 M58 hR58 c34 M78 hR78 c46 c47 M79 hR79 c48) _ (fun M86 hR86 => ?_))
                refine b_stk [] rfl ?_
                refine b_goto (d212 (j := 41) rfl) ?_
                exact b_vret (d212 (j := 60) rfl) rfl (k44 M1 hR1 c1 M20 hR20 c12 M39 hR39 c23 M58 hR58 c34 M78 hR78 c46 c47 M79 hR79 c48 M86 hR86)
            ·
              exact b_vret (d212 (j := 34) rfl) rfl (k45 M1 hR1 c1 M20 hR20 c12 M39 hR39 c23 M58 hR58 c34 M78 hR78 c46 c47)
          ·
            refine b_aload_n (d212 (j := 28) rfl) rfl ?_
            refine b_iconst (d212 (j := 29) rfl) (by decide) ?_
            refine b_callV (d212 (j := 30) rfl) rfl rfl (Or.inl rfl) rfl (bCk_mk (n := 0) (k := 2) (by decide +kernel) rfl rfl) ((hA87 M1 hR1 c1 M20 hR20 c12 M39 hR39 c23 M58 hR58 c34 M78 hR78 c46) _ (fun M87 hR87 => ?_))
            refine b_stk [] rfl ?_
            refine b_aload_n (d212 (j := 31) rfl) rfl ?_
            refine b_callV (d212 (j := 32) rfl) rfl rfl (Or.inl rfl) rfl (bCk_mk (n := 0) (k := 1) (by decide +kernel) rfl rfl) (pu198  ?_)
            refine b_stk [uI (if ((M87 84 12) = 0) then 1 else 0)] rfl ?_
            refine b_ifneP (d212 (j := 33) rfl) (fun c51 => ?_) (fun c51 => ?_)
            ·
              refine b_aload_n (d212 (j := 35) rfl) rfl ?_
              refine b_ldcS (d212 (j := 36) rfl) rfl rfl ?_
              refine b_stk [uX 6, uR 11 84] rfl ?_
              refine b_callV (d212 (j := 37) rfl) rfl rfl (Or.inl rfl) rfl (bCk_mk (n := 0) (k := 2) (by decide +kernel) rfl rfl) ((hA88 M1 hR1 c1 M20 hR20 c12 M39 hR39 c23 M58 hR58 c34 M78 hR78 c46 M87 hR87 c51) _ (fun M88 hR88 => ?_))
              refine b_stk [uI (g88 M1 M20 M39 M58 M78 M87 M88)] rfl ?_
              refine b_if_eq (d212 (j := 38) rfl) (fun c52 => ?_) (fun c52 => ?_)
              ·
                refine b_aload_n (d212 (j := 42) rfl) rfl ?_
                refine b_ldcS (d212 (j := 43) rfl) rfl rfl ?_
                refine b_stk [uX 9, uR 11 84] rfl ?_
                refine b_callV (d212 (j := 44) rfl) rfl rfl (Or.inl rfl) rfl (bCk_mk (n := 0) (k := 2) (by decide +kernel) rfl rfl) ((hA89 M1 hR1 c1 M20 hR20 c12 M39 hR39 c23 M58 hR58 c34 M78 hR78 c46 M87 hR87 c51 M88 hR88 c52) _ (fun M89 hR89 => ?_))
                refine b_stk [uI (g89 M1 M20 M39 M58 M78 M87 M88 M89)] rfl ?_
                refine b_if_eq (d212 (j := 45) rfl) (fun c53 => ?_) (fun c53 => ?_)
                ·
                  refine b_aload_n (d212 (j := 49) rfl) rfl ?_
                  refine b_ldcS (d212 (j := 50) rfl) rfl rfl ?_
                  refine b_stk [uX 13, uR 11 84] rfl ?_
                  refine b_callV (d212 (j := 51) rfl) rfl rfl (Or.inl rfl) rfl (bCk_mk (n := 0) (k := 2) (by decide +kernel) rfl rfl) ((hA90 M1 hR1 c1 M20 hR20 c12 M39 hR39 c23 M58 hR58 c34 M78 hR78 c46 M87 hR87 c51 M88 hR88 c52 M89 hR89 c53) _ (fun M90 hR90 => ?_))
                  refine b_stk [uI (g90 M1 M20 M39 M58 M78 M87 M88 M89 M90)] rfl ?_
                  refine b_if_eq (d212 (j := 52) rfl) (fun c54 => ?_) (fun c54 => ?_)
                  ·
                    refine b_aload_n (d212 (j := 56) rfl) rfl ?_
                    refine b_callV (d212 (j := 57) rfl) rfl rfl (Or.inl rfl) rfl (bCk_mk (n := 0) (k := 1) (by decide +kernel) rfl rfl) ((hA91 M1 hR1 c1 M20 hR20 c12 M39 hR39 c23 M58 hR58 c34 M78 hR78 c46 M87 hR87 c51 M88 hR88 c52 M89 hR89 c53 M90 hR90 c54) _ (fun M91 hR91 => ?_))
                    refine b_stk [] rfl ?_
                    refine b_aload_n (d212 (j := 58) rfl) rfl ?_
                    refine b_callV (d212 (j := 59) rfl) rfl rfl (Or.inl rfl) rfl (bCk_mk (n := 0) (k := 1) (by decide +kernel) rfl rfl) ((hA92 M1 hR1 c1 M20 hR20 c12 M39 hR39 c23 M58 hR58 c34 M78 hR78 c46 M87 hR87 c51 M88 hR88 c52 M89 hR89 c53 M90 hR90 c54 M91 hR91) _ (fun M92 hR92 => ?_))
                    refine b_stk [] rfl ?_
                    exact b_vret (d212 (j := 60) rfl) rfl (k46 M1 hR1 c1 M20 hR20 c12 M39 hR39 c23 M58 hR58 c34 M78 hR78 c46 M87 hR87 c51 M88 hR88 c52 M89 hR89 c53 M90 hR90 c54 M91 hR91 M92 hR92)
                  ·
                    refine b_aload_n (d212 (j := 53) rfl) rfl ?_
                    refine b_callV (d212 (j := 54) rfl) rfl rfl (Or.inl rfl) rfl (bCk_mk (n := 0) (k := 1) (by decide +kernel) rfl rfl) ((hA93 M1 hR1 c1 M20 hR20 c12 M39 hR39 c23 M58 hR58 c34 M78 hR78 c46 M87 hR87 c51 M88 hR88 c52 M89 hR89 c53 M90 hR90 c54) _ (fun M93 hR93 => ?_))
                    refine b_stk [] rfl ?_
                    refine b_goto (d212 (j := 55) rfl) ?_
                    exact b_vret (d212 (j := 60) rfl) rfl (k47 M1 hR1 c1 M20 hR20 c12 M39 hR39 c23 M58 hR58 c34 M78 hR78 c46 M87 hR87 c51 M88 hR88 c52 M89 hR89 c53 M90 hR90 c54 M93 hR93)
                ·
                  refine b_aload_n (d212 (j := 46) rfl) rfl ?_
                  refine b_callV (d212 (j := 47) rfl) rfl rfl (Or.inl rfl) rfl (bCk_mk (n := 0) (k := 1) (by decide +kernel) rfl rfl) ((hA94 M1 hR1 c1 M20 hR20 c12 M39 hR39 c23 M58 hR58 c34 M78 hR78 c46 M87 hR87 c51 M88 hR88 c52 M89 hR89 c53) _ (fun M94 hR94 => ?_))
                  refine b_stk [] rfl ?_
                  refine b_goto (d212 (j := 48) rfl) ?_
                  exact b_vret (d212 (j := 60) rfl) rfl (k48 M1 hR1 c1 M20 hR20 c12 M39 hR39 c23 M58 hR58 c34 M78 hR78 c46 M87 hR87 c51 M88 hR88 c52 M89 hR89 c53 M94 hR94)
              ·
                refine b_aload_n (d212 (j := 39) rfl) rfl ?_
                refine b_callV (d212 (j := 40) rfl) rfl rfl (Or.inl rfl) rfl (bCk_mk (n := 0) (k := 1) (by decide +kernel) rfl rfl) ((hA95 M1 hR1 c1 M20 hR20 c12 M39 hR39 c23 M58 hR58 c34 M78 hR78 c46 M87 hR87 c51 M88 hR88 c52) _ (fun M95 hR95 => ?_))
                refine b_stk [] rfl ?_
                refine b_goto (d212 (j := 41) rfl) ?_
                exact b_vret (d212 (j := 60) rfl) rfl (k49 M1 hR1 c1 M20 hR20 c12 M39 hR39 c23 M58 hR58 c34 M78 hR78 c46 M87 hR87 c51 M88 hR88 c52 M95 hR95)
            ·
              exact b_vret (d212 (j := 34) rfl) rfl (k50 M1 hR1 c1 M20 hR20 c12 M39 hR39 c23 M58 hR58 c34 M78 hR78 c46 M87 hR87 c51)
def L213 : List (Nat × Instr × Nat × Nat) := [(0, .aload_n 0, 1, 0), (1, .getfield 31, 4, 0), (4, .bipush 8, 6, 0), (6, .iaload, 7, 0), (7, .ifCond .ne 10, 10, 17), (10, .aload_n 0, 11, 0), (11, .invokevirtual 255, 14, 0), (14, .goto 7, 17, 21), (17, .aload_n 0, 18, 0), (18, .invokevirtual 258, 21, 0), (21, .aload_n 0, 22, 0), (22, .invokevirtual 175, 25, 0), (25, .ifCond .eq 16, 28, 41), (28, .aload_n 0, 29, 0), (29, .getfield 152, 32, 0), (32, .iconst 3, 33, 0), (33, .if_icmp .eq 8, 36, 41), (36, .aload_n 0, 37, 0), (37, .iconst 1, 38, 0), (38, .invokevirtual 197, 41, 0), (41, .aload_n 0, 42, 0), (42, .invokevirtual 175, 45, 0), (45, .ifCond .eq 7, 48, 52), (48, .aload_n 0, 49, 0), (49, .invokevirtual 191, 52, 0), (52, .aload_n 0, 53, 0), (53, .getfield 31, 56, 0), (56, .bipush 8, 58, 0), (58, .dup2, 59, 0), (59, .iaload, 60, 0), (60, .iconst 1, 61, 0), (61, .iadd, 62, 0), (62, .iastore, 63, 0), (63, .return_, 64, 0)]
set_option maxRecDepth 100000 in
theorem L213_ok : L213.all (dck 213) = true := by decide +kernel
theorem d213 {j pc nx tg : Nat} {ins : Instr} (hj : L213[j]? = some (pc, ins, nx, tg)) : dcd 213 pc ins nx tg := dcl_ok L213_ok hj
set_option maxRecDepth 100000 in
set_option maxHeartbeats 4000000 in
theorem r213_0  {R1 : dsMem → Prop} {R2 : dsMem → dsMem → Prop} {R3 : dsMem → dsMem → Prop} {R4 : dsMem → dsMem → Prop} {R5 : dsMem → dsMem → dsMem → Prop} {R6 : dsMem → Prop} {R7 : dsMem → dsMem → Prop} {R8 : dsMem → dsMem → Prop} {R9 : dsMem → dsMem → Prop} {R10 : dsMem → dsMem → dsMem → Prop} {M : dsMem} {Q : bQT} (hA1 : (¬ (M 90 8) = 0) → bCt 212 [uR 11 84, uX 0] M (fun _ => []) R1) (s1 : (¬ (M 90 8) = 0) → ∀ M1 : dsMem, R1 M1 → (¬ ((M1 84 12) = 0)) → (¬ ((M1 84 12) = 0)) → -2147483648 ≤ ((M1 90 8) + 1) ∧ ((M1 90 8) + 1) < 2147483648 := by intros; omega) (k1 : (¬ (M 90 8) = 0) → ∀ M1 : dsMem, R1 M1 → (¬ ((M1 84 12) = 0)) → (¬ ((M1 84 12) = 0)) → Q [] (dsSet M1 90 8 ((M1 90 8) + 1))) (hA2 : (¬ (M 90 8) = 0) → ∀ M1 : dsMem, R1 M1 → (¬ ((M1 84 12) = 0)) → (((M1 84 12) = 0)) → bCt 197 [uR 11 84, uX 0] M1 (fun _ => []) (R2 M1)) (s2 : (¬ (M 90 8) = 0) → ∀ M1 : dsMem, R1 M1 → (¬ ((M1 84 12) = 0)) → (((M1 84 12) = 0)) → ∀ M2 : dsMem, R2 M1 M2 → -2147483648 ≤ ((M2 90 8) + 1) ∧ ((M2 90 8) + 1) < 2147483648 := by intros; omega) (k2 : (¬ (M 90 8) = 0) → ∀ M1 : dsMem, R1 M1 → (¬ ((M1 84 12) = 0)) → (((M1 84 12) = 0)) → ∀ M2 : dsMem, R2 M1 M2 → Q [] (dsSet M2 90 8 ((M2 90 8) + 1))) (s3 : (¬ (M 90 8) = 0) → ∀ M1 : dsMem, R1 M1 → (((M1 84 12) = 0)) → ((M1 84 10) = 3) → (¬ ((M1 84 12) = 0)) → -2147483648 ≤ ((M1 90 8) + 1) ∧ ((M1 90 8) + 1) < 2147483648 := by intros; omega) (k3 : (¬ (M 90 8) = 0) → ∀ M1 : dsMem, R1 M1 → (((M1 84 12) = 0)) → ((M1 84 10) = 3) → (¬ ((M1 84 12) = 0)) → Q [] (dsSet M1 90 8 ((M1 90 8) + 1))) (hA3 : (¬ (M 90 8) = 0) → ∀ M1 : dsMem, R1 M1 → (((M1 84 12) = 0)) → ((M1 84 10) = 3) → (((M1 84 12) = 0)) → bCt 197 [uR 11 84, uX 0] M1 (fun _ => []) (R3 M1)) (s4 : (¬ (M 90 8) = 0) → ∀ M1 : dsMem, R1 M1 → (((M1 84 12) = 0)) → ((M1 84 10) = 3) → (((M1 84 12) = 0)) → ∀ M3 : dsMem, R3 M1 M3 → -2147483648 ≤ ((M3 90 8) + 1) ∧ ((M3 90 8) + 1) < 2147483648 := by intros; omega) (k4 : (¬ (M 90 8) = 0) → ∀ M1 : dsMem, R1 M1 → (((M1 84 12) = 0)) → ((M1 84 10) = 3) → (((M1 84 12) = 0)) → ∀ M3 : dsMem, R3 M1 M3 → Q [] (dsSet M3 90 8 ((M3 90 8) + 1))) (hA4 : (¬ (M 90 8) = 0) → ∀ M1 : dsMem, R1 M1 → (((M1 84 12) = 0)) → (¬ (M1 84 10) = 3) → bCt 199 [uR 11 84, uI 1] M1 (fun _ => []) (R4 M1)) (s5 : (¬ (M 90 8) = 0) → ∀ M1 : dsMem, R1 M1 → (((M1 84 12) = 0)) → (¬ (M1 84 10) = 3) → ∀ M4 : dsMem, R4 M1 M4 → (¬ ((M4 84 12) = 0)) → -2147483648 ≤ ((M4 90 8) + 1) ∧ ((M4 90 8) + 1) < 2147483648 := by intros; omega) (k5 : (¬ (M 90 8) = 0) → ∀ M1 : dsMem, R1 M1 → (((M1 84 12) = 0)) → (¬ (M1 84 10) = 3) → ∀ M4 : dsMem, R4 M1 M4 → (¬ ((M4 84 12) = 0)) → Q [] (dsSet M4 90 8 ((M4 90 8) + 1))) (hA5 : (¬ (M 90 8) = 0) → ∀ M1 : dsMem, R1 M1 → (((M1 84 12) = 0)) → (¬ (M1 84 10) = 3) → ∀ M4 : dsMem, R4 M1 M4 → (((M4 84 12) = 0)) → bCt 197 [uR 11 84, uX 0] M4 (fun _ => []) (R5 M1 M4)) (s6 : (¬ (M 90 8) = 0) → ∀ M1 : dsMem, R1 M1 → (((M1 84 12) = 0)) → (¬ (M1 84 10) = 3) → ∀ M4 : dsMem, R4 M1 M4 → (((M4 84 12) = 0)) → ∀ M5 : dsMem, R5 M1 M4 M5 → -2147483648 ≤ ((M5 90 8) + 1) ∧ ((M5 90 8) + 1) < 2147483648 := by intros; omega) (k6 : (¬ (M 90 8) = 0) → ∀ M1 : dsMem, R1 M1 → (((M1 84 12) = 0)) → (¬ (M1 84 10) = 3) → ∀ M4 : dsMem, R4 M1 M4 → (((M4 84 12) = 0)) → ∀ M5 : dsMem, R5 M1 M4 M5 → Q [] (dsSet M5 90 8 ((M5 90 8) + 1))) (hA6 : ((M 90 8) = 0) → bCt 206 [uR 11 84] M (fun _ => []) R6) (s7 : ((M 90 8) = 0) → ∀ M6 : dsMem, R6 M6 → (¬ ((M6 84 12) = 0)) → (¬ ((M6 84 12) = 0)) → -2147483648 ≤ ((M6 90 8) + 1) ∧ ((M6 90 8) + 1) < 2147483648 := by intros; omega) (k7 : ((M 90 8) = 0) → ∀ M6 : dsMem, R6 M6 → (¬ ((M6 84 12) = 0)) → (¬ ((M6 84 12) = 0)) → Q [] (dsSet M6 90 8 ((M6 90 8) + 1))) (hA7 : ((M 90 8) = 0) → ∀ M6 : dsMem, R6 M6 → (¬ ((M6 84 12) = 0)) → (((M6 84 12) = 0)) → bCt 197 [uR 11 84, uX 0] M6 (fun _ => []) (R7 M6)) (s8 : ((M 90 8) = 0) → ∀ M6 : dsMem, R6 M6 → (¬ ((M6 84 12) = 0)) → (((M6 84 12) = 0)) → ∀ M7 : dsMem, R7 M6 M7 → -2147483648 ≤ ((M7 90 8) + 1) ∧ ((M7 90 8) + 1) < 2147483648 := by intros; omega) (k8 : ((M 90 8) = 0) → ∀ M6 : dsMem, R6 M6 → (¬ ((M6 84 12) = 0)) → (((M6 84 12) = 0)) → ∀ M7 : dsMem, R7 M6 M7 → Q [] (dsSet M7 90 8 ((M7 90 8) + 1))) (s9 : ((M 90 8) = 0) → ∀ M6 : dsMem, R6 M6 → (((M6 84 12) = 0)) → ((M6 84 10) = 3) → (¬ ((M6 84 12) = 0)) → -2147483648 ≤ ((M6 90 8) + 1) ∧ ((M6 90 8) + 1) < 2147483648 := by intros; omega) (k9 : ((M 90 8) = 0) → ∀ M6 : dsMem, R6 M6 → (((M6 84 12) = 0)) → ((M6 84 10) = 3) → (¬ ((M6 84 12) = 0)) → Q [] (dsSet M6 90 8 ((M6 90 8) + 1))) (hA8 : ((M 90 8) = 0) → ∀ M6 : dsMem, R6 M6 → (((M6 84 12) = 0)) → ((M6 84 10) = 3) → (((M6 84 12) = 0)) → bCt 197 [uR 11 84, uX 0] M6 (fun _ => []) (R8 M6)) (s10 : ((M 90 8) = 0) → ∀ M6 : dsMem, R6 M6 → (((M6 84 12) = 0)) → ((M6 84 10) = 3) → (((M6 84 12) = 0)) → ∀ M8 : dsMem, R8 M6 M8 → -2147483648 ≤ ((M8 90 8) + 1) ∧ ((M8 90 8) + 1) < 2147483648 := by intros; omega) (k10 : ((M 90 8) = 0) → ∀ M6 : dsMem, R6 M6 → (((M6 84 12) = 0)) → ((M6 84 10) = 3) → (((M6 84 12) = 0)) → ∀ M8 : dsMem, R8 M6 M8 → Q [] (dsSet M8 90 8 ((M8 90 8) + 1))) (hA9 : ((M 90 8) = 0) → ∀ M6 : dsMem, R6 M6 → (((M6 84 12) = 0)) → (¬ (M6 84 10) = 3) → bCt 199 [uR 11 84, uI 1] M6 (fun _ => []) (R9 M6)) (s11 : ((M 90 8) = 0) → ∀ M6 : dsMem, R6 M6 → (((M6 84 12) = 0)) → (¬ (M6 84 10) = 3) → ∀ M9 : dsMem, R9 M6 M9 → (¬ ((M9 84 12) = 0)) → -2147483648 ≤ ((M9 90 8) + 1) ∧ ((M9 90 8) + 1) < 2147483648 := by intros; omega) (k11 : ((M 90 8) = 0) → ∀ M6 : dsMem, R6 M6 → (((M6 84 12) = 0)) → (¬ (M6 84 10) = 3) → ∀ M9 : dsMem, R9 M6 M9 → (¬ ((M9 84 12) = 0)) → Q [] (dsSet M9 90 8 ((M9 90 8) + 1))) (hA10 : ((M 90 8) = 0) → ∀ M6 : dsMem, R6 M6 → (((M6 84 12) = 0)) → (¬ (M6 84 10) = 3) → ∀ M9 : dsMem, R9 M6 M9 → (((M9 84 12) = 0)) → bCt 197 [uR 11 84, uX 0] M9 (fun _ => []) (R10 M6 M9)) (s12 : ((M 90 8) = 0) → ∀ M6 : dsMem, R6 M6 → (((M6 84 12) = 0)) → (¬ (M6 84 10) = 3) → ∀ M9 : dsMem, R9 M6 M9 → (((M9 84 12) = 0)) → ∀ M10 : dsMem, R10 M6 M9 M10 → -2147483648 ≤ ((M10 90 8) + 1) ∧ ((M10 90 8) + 1) < 2147483648 := by intros; omega) (k12 : ((M 90 8) = 0) → ∀ M6 : dsMem, R6 M6 → (((M6 84 12) = 0)) → (¬ (M6 84 10) = 3) → ∀ M9 : dsMem, R9 M6 M9 → (((M9 84 12) = 0)) → ∀ M10 : dsMem, R10 M6 M9 M10 → Q [] (dsSet M10 90 8 ((M10 90 8) + 1))) :
    bB 213 0 [uR 11 84] [] M Q := by
  refine b_aload_n (d213 (j := 0) rfl) rfl ?_
  refine b_getR (d213 (j := 1) rfl) rfl rfl rfl rfl ?_
  refine b_stk [uR 38 90] rfl ?_
  refine b_bipush (d213 (j := 2) rfl) (by decide) ?_
  refine b_iaload (d213 (j := 3) rfl) rfl (by decide) ?_
  refine b_if_ne (d213 (j := 4) rfl) (fun c1 => ?_) (fun c1 => ?_)
  ·
    refine b_aload_n (d213 (j := 8) rfl) rfl ?_
    refine b_callV (d213 (j := 9) rfl) rfl rfl (Or.inl rfl) rfl (bCk_mk (n := 0) (k := 1) (by decide +kernel) rfl rfl) ((hA1 c1) _ (fun M1 hR1 => ?_))
    refine b_stk [] rfl ?_
    refine b_aload_n (d213 (j := 10) rfl) rfl ?_
    refine b_callV (d213 (j := 11) rfl) rfl rfl (Or.inl rfl) rfl (bCk_mk (n := 0) (k := 1) (by decide +kernel) rfl rfl) (pu198  ?_)
    refine b_stk [uI (if ((M1 84 12) = 0) then 1 else 0)] rfl ?_
    refine b_ifeqP (d213 (j := 12) rfl) (fun c2 => ?_) (fun c2 => ?_)
    ·
      refine b_aload_n (d213 (j := 20) rfl) rfl ?_
      refine b_callV (d213 (j := 21) rfl) rfl rfl (Or.inl rfl) rfl (bCk_mk (n := 0) (k := 1) (by decide +kernel) rfl rfl) (pu198  ?_)
      refine b_stk [uI (if ((M1 84 12) = 0) then 1 else 0)] rfl ?_
      refine b_ifeqP (d213 (j := 22) rfl) (fun c3 => ?_) (fun c3 => ?_)
      ·
        refine b_aload_n (d213 (j := 25) rfl) rfl ?_
        refine b_getR (d213 (j := 26) rfl) rfl rfl rfl rfl ?_
        refine b_stk [uR 38 90] rfl ?_
        refine b_bipush (d213 (j := 27) rfl) (by decide) ?_
        refine b_dup2 (d213 (j := 28) rfl) ?_
        refine b_iaload (d213 (j := 29) rfl) rfl (by decide) ?_
        refine b_iconst (d213 (j := 30) rfl) (by decide) ?_
        refine b_iadd (d213 (j := 31) rfl) rfl rfl ?_
        refine b_stk [uI ((M1 90 8) + 1), uI 8, uR 38 90] (by rw [dsw_r (s1 c1 M1 hR1 c2 c3)]) ?_
        refine b_iastore (d213 (j := 32) rfl) rfl (by decide) ?_
        exact b_vret (d213 (j := 33) rfl) rfl (k1 c1 M1 hR1 c2 c3)
      ·
        refine b_aload_n (d213 (j := 23) rfl) rfl ?_
        refine b_callV (d213 (j := 24) rfl) rfl rfl (Or.inl rfl) rfl (bCk_mk (n := 0) (k := 1) (by decide +kernel) rfl rfl) ((hA2 c1 M1 hR1 c2 c3) _ (fun M2 hR2 => ?_))
        refine b_stk [] rfl ?_
        refine b_aload_n (d213 (j := 25) rfl) rfl ?_
        refine b_getR (d213 (j := 26) rfl) rfl rfl rfl rfl ?_
        refine b_stk [uR 38 90] rfl ?_
        refine b_bipush (d213 (j := 27) rfl) (by decide) ?_
        refine b_dup2 (d213 (j := 28) rfl) ?_
        refine b_iaload (d213 (j := 29) rfl) rfl (by decide) ?_
        refine b_iconst (d213 (j := 30) rfl) (by decide) ?_
        refine b_iadd (d213 (j := 31) rfl) rfl rfl ?_
        refine b_stk [uI ((M2 90 8) + 1), uI 8, uR 38 90] (by rw [dsw_r (s2 c1 M1 hR1 c2 c3 M2 hR2)]) ?_
        refine b_iastore (d213 (j := 32) rfl) rfl (by decide) ?_
        exact b_vret (d213 (j := 33) rfl) rfl (k2 c1 M1 hR1 c2 c3 M2 hR2)
    ·
      refine b_aload_n (d213 (j := 13) rfl) rfl ?_
      refine b_getI (d213 (j := 14) rfl) rfl rfl rfl rfl (Or.inl rfl) ?_
      refine b_stk [uI (M1 84 10)] rfl ?_
      refine b_iconst (d213 (j := 15) rfl) (by decide) ?_
      refine b_icmp_eq (d213 (j := 16) rfl) (fun c4 => ?_) (fun c4 => ?_)
      ·
        refine b_aload_n (d213 (j := 20) rfl) rfl ?_
        refine b_callV (d213 (j := 21) rfl) rfl rfl (Or.inl rfl) rfl (bCk_mk (n := 0) (k := 1) (by decide +kernel) rfl rfl) (pu198  ?_)
        refine b_stk [uI (if ((M1 84 12) = 0) then 1 else 0)] rfl ?_
        refine b_ifeqP (d213 (j := 22) rfl) (fun c5 => ?_) (fun c5 => ?_)
        ·
          refine b_aload_n (d213 (j := 25) rfl) rfl ?_
          refine b_getR (d213 (j := 26) rfl) rfl rfl rfl rfl ?_
          refine b_stk [uR 38 90] rfl ?_
          refine b_bipush (d213 (j := 27) rfl) (by decide) ?_
          refine b_dup2 (d213 (j := 28) rfl) ?_
          refine b_iaload (d213 (j := 29) rfl) rfl (by decide) ?_
          refine b_iconst (d213 (j := 30) rfl) (by decide) ?_
          refine b_iadd (d213 (j := 31) rfl) rfl rfl ?_
          refine b_stk [uI ((M1 90 8) + 1), uI 8, uR 38 90] (by rw [dsw_r (s3 c1 M1 hR1 c2 c4 c5)]) ?_
          refine b_iastore (d213 (j := 32) rfl) rfl (by decide) ?_
          exact b_vret (d213 (j := 33) rfl) rfl (k3 c1 M1 hR1 c2 c4 c5)
        ·
          refine b_aload_n (d213 (j := 23) rfl) rfl ?_
          refine b_callV (d213 (j := 24) rfl) rfl rfl (Or.inl rfl) rfl (bCk_mk (n := 0) (k := 1) (by decide +kernel) rfl rfl) ((hA3 c1 M1 hR1 c2 c4 c5) _ (fun M3 hR3 => ?_))
          refine b_stk [] rfl ?_
          refine b_aload_n (d213 (j := 25) rfl) rfl ?_
          refine b_getR (d213 (j := 26) rfl) rfl rfl rfl rfl ?_
          refine b_stk [uR 38 90] rfl ?_
          refine b_bipush (d213 (j := 27) rfl) (by decide) ?_
          refine b_dup2 (d213 (j := 28) rfl) ?_
          refine b_iaload (d213 (j := 29) rfl) rfl (by decide) ?_
          refine b_iconst (d213 (j := 30) rfl) (by decide) ?_
          refine b_iadd (d213 (j := 31) rfl) rfl rfl ?_
          refine b_stk [uI ((M3 90 8) + 1), uI 8, uR 38 90] (by rw [dsw_r (s4 c1 M1 hR1 c2 c4 c5 M3 hR3)]) ?_
          refine b_iastore (d213 (j := 32) rfl) rfl (by decide) ?_
          exact b_vret (d213 (j := 33) rfl) rfl (k4 c1 M1 hR1 c2 c4 c5 M3 hR3)
      ·
        refine b_aload_n (d213 (j := 17) rfl) rfl ?_
        refine b_iconst (d213 (j := 18) rfl) (by decide) ?_
        refine b_callV (d213 (j := 19) rfl) rfl rfl (Or.inl rfl) rfl (bCk_mk (n := 0) (k := 2) (by decide +kernel) rfl rfl) ((hA4 c1 M1 hR1 c2 c4) _ (fun M4 hR4 => ?_))
        refine b_stk [] rfl ?_
        refine b_aload_n (d213 (j := 20) rfl) rfl ?_
        refine b_callV (d213 (j := 21) rfl) rfl rfl (Or.inl rfl) rfl (bCk_mk (n := 0) (k := 1) (by decide +kernel) rfl rfl) (pu198  ?_)
        refine b_stk [uI (if ((M4 84 12) = 0) then 1 else 0)] rfl ?_
        refine b_ifeqP (d213 (j := 22) rfl) (fun c6 => ?_) (fun c6 => ?_)
        ·
          refine b_aload_n (d213 (j := 25) rfl) rfl ?_
          refine b_getR (d213 (j := 26) rfl) rfl rfl rfl rfl ?_
          refine b_stk [uR 38 90] rfl ?_
          refine b_bipush (d213 (j := 27) rfl) (by decide) ?_
          refine b_dup2 (d213 (j := 28) rfl) ?_
          refine b_iaload (d213 (j := 29) rfl) rfl (by decide) ?_
          refine b_iconst (d213 (j := 30) rfl) (by decide) ?_
          refine b_iadd (d213 (j := 31) rfl) rfl rfl ?_
          refine b_stk [uI ((M4 90 8) + 1), uI 8, uR 38 90] (by rw [dsw_r (s5 c1 M1 hR1 c2 c4 M4 hR4 c6)]) ?_
          refine b_iastore (d213 (j := 32) rfl) rfl (by decide) ?_
          exact b_vret (d213 (j := 33) rfl) rfl (k5 c1 M1 hR1 c2 c4 M4 hR4 c6)
        ·
          refine b_aload_n (d213 (j := 23) rfl) rfl ?_
          refine b_callV (d213 (j := 24) rfl) rfl rfl (Or.inl rfl) rfl (bCk_mk (n := 0) (k := 1) (by decide +kernel) rfl rfl) ((hA5 c1 M1 hR1 c2 c4 M4 hR4 c6) _ (fun M5 hR5 => ?_))
          refine b_stk [] rfl ?_
          refine b_aload_n (d213 (j := 25) rfl) rfl ?_
          refine b_getR (d213 (j := 26) rfl) rfl rfl rfl rfl ?_
          refine b_stk [uR 38 90] rfl ?_
          refine b_bipush (d213 (j := 27) rfl) (by decide) ?_
          refine b_dup2 (d213 (j := 28) rfl) ?_
          refine b_iaload (d213 (j := 29) rfl) rfl (by decide) ?_
          refine b_iconst (d213 (j := 30) rfl) (by decide) ?_
          refine b_iadd (d213 (j := 31) rfl) rfl rfl ?_
          refine b_stk [uI ((M5 90 8) + 1), uI 8, uR 38 90] (by rw [dsw_r (s6 c1 M1 hR1 c2 c4 M4 hR4 c6 M5 hR5)]) ?_
          refine b_iastore (d213 (j := 32) rfl) rfl (by decide) ?_
          exact b_vret (d213 (j := 33) rfl) rfl (k6 c1 M1 hR1 c2 c4 M4 hR4 c6 M5 hR5)
  ·
    refine b_aload_n (d213 (j := 5) rfl) rfl ?_
    refine b_callV (d213 (j := 6) rfl) rfl rfl (Or.inl rfl) rfl (bCk_mk (n := 0) (k := 1) (by decide +kernel) rfl rfl) ((hA6 c1) _ (fun M6 hR6 => ?_))
    refine b_stk [] rfl ?_
    refine b_goto (d213 (j := 7) rfl) ?_
    refine b_aload_n (d213 (j := 10) rfl) rfl ?_
    refine b_callV (d213 (j := 11) rfl) rfl rfl (Or.inl rfl) rfl (bCk_mk (n := 0) (k := 1) (by decide +kernel) rfl rfl) (pu198  ?_)
    refine b_stk [uI (if ((M6 84 12) = 0) then 1 else 0)] rfl ?_
    refine b_ifeqP (d213 (j := 12) rfl) (fun c7 => ?_) (fun c7 => ?_)
    ·
      refine b_aload_n (d213 (j := 20) rfl) rfl ?_
      refine b_callV (d213 (j := 21) rfl) rfl rfl (Or.inl rfl) rfl (bCk_mk (n := 0) (k := 1) (by decide +kernel) rfl rfl) (pu198  ?_)
      refine b_stk [uI (if ((M6 84 12) = 0) then 1 else 0)] rfl ?_
      refine b_ifeqP (d213 (j := 22) rfl) (fun c8 => ?_) (fun c8 => ?_)
      ·
        refine b_aload_n (d213 (j := 25) rfl) rfl ?_
        refine b_getR (d213 (j := 26) rfl) rfl rfl rfl rfl ?_
        refine b_stk [uR 38 90] rfl ?_
        refine b_bipush (d213 (j := 27) rfl) (by decide) ?_
        refine b_dup2 (d213 (j := 28) rfl) ?_
        refine b_iaload (d213 (j := 29) rfl) rfl (by decide) ?_
        refine b_iconst (d213 (j := 30) rfl) (by decide) ?_
        refine b_iadd (d213 (j := 31) rfl) rfl rfl ?_
        refine b_stk [uI ((M6 90 8) + 1), uI 8, uR 38 90] (by rw [dsw_r (s7 c1 M6 hR6 c7 c8)]) ?_
        refine b_iastore (d213 (j := 32) rfl) rfl (by decide) ?_
        exact b_vret (d213 (j := 33) rfl) rfl (k7 c1 M6 hR6 c7 c8)
      ·
        refine b_aload_n (d213 (j := 23) rfl) rfl ?_
        refine b_callV (d213 (j := 24) rfl) rfl rfl (Or.inl rfl) rfl (bCk_mk (n := 0) (k := 1) (by decide +kernel) rfl rfl) ((hA7 c1 M6 hR6 c7 c8) _ (fun M7 hR7 => ?_))
        refine b_stk [] rfl ?_
        refine b_aload_n (d213 (j := 25) rfl) rfl ?_
        refine b_getR (d213 (j := 26) rfl) rfl rfl rfl rfl ?_
        refine b_stk [uR 38 90] rfl ?_
        refine b_bipush (d213 (j := 27) rfl) (by decide) ?_
        refine b_dup2 (d213 (j := 28) rfl) ?_
        refine b_iaload (d213 (j := 29) rfl) rfl (by decide) ?_
        refine b_iconst (d213 (j := 30) rfl) (by decide) ?_
        refine b_iadd (d213 (j := 31) rfl) rfl rfl ?_
        refine b_stk [uI ((M7 90 8) + 1), uI 8, uR 38 90] (by rw [dsw_r (s8 c1 M6 hR6 c7 c8 M7 hR7)]) ?_
        refine b_iastore (d213 (j := 32) rfl) rfl (by decide) ?_
        exact b_vret (d213 (j := 33) rfl) rfl (k8 c1 M6 hR6 c7 c8 M7 hR7)
    ·
      refine b_aload_n (d213 (j := 13) rfl) rfl ?_
      refine b_getI (d213 (j := 14) rfl) rfl rfl rfl rfl (Or.inl rfl) ?_
      refine b_stk [uI (M6 84 10)] rfl ?_
      refine b_iconst (d213 (j := 15) rfl) (by decide) ?_
      refine b_icmp_eq (d213 (j := 16) rfl) (fun c9 => ?_) (fun c9 => ?_)
      ·
        refine b_aload_n (d213 (j := 20) rfl) rfl ?_
        refine b_callV (d213 (j := 21) rfl) rfl rfl (Or.inl rfl) rfl (bCk_mk (n := 0) (k := 1) (by decide +kernel) rfl rfl) (pu198  ?_)
        refine b_stk [uI (if ((M6 84 12) = 0) then 1 else 0)] rfl ?_
        refine b_ifeqP (d213 (j := 22) rfl) (fun c10 => ?_) (fun c10 => ?_)
        ·
          refine b_aload_n (d213 (j := 25) rfl) rfl ?_
          refine b_getR (d213 (j := 26) rfl) rfl rfl rfl rfl ?_
          refine b_stk [uR 38 90] rfl ?_
          refine b_bipush (d213 (j := 27) rfl) (by decide) ?_
          refine b_dup2 (d213 (j := 28) rfl) ?_
          refine b_iaload (d213 (j := 29) rfl) rfl (by decide) ?_
          refine b_iconst (d213 (j := 30) rfl) (by decide) ?_
          refine b_iadd (d213 (j := 31) rfl) rfl rfl ?_
          refine b_stk [uI ((M6 90 8) + 1), uI 8, uR 38 90] (by rw [dsw_r (s9 c1 M6 hR6 c7 c9 c10)]) ?_
          refine b_iastore (d213 (j := 32) rfl) rfl (by decide) ?_
          exact b_vret (d213 (j := 33) rfl) rfl (k9 c1 M6 hR6 c7 c9 c10)
        ·
          refine b_aload_n (d213 (j := 23) rfl) rfl ?_
          refine b_callV (d213 (j := 24) rfl) rfl rfl (Or.inl rfl) rfl (bCk_mk (n := 0) (k := 1) (by decide +kernel) rfl rfl) ((hA8 c1 M6 hR6 c7 c9 c10) _ (fun M8 hR8 => ?_))
          refine b_stk [] rfl ?_
          refine b_aload_n (d213 (j := 25) rfl) rfl ?_
          refine b_getR (d213 (j := 26) rfl) rfl rfl rfl rfl ?_
          refine b_stk [uR 38 90] rfl ?_
          refine b_bipush (d213 (j := 27) rfl) (by decide) ?_
          refine b_dup2 (d213 (j := 28) rfl) ?_
          refine b_iaload (d213 (j := 29) rfl) rfl (by decide) ?_
          refine b_iconst (d213 (j := 30) rfl) (by decide) ?_
          refine b_iadd (d213 (j := 31) rfl) rfl rfl ?_
          refine b_stk [uI ((M8 90 8) + 1), uI 8, uR 38 90] (by rw [dsw_r (s10 c1 M6 hR6 c7 c9 c10 M8 hR8)]) ?_
          refine b_iastore (d213 (j := 32) rfl) rfl (by decide) ?_
          exact b_vret (d213 (j := 33) rfl) rfl (k10 c1 M6 hR6 c7 c9 c10 M8 hR8)
      ·
        refine b_aload_n (d213 (j := 17) rfl) rfl ?_
        refine b_iconst (d213 (j := 18) rfl) (by decide) ?_
        refine b_callV (d213 (j := 19) rfl) rfl rfl (Or.inl rfl) rfl (bCk_mk (n := 0) (k := 2) (by decide +kernel) rfl rfl) ((hA9 c1 M6 hR6 c7 c9) _ (fun M9 hR9 => ?_))
        refine b_stk [] rfl ?_
        refine b_aload_n (d213 (j := 20) rfl) rfl ?_
        refine b_callV (d213 (j := 21) rfl) rfl rfl (Or.inl rfl) rfl (bCk_mk (n := 0) (k := 1) (by decide +kernel) rfl rfl) (pu198  ?_)
        refine b_stk [uI (if ((M9 84 12) = 0) then 1 else 0)] rfl ?_
        refine b_ifeqP (d213 (j := 22) rfl) (fun c11 => ?_) (fun c11 => ?_)
        ·
          refine b_aload_n (d213 (j := 25) rfl) rfl ?_
          refine b_getR (d213 (j := 26) rfl) rfl rfl rfl rfl ?_
          refine b_stk [uR 38 90] rfl ?_
          refine b_bipush (d213 (j := 27) rfl) (by decide) ?_
          refine b_dup2 (d213 (j := 28) rfl) ?_
          refine b_iaload (d213 (j := 29) rfl) rfl (by decide) ?_
          refine b_iconst (d213 (j := 30) rfl) (by decide) ?_
          refine b_iadd (d213 (j := 31) rfl) rfl rfl ?_
          refine b_stk [uI ((M9 90 8) + 1), uI 8, uR 38 90] (by rw [dsw_r (s11 c1 M6 hR6 c7 c9 M9 hR9 c11)]) ?_
          refine b_iastore (d213 (j := 32) rfl) rfl (by decide) ?_
          exact b_vret (d213 (j := 33) rfl) rfl (k11 c1 M6 hR6 c7 c9 M9 hR9 c11)
        ·
          refine b_aload_n (d213 (j := 23) rfl) rfl ?_
          refine b_callV (d213 (j := 24) rfl) rfl rfl (Or.inl rfl) rfl (bCk_mk (n := 0) (k := 1) (by decide +kernel) rfl rfl) ((hA10 c1 M6 hR6 c7 c9 M9 hR9 c11) _ (fun M10 hR10 => ?_))
          refine b_stk [] rfl ?_
          refine b_aload_n (d213 (j := 25) rfl) rfl ?_
          refine b_getR (d213 (j := 26) rfl) rfl rfl rfl rfl ?_
          refine b_stk [uR 38 90] rfl ?_
          refine b_bipush (d213 (j := 27) rfl) (by decide) ?_
          refine b_dup2 (d213 (j := 28) rfl) ?_
          refine b_iaload (d213 (j := 29) rfl) rfl (by decide) ?_
          refine b_iconst (d213 (j := 30) rfl) (by decide) ?_
          refine b_iadd (d213 (j := 31) rfl) rfl rfl ?_
          refine b_stk [uI ((M10 90 8) + 1), uI 8, uR 38 90] (by rw [dsw_r (s12 c1 M6 hR6 c7 c9 M9 hR9 c11 M10 hR10)]) ?_
          refine b_iastore (d213 (j := 32) rfl) rfl (by decide) ?_
          exact b_vret (d213 (j := 33) rfl) rfl (k12 c1 M6 hR6 c7 c9 M9 hR9 c11 M10 hR10)
def L214 : List (Nat × Instr × Nat × Nat) := [(0, .aload_n 0, 1, 0), (1, .aload_n 0, 2, 0), (2, .getfield 136, 5, 0), (5, .putfield 139, 8, 0), (8, .aload_n 0, 9, 0), (9, .iconst 0, 10, 0), (10, .putfield 136, 13, 0), (13, .aload_n 0, 14, 0), (14, .iconst 0, 15, 0), (15, .putfield 142, 18, 0), (18, .aload_n 0, 19, 0), (19, .iconst 0, 20, 0), (20, .putfield 172, 23, 0), (23, .aload_n 0, 24, 0), (24, .iconst (-1), 25, 0), (25, .putfield 27, 28, 0), (28, .iconst 0, 29, 0), (29, .istore_n 1, 30, 0), (30, .iload_n 1, 31, 0), (31, .bipush 105, 33, 0), (33, .if_icmp .ge 16, 36, 49), (36, .aload_n 0, 37, 0), (37, .getfield 31, 40, 0), (40, .iload_n 1, 41, 0), (41, .iconst 0, 42, 0), (42, .iastore, 43, 0), (43, .iinc 1 1, 46, 0), (46, .goto (-16), 49, 30), (49, .aload_n 0, 50, 0), (50, .invokevirtual 191, 53, 0), (53, .aload_n 0, 54, 0), (54, .invokevirtual 175, 57, 0), (57, .ifCond .eq 17, 60, 74), (60, .aload_n 0, 61, 0), (61, .getfield 152, 64, 0), (64, .ifCond .eq 10, 67, 74), (67, .aload_n 0, 68, 0), (68, .invokevirtual 261, 71, 0), (71, .goto (-18), 74, 53), (74, .aload_n 0, 75, 0), (75, .invokevirtual 175, 78, 0), (78, .ifCond .ne 6, 81, 84), (81, .bipush (-4), 83, 0), (83, .ireturn, 84, 0), (84, .iconst 0, 85, 0), (85, .istore_n 1, 86, 0), (86, .iload_n 1, 87, 0), (87, .bipush 105, 89, 0), (89, .if_icmp .ge 21, 92, 110), (92, .aload_n 0, 93, 0), (93, .getfield 9, 96, 0), (96, .iload_n 1, 97, 0), (97, .aload_n 0, 98, 0), (98, .getfield 31, 101, 0), (101, .iload_n 1, 102, 0), (102, .iaload, 103, 0), (103, .iastore, 104, 0), (104, .iinc 1 1, 107, 0), (107, .goto (-21), 110, 86), (110, .aload_n 0, 111, 0), (111, .getfield 9, 114, 0), (114, .bipush 8, 116, 0), (116, .iaload, 117, 0), (117, .ireturn, 118, 0)]
set_option maxRecDepth 100000 in
theorem L214_ok : L214.all (dck 214) = true := by decide +kernel
theorem d214 {j pc nx tg : Nat} {ins : Instr} (hj : L214[j]? = some (pc, ins, nx, tg)) : dcd 214 pc ins nx tg := dcl_ok L214_ok hj
set_option maxRecDepth 100000 in
set_option maxHeartbeats 4000000 in
theorem r214_0   {M : dsMem} {Q : bQT} (k1 : bB 214 30 [uR 11 84, uI 0] [] (dsSet (dsSet (dsSet (dsSet (dsSet M 84 7 (M 84 5)) 84 5 0) 84 8 0) 84 12 0) 84 13 (-1)) Q) :
    bB 214 0 [uR 11 84, uX 0] [] M Q := by
  refine b_aload_n (d214 (j := 0) rfl) rfl ?_
  refine b_aload_n (d214 (j := 1) rfl) rfl ?_
  refine b_getI (d214 (j := 2) rfl) rfl rfl rfl rfl (Or.inl rfl) ?_
  refine b_stk [uI (M 84 5), uR 11 84] rfl ?_
  refine b_putI (d214 (j := 3) rfl) rfl ⟨rfl, rfl⟩ rfl rfl ?_
  refine b_aload_n (d214 (j := 4) rfl) rfl ?_
  refine b_iconst (d214 (j := 5) rfl) (by decide) ?_
  refine b_putI (d214 (j := 6) rfl) rfl ⟨rfl, rfl⟩ rfl rfl ?_
  refine b_aload_n (d214 (j := 7) rfl) rfl ?_
  refine b_iconst (d214 (j := 8) rfl) (by decide) ?_
  refine b_putI (d214 (j := 9) rfl) rfl ⟨rfl, rfl⟩ rfl rfl ?_
  refine b_aload_n (d214 (j := 10) rfl) rfl ?_
  refine b_iconst (d214 (j := 11) rfl) (by decide) ?_
  refine b_putI (d214 (j := 12) rfl) rfl ⟨rfl, rfl⟩ rfl rfl ?_
  refine b_aload_n (d214 (j := 13) rfl) rfl ?_
  refine b_iconst (d214 (j := 14) rfl) (by decide) ?_
  refine b_putI (d214 (j := 15) rfl) rfl ⟨rfl, rfl⟩ rfl rfl ?_
  refine b_iconst (d214 (j := 16) rfl) (by decide) ?_
  refine b_istore_n [uR 11 84, uI 0] (d214 (j := 17) rfl) (by decide) rfl ?_
  exact k1
set_option maxRecDepth 100000 in
set_option maxHeartbeats 4000000 in
theorem r214_30 {x1 : Int} {R1 : dsMem → Prop} {M : dsMem} {Q : bQT} (hA1 : (105 ≤ x1) → bCt 197 [uR 11 84, uX 0] M (fun _ => []) R1) (k1 : (105 ≤ x1) → ∀ M1 : dsMem, R1 M1 → bB 214 53 [uR 11 84, uX 0] [] M1 Q) (s1 : (¬ 105 ≤ x1) → 0 ≤ x1 ∧ x1 < 105 := by intros; omega) (s2 : (¬ 105 ≤ x1) → -2147483648 ≤ x1 + 1 ∧ x1 + 1 < 2147483648 := by intros; omega) (k2 : (¬ 105 ≤ x1) → bB 214 30 [uR 11 84, uI (x1 + 1)] [] (dsSet M 90 x1 0) Q) :
    bB 214 30 [uR 11 84, uI x1] [] M Q := by
  refine b_iload_n (d214 (j := 18) rfl) rfl ?_
  refine b_bipush (d214 (j := 19) rfl) (by decide) ?_
  refine b_icmp_ge (d214 (j := 20) rfl) (fun c1 => ?_) (fun c1 => ?_)
  ·
    refine b_aload_n (d214 (j := 28) rfl) rfl ?_
    refine b_callV (d214 (j := 29) rfl) rfl rfl (Or.inl rfl) rfl (bCk_mk (n := 0) (k := 1) (by decide +kernel) rfl rfl) ((hA1 c1) _ (fun M1 hR1 => ?_))
    refine b_stk [] rfl ?_
    exact bB_le _ (bLe_s (bLe_x bLe_nil)) (k1 c1 M1 hR1)
  ·
    refine b_aload_n (d214 (j := 21) rfl) rfl ?_
    refine b_getR (d214 (j := 22) rfl) rfl rfl rfl rfl ?_
    refine b_stk [uR 38 90] rfl ?_
    refine b_iload_n (d214 (j := 23) rfl) rfl ?_
    refine b_iconst (d214 (j := 24) rfl) (by decide) ?_
    refine b_iastore (d214 (j := 25) rfl) rfl (s1 c1) ?_
    refine b_iinc [uR 11 84, uI (x1 + 1)] (d214 (j := 26) rfl) rfl (by decide) (s2 c1) rfl ?_
    refine b_goto (d214 (j := 27) rfl) ?_
    exact (k2 c1)
set_option maxRecDepth 100000 in
set_option maxHeartbeats 4000000 in
theorem r214_53  {R1 : dsMem → Prop} {M : dsMem} {Q : bQT} (k1 : (¬ ((M 84 12) = 0)) → (((M 84 12) = 0)) → bB 214 86 [uR 11 84, uI 0] [] M Q) (k2 : (¬ ((M 84 12) = 0)) → (¬ ((M 84 12) = 0)) → Q [uI (-4)] M) (k3 : (((M 84 12) = 0)) → ((M 84 10) = 0) → (((M 84 12) = 0)) → bB 214 86 [uR 11 84, uI 0] [] M Q) (k4 : (((M 84 12) = 0)) → ((M 84 10) = 0) → (¬ ((M 84 12) = 0)) → Q [uI (-4)] M) (hA1 : (((M 84 12) = 0)) → (¬ (M 84 10) = 0) → bCt 213 [uR 11 84] M (fun _ => []) R1) (k5 : (((M 84 12) = 0)) → (¬ (M 84 10) = 0) → ∀ M1 : dsMem, R1 M1 → bB 214 53 [uR 11 84, uX 0] [] M1 Q) :
    bB 214 53 [uR 11 84, uX 0] [] M Q := by
  refine b_aload_n (d214 (j := 30) rfl) rfl ?_
  refine b_callV (d214 (j := 31) rfl) rfl rfl (Or.inl rfl) rfl (bCk_mk (n := 0) (k := 1) (by decide +kernel) rfl rfl) (pu198  ?_)
  refine b_stk [uI (if ((M 84 12) = 0) then 1 else 0)] rfl ?_
  refine b_ifeqP (d214 (j := 32) rfl) (fun c1 => ?_) (fun c1 => ?_)
  ·
    refine b_aload_n (d214 (j := 39) rfl) rfl ?_
    refine b_callV (d214 (j := 40) rfl) rfl rfl (Or.inl rfl) rfl (bCk_mk (n := 0) (k := 1) (by decide +kernel) rfl rfl) (pu198  ?_)
    refine b_stk [uI (if ((M 84 12) = 0) then 1 else 0)] rfl ?_
    refine b_ifneP (d214 (j := 41) rfl) (fun c2 => ?_) (fun c2 => ?_)
    ·
      refine b_iconst (d214 (j := 44) rfl) (by decide) ?_
      refine b_istore_n [uR 11 84, uI 0] (d214 (j := 45) rfl) (by decide) rfl ?_
      exact (k1 c1 c2)
    ·
      refine b_bipush (d214 (j := 42) rfl) (by decide) ?_
      exact b_iret (d214 (j := 43) rfl) rfl (k2 c1 c2)
  ·
    refine b_aload_n (d214 (j := 33) rfl) rfl ?_
    refine b_getI (d214 (j := 34) rfl) rfl rfl rfl rfl (Or.inl rfl) ?_
    refine b_stk [uI (M 84 10)] rfl ?_
    refine b_if_eq (d214 (j := 35) rfl) (fun c3 => ?_) (fun c3 => ?_)
    ·
      refine b_aload_n (d214 (j := 39) rfl) rfl ?_
      refine b_callV (d214 (j := 40) rfl) rfl rfl (Or.inl rfl) rfl (bCk_mk (n := 0) (k := 1) (by decide +kernel) rfl rfl) (pu198  ?_)
      refine b_stk [uI (if ((M 84 12) = 0) then 1 else 0)] rfl ?_
      refine b_ifneP (d214 (j := 41) rfl) (fun c4 => ?_) (fun c4 => ?_)
      ·
        refine b_iconst (d214 (j := 44) rfl) (by decide) ?_
        refine b_istore_n [uR 11 84, uI 0] (d214 (j := 45) rfl) (by decide) rfl ?_
        exact (k3 c1 c3 c4)
      ·
        refine b_bipush (d214 (j := 42) rfl) (by decide) ?_
        exact b_iret (d214 (j := 43) rfl) rfl (k4 c1 c3 c4)
    ·
      refine b_aload_n (d214 (j := 36) rfl) rfl ?_
      refine b_callV (d214 (j := 37) rfl) rfl rfl (Or.inl rfl) rfl (bCk_mk (n := 0) (k := 1) (by decide +kernel) rfl rfl) ((hA1 c1 c3) _ (fun M1 hR1 => ?_))
      refine b_stk [] rfl ?_
      refine b_goto (d214 (j := 38) rfl) ?_
      exact (k5 c1 c3 M1 hR1)
set_option maxRecDepth 100000 in
set_option maxHeartbeats 4000000 in
theorem r214_86 {x1 : Int}  {M : dsMem} {Q : bQT} (k1 : (105 ≤ x1) → Q [uI (M 85 8)] M) (s1 : (¬ 105 ≤ x1) → 0 ≤ x1 ∧ x1 < 105 := by intros; omega) (s2 : (¬ 105 ≤ x1) → -2147483648 ≤ x1 + 1 ∧ x1 + 1 < 2147483648 := by intros; omega) (k2 : (¬ 105 ≤ x1) → bB 214 86 [uR 11 84, uI (x1 + 1)] [] (dsSet M 85 x1 (M 90 x1)) Q) :
    bB 214 86 [uR 11 84, uI x1] [] M Q := by
  refine b_iload_n (d214 (j := 46) rfl) rfl ?_
  refine b_bipush (d214 (j := 47) rfl) (by decide) ?_
  refine b_icmp_ge (d214 (j := 48) rfl) (fun c1 => ?_) (fun c1 => ?_)
  ·
    refine b_aload_n (d214 (j := 59) rfl) rfl ?_
    refine b_getR (d214 (j := 60) rfl) rfl rfl rfl rfl ?_
    refine b_stk [uR 38 85] rfl ?_
    refine b_bipush (d214 (j := 61) rfl) (by decide) ?_
    refine b_iaload (d214 (j := 62) rfl) rfl (by decide) ?_
    exact b_iret (d214 (j := 63) rfl) rfl (k1 c1)
  ·
    refine b_aload_n (d214 (j := 49) rfl) rfl ?_
    refine b_getR (d214 (j := 50) rfl) rfl rfl rfl rfl ?_
    refine b_stk [uR 38 85] rfl ?_
    refine b_iload_n (d214 (j := 51) rfl) rfl ?_
    refine b_aload_n (d214 (j := 52) rfl) rfl ?_
    refine b_getR (d214 (j := 53) rfl) rfl rfl rfl rfl ?_
    refine b_stk [uR 38 90, uI x1, uR 38 85] rfl ?_
    refine b_iload_n (d214 (j := 54) rfl) rfl ?_
    refine b_iaload (d214 (j := 55) rfl) rfl (s1 c1) ?_
    refine b_iastore (d214 (j := 56) rfl) rfl (s1 c1) ?_
    refine b_iinc [uR 11 84, uI (x1 + 1)] (d214 (j := 57) rfl) rfl (by decide) (s2 c1) rfl ?_
    refine b_goto (d214 (j := 58) rfl) ?_
    exact (k2 c1)
def L215 : List (Nat × Instr × Nat × Nat) := [(0, .aload_n 0, 1, 0), (1, .iload_n 1, 2, 0), (2, .i2l, 3, 0), (3, .invokevirtual 264, 6, 0), (6, .ifCond .eq 29, 9, 35), (9, .iload_n 2, 10, 0), (10, .i2l, 11, 0), (11, .lconst 0, 12, 0), (12, .lconst 1, 13, 0), (13, .invokestatic 112, 16, 0), (16, .ifCond .eq 19, 19, 35), (19, .aload_n 0, 20, 0), (20, .getfield 9, 23, 0), (23, .bipush 9, 25, 0), (25, .iconst 2, 26, 0), (26, .iload_n 1, 27, 0), (27, .imul, 28, 0), (28, .iadd, 29, 0), (29, .iload_n 2, 30, 0), (30, .iadd, 31, 0), (31, .iaload, 32, 0), (32, .goto 5, 35, 37), (35, .bipush (-2), 37, 0), (37, .ireturn, 38, 0)]
set_option maxRecDepth 100000 in
theorem L215_ok : L215.all (dck 215) = true := by decide +kernel
theorem d215 {j pc nx tg : Nat} {ins : Instr} (hj : L215[j]? = some (pc, ins, nx, tg)) : dcd 215 pc ins nx tg := dcl_ok L215_ok hj
set_option maxRecDepth 100000 in
set_option maxHeartbeats 4000000 in
theorem r215_0 {x1 x2 : Int}  {M : dsMem} {Q : bQT} (s1 : -2147483648 ≤ ((M 85 3) - 1) ∧ ((M 85 3) - 1) < 2147483648 := by intros; omega) (k1 : (¬ (0 ≤ x1 ∧ x1 ≤ (M 85 3) - 1)) → Q [uI (-2)] M) (k2 : ((0 ≤ x1 ∧ x1 ≤ (M 85 3) - 1)) → (¬ (0 ≤ x2 ∧ x2 ≤ 1)) → Q [uI (-2)] M) (s2 : ((0 ≤ x1 ∧ x1 ≤ (M 85 3) - 1)) → ((0 ≤ x2 ∧ x2 ≤ 1)) → 0 ≤ ((9 + (2 * x1)) + x2) ∧ ((9 + (2 * x1)) + x2) < 105 := by intros; omega) (k3 : ((0 ≤ x1 ∧ x1 ≤ (M 85 3) - 1)) → ((0 ≤ x2 ∧ x2 ≤ 1)) → Q [uI (M 85 ((9 + (2 * x1)) + x2))] M) :
    bB 215 0 [uR 11 84, uI x1, uI x2] [] M Q := by
  refine b_aload_n (d215 (j := 0) rfl) rfl ?_
  refine b_iload_n (d215 (j := 1) rfl) rfl ?_
  refine b_i2l (d215 (j := 2) rfl) ?_
  refine b_callV (d215 (j := 3) rfl) rfl rfl (Or.inl rfl) rfl (bCk_mk (n := 0) (k := 3) (by decide +kernel) rfl rfl) (pu189 s1 ?_)
  refine b_stk [uI (if (0 ≤ x1 ∧ x1 ≤ (M 85 3) - 1) then 1 else 0)] rfl ?_
  refine b_ifeqP (d215 (j := 4) rfl) (fun c1 => ?_) (fun c1 => ?_)
  ·
    refine b_bipush (d215 (j := 22) rfl) (by decide) ?_
    exact b_iret (d215 (j := 23) rfl) rfl (k1 c1)
  ·
    refine b_iload_n (d215 (j := 5) rfl) rfl ?_
    refine b_i2l (d215 (j := 6) rfl) ?_
    refine b_lconst (d215 (j := 7) rfl) ?_
    refine b_stk [uJ 0, uJ x2] rfl ?_
    refine b_lconst (d215 (j := 8) rfl) ?_
    refine b_stk [uJ 1, uJ 0, uJ x2] rfl ?_
    refine b_callS (d215 (j := 9) rfl) (Or.inl rfl) rfl (bCk_mk (n := 0) (k := 6) (by decide +kernel) rfl rfl) (pu177  ?_)
    refine b_stk [uI (if (0 ≤ x2 ∧ x2 ≤ 1) then 1 else 0)] rfl ?_
    refine b_ifeqP (d215 (j := 10) rfl) (fun c2 => ?_) (fun c2 => ?_)
    ·
      refine b_bipush (d215 (j := 22) rfl) (by decide) ?_
      exact b_iret (d215 (j := 23) rfl) rfl (k2 c1 c2)
    ·
      refine b_aload_n (d215 (j := 11) rfl) rfl ?_
      refine b_getR (d215 (j := 12) rfl) rfl rfl rfl rfl ?_
      refine b_stk [uR 38 85] rfl ?_
      refine b_bipush (d215 (j := 13) rfl) (by decide) ?_
      refine b_iconst (d215 (j := 14) rfl) (by decide) ?_
      refine b_iload_n (d215 (j := 15) rfl) rfl ?_
      refine b_imul (d215 (j := 16) rfl) rfl rfl ?_
      refine b_iadd (d215 (j := 17) rfl) rfl (dsw_dsw _) ?_
      refine b_iload_n (d215 (j := 18) rfl) rfl ?_
      refine b_iadd (d215 (j := 19) rfl) (dsw_dsw _) rfl ?_
      refine b_stk [uI ((9 + (2 * x1)) + x2), uR 38 85] (by rw [dsw_b (s2 c1 c2) (by decide)]) ?_
      refine b_iaload (d215 (j := 20) rfl) rfl (s2 c1 c2) ?_
      refine b_goto (d215 (j := 21) rfl) ?_
      exact b_iret (d215 (j := 23) rfl) rfl (k3 c1 c2)
def L216 : List (Nat × Instr × Nat × Nat) := [(0, .aload_n 0, 1, 0), (1, .iload_n 1, 2, 0), (2, .i2l, 3, 0), (3, .invokevirtual 268, 6, 0), (6, .ifCond .eq 24, 9, 30), (9, .iload_n 2, 10, 0), (10, .i2l, 11, 0), (11, .lconst 0, 12, 0), (12, .ldc2_w 110, 15, 0), (15, .invokestatic 112, 18, 0), (18, .ifCond .eq 12, 21, 30), (21, .aload_n 0, 22, 0), (22, .iload_n 1, 23, 0), (23, .iload_n 2, 24, 0), (24, .invokevirtual 132, 27, 0), (27, .goto 5, 30, 32), (30, .bipush (-2), 32, 0), (32, .ireturn, 33, 0)]
set_option maxRecDepth 100000 in
theorem L216_ok : L216.all (dck 216) = true := by decide +kernel
theorem d216 {j pc nx tg : Nat} {ins : Instr} (hj : L216[j]? = some (pc, ins, nx, tg)) : dcd 216 pc ins nx tg := dcl_ok L216_ok hj
set_option maxRecDepth 100000 in
set_option maxHeartbeats 4000000 in
theorem r216_0 {x1 x2 : Int}  {M : dsMem} {Q : bQT} (s1 : -2147483648 ≤ ((M 85 4) - 1) ∧ ((M 85 4) - 1) < 2147483648 := by intros; omega) (k1 : (¬ (0 ≤ x1 ∧ x1 ≤ (M 85 4) - 1)) → Q [uI (-2)] M) (k2 : ((0 ≤ x1 ∧ x1 ≤ (M 85 4) - 1)) → (¬ (0 ≤ x2 ∧ x2 ≤ 2)) → Q [uI (-2)] M) (s2 : ((0 ≤ x1 ∧ x1 ≤ (M 85 4) - 1)) → ((0 ≤ x2 ∧ x2 ≤ 2)) → 0 ≤ ((15 + (3 * x1)) + x2) ∧ ((15 + (3 * x1)) + x2) < 105 := by intros; omega) (k3 : ((0 ≤ x1 ∧ x1 ≤ (M 85 4) - 1)) → ((0 ≤ x2 ∧ x2 ≤ 2)) → Q [uI (M 85 ((15 + (3 * x1)) + x2))] M) :
    bB 216 0 [uR 11 84, uI x1, uI x2] [] M Q := by
  refine b_aload_n (d216 (j := 0) rfl) rfl ?_
  refine b_iload_n (d216 (j := 1) rfl) rfl ?_
  refine b_i2l (d216 (j := 2) rfl) ?_
  refine b_callV (d216 (j := 3) rfl) rfl rfl (Or.inl rfl) rfl (bCk_mk (n := 0) (k := 3) (by decide +kernel) rfl rfl) (pu190 s1 ?_)
  refine b_stk [uI (if (0 ≤ x1 ∧ x1 ≤ (M 85 4) - 1) then 1 else 0)] rfl ?_
  refine b_ifeqP (d216 (j := 4) rfl) (fun c1 => ?_) (fun c1 => ?_)
  ·
    refine b_bipush (d216 (j := 16) rfl) (by decide) ?_
    exact b_iret (d216 (j := 17) rfl) rfl (k1 c1)
  ·
    refine b_iload_n (d216 (j := 5) rfl) rfl ?_
    refine b_i2l (d216 (j := 6) rfl) ?_
    refine b_lconst (d216 (j := 7) rfl) ?_
    refine b_stk [uJ 0, uJ x2] rfl ?_
    refine b_ldc2 (d216 (j := 8) rfl) rfl ?_
    refine b_callS (d216 (j := 9) rfl) (Or.inl rfl) rfl (bCk_mk (n := 0) (k := 6) (by decide +kernel) rfl rfl) (pu177  ?_)
    refine b_stk [uI (if (0 ≤ x2 ∧ x2 ≤ 2) then 1 else 0)] rfl ?_
    refine b_ifeqP (d216 (j := 10) rfl) (fun c2 => ?_) (fun c2 => ?_)
    ·
      refine b_bipush (d216 (j := 16) rfl) (by decide) ?_
      exact b_iret (d216 (j := 17) rfl) rfl (k2 c1 c2)
    ·
      refine b_aload_n (d216 (j := 11) rfl) rfl ?_
      refine b_iload_n (d216 (j := 12) rfl) rfl ?_
      refine b_iload_n (d216 (j := 13) rfl) rfl ?_
      refine b_callV (d216 (j := 14) rfl) rfl rfl (Or.inl rfl) rfl (bCk_mk (n := 0) (k := 3) (by decide +kernel) rfl rfl) (pu192 (s2 c1 c2) ?_)
      refine b_stk [uI (M 85 ((15 + (3 * x1)) + x2))] rfl ?_
      refine b_goto (d216 (j := 15) rfl) ?_
      exact b_iret (d216 (j := 17) rfl) rfl (k3 c1 c2)
def L217 : List (Nat × Instr × Nat × Nat) := [(0, .iload_n 1, 1, 0), (1, .i2l, 2, 0), (2, .lconst 0, 3, 0), (3, .aload_n 0, 4, 0), (4, .getfield 9, 7, 0), (7, .iconst 5, 8, 0), (8, .iaload, 9, 0), (9, .iconst 1, 10, 0), (10, .isub, 11, 0), (11, .i2l, 12, 0), (12, .invokestatic 112, 15, 0), (15, .ifCond .eq 31, 18, 46), (18, .iload_n 2, 19, 0), (19, .i2l, 20, 0), (20, .lconst 0, 21, 0), (21, .ldc2_w 110, 24, 0), (24, .invokestatic 112, 27, 0), (27, .ifCond .eq 19, 30, 46), (30, .aload_n 0, 31, 0), (31, .getfield 9, 34, 0), (34, .bipush 33, 36, 0), (36, .iconst 3, 37, 0), (37, .iload_n 1, 38, 0), (38, .imul, 39, 0), (39, .iadd, 40, 0), (40, .iload_n 2, 41, 0), (41, .iadd, 42, 0), (42, .iaload, 43, 0), (43, .goto 5, 46, 48), (46, .bipush (-2), 48, 0), (48, .ireturn, 49, 0)]
set_option maxRecDepth 100000 in
theorem L217_ok : L217.all (dck 217) = true := by decide +kernel
theorem d217 {j pc nx tg : Nat} {ins : Instr} (hj : L217[j]? = some (pc, ins, nx, tg)) : dcd 217 pc ins nx tg := dcl_ok L217_ok hj
set_option maxRecDepth 100000 in
set_option maxHeartbeats 4000000 in
theorem r217_0 {x1 x2 : Int}  {M : dsMem} {Q : bQT} (s1 : -2147483648 ≤ ((M 85 5) - 1) ∧ ((M 85 5) - 1) < 2147483648 := by intros; omega) (k1 : (¬ (0 ≤ x1 ∧ x1 ≤ ((M 85 5) - 1))) → Q [uI (-2)] M) (k2 : ((0 ≤ x1 ∧ x1 ≤ ((M 85 5) - 1))) → (¬ (0 ≤ x2 ∧ x2 ≤ 2)) → Q [uI (-2)] M) (s2 : ((0 ≤ x1 ∧ x1 ≤ ((M 85 5) - 1))) → ((0 ≤ x2 ∧ x2 ≤ 2)) → 0 ≤ ((33 + (3 * x1)) + x2) ∧ ((33 + (3 * x1)) + x2) < 105 := by intros; omega) (k3 : ((0 ≤ x1 ∧ x1 ≤ ((M 85 5) - 1))) → ((0 ≤ x2 ∧ x2 ≤ 2)) → Q [uI (M 85 ((33 + (3 * x1)) + x2))] M) :
    bB 217 0 [uR 11 84, uI x1, uI x2] [] M Q := by
  refine b_iload_n (d217 (j := 0) rfl) rfl ?_
  refine b_i2l (d217 (j := 1) rfl) ?_
  refine b_lconst (d217 (j := 2) rfl) ?_
  refine b_stk [uJ 0, uJ x1] rfl ?_
  refine b_aload_n (d217 (j := 3) rfl) rfl ?_
  refine b_getR (d217 (j := 4) rfl) rfl rfl rfl rfl ?_
  refine b_stk [uR 38 85, uJ 0, uJ x1] rfl ?_
  refine b_iconst (d217 (j := 5) rfl) (by decide) ?_
  refine b_iaload (d217 (j := 6) rfl) rfl (by decide) ?_
  refine b_iconst (d217 (j := 7) rfl) (by decide) ?_
  refine b_isub (d217 (j := 8) rfl) rfl rfl ?_
  refine b_stk [uI ((M 85 5) - 1), uJ 0, uJ x1] (by rw [dsw_r s1]) ?_
  refine b_i2l (d217 (j := 9) rfl) ?_
  refine b_callS (d217 (j := 10) rfl) (Or.inl rfl) rfl (bCk_mk (n := 0) (k := 6) (by decide +kernel) rfl rfl) (pu177  ?_)
  refine b_stk [uI (if (0 ≤ x1 ∧ x1 ≤ ((M 85 5) - 1)) then 1 else 0)] rfl ?_
  refine b_ifeqP (d217 (j := 11) rfl) (fun c1 => ?_) (fun c1 => ?_)
  ·
    refine b_bipush (d217 (j := 29) rfl) (by decide) ?_
    exact b_iret (d217 (j := 30) rfl) rfl (k1 c1)
  ·
    refine b_iload_n (d217 (j := 12) rfl) rfl ?_
    refine b_i2l (d217 (j := 13) rfl) ?_
    refine b_lconst (d217 (j := 14) rfl) ?_
    refine b_stk [uJ 0, uJ x2] rfl ?_
    refine b_ldc2 (d217 (j := 15) rfl) rfl ?_
    refine b_callS (d217 (j := 16) rfl) (Or.inl rfl) rfl (bCk_mk (n := 0) (k := 6) (by decide +kernel) rfl rfl) (pu177  ?_)
    refine b_stk [uI (if (0 ≤ x2 ∧ x2 ≤ 2) then 1 else 0)] rfl ?_
    refine b_ifeqP (d217 (j := 17) rfl) (fun c2 => ?_) (fun c2 => ?_)
    ·
      refine b_bipush (d217 (j := 29) rfl) (by decide) ?_
      exact b_iret (d217 (j := 30) rfl) rfl (k2 c1 c2)
    ·
      refine b_aload_n (d217 (j := 18) rfl) rfl ?_
      refine b_getR (d217 (j := 19) rfl) rfl rfl rfl rfl ?_
      refine b_stk [uR 38 85] rfl ?_
      refine b_bipush (d217 (j := 20) rfl) (by decide) ?_
      refine b_iconst (d217 (j := 21) rfl) (by decide) ?_
      refine b_iload_n (d217 (j := 22) rfl) rfl ?_
      refine b_imul (d217 (j := 23) rfl) rfl rfl ?_
      refine b_iadd (d217 (j := 24) rfl) rfl (dsw_dsw _) ?_
      refine b_iload_n (d217 (j := 25) rfl) rfl ?_
      refine b_iadd (d217 (j := 26) rfl) (dsw_dsw _) rfl ?_
      refine b_stk [uI ((33 + (3 * x1)) + x2), uR 38 85] (by rw [dsw_b (s2 c1 c2) (by decide)]) ?_
      refine b_iaload (d217 (j := 27) rfl) rfl (s2 c1 c2) ?_
      refine b_goto (d217 (j := 28) rfl) ?_
      exact b_iret (d217 (j := 30) rfl) rfl (k3 c1 c2)
def L219 : List (Nat × Instr × Nat × Nat) := [(0, .aload_n 0, 1, 0), (1, .iload_n 1, 2, 0), (2, .i2l, 3, 0), (3, .invokevirtual 264, 6, 0), (6, .ifCond .eq 11, 9, 17), (9, .aload_n 0, 10, 0), (10, .iload_n 1, 11, 0), (11, .invokevirtual 274, 14, 0), (14, .goto 5, 17, 19), (17, .bipush (-2), 19, 0), (19, .ireturn, 20, 0)]
set_option maxRecDepth 100000 in
theorem L219_ok : L219.all (dck 219) = true := by decide +kernel
theorem d219 {j pc nx tg : Nat} {ins : Instr} (hj : L219[j]? = some (pc, ins, nx, tg)) : dcd 219 pc ins nx tg := dcl_ok L219_ok hj
set_option maxRecDepth 100000 in
set_option maxHeartbeats 4000000 in
theorem r219_0 {x1 : Int}  {M : dsMem} {Q : bQT} (s1 : -2147483648 ≤ ((M 85 3) - 1) ∧ ((M 85 3) - 1) < 2147483648 := by intros; omega) (k1 : (¬ (0 ≤ x1 ∧ x1 ≤ (M 85 3) - 1)) → Q [uI (-2)] M) (s2 : ((0 ≤ x1 ∧ x1 ≤ (M 85 3) - 1)) → ∀ i218_1 : Int, ∀ a218_1 : Int, 0 ≤ i218_1 → i218_1 < (M 85 4) → 0 ≤ ((15 + (3 * i218_1)) + 2) ∧ ((15 + (3 * i218_1)) + 2) < 105 := by intros; omega) (s3 : ((0 ≤ x1 ∧ x1 ≤ (M 85 3) - 1)) → ∀ i218_1 : Int, ∀ a218_1 : Int, 0 ≤ i218_1 → i218_1 < (M 85 4) → -2147483648 ≤ i218_1 + 1 ∧ i218_1 + 1 < 2147483648 := by intros; omega) (k2 : ((0 ≤ x1 ∧ x1 ≤ (M 85 3) - 1)) → Q [uI (v218 M x1)] M) :
    bB 219 0 [uR 11 84, uI x1] [] M Q := by
  refine b_aload_n (d219 (j := 0) rfl) rfl ?_
  refine b_iload_n (d219 (j := 1) rfl) rfl ?_
  refine b_i2l (d219 (j := 2) rfl) ?_
  refine b_callV (d219 (j := 3) rfl) rfl rfl (Or.inl rfl) rfl (bCk_mk (n := 0) (k := 3) (by decide +kernel) rfl rfl) (pu189 s1 ?_)
  refine b_stk [uI (if (0 ≤ x1 ∧ x1 ≤ (M 85 3) - 1) then 1 else 0)] rfl ?_
  refine b_ifeqP (d219 (j := 4) rfl) (fun c1 => ?_) (fun c1 => ?_)
  ·
    refine b_bipush (d219 (j := 9) rfl) (by decide) ?_
    exact b_iret (d219 (j := 10) rfl) rfl (k1 c1)
  ·
    refine b_aload_n (d219 (j := 5) rfl) rfl ?_
    refine b_iload_n (d219 (j := 6) rfl) rfl ?_
    refine b_callV (d219 (j := 7) rfl) rfl rfl (Or.inl rfl) rfl (bCk_mk (n := 0) (k := 2) (by decide +kernel) rfl rfl) (fx218 (s2 c1) (s3 c1) ?_)
    refine b_stk [uI (v218 M x1)] rfl ?_
    refine b_goto (d219 (j := 8) rfl) ?_
    exact b_iret (d219 (j := 10) rfl) rfl (k2 c1)
def L220 : List (Nat × Instr × Nat × Nat) := [(0, .aload_n 0, 1, 0), (1, .aload_n 0, 2, 0), (2, .getfield 9, 5, 0), (5, .iconst 1, 6, 0), (6, .iaload, 7, 0), (7, .putfield 277, 10, 0), (10, .aload_n 0, 11, 0), (11, .sipush 255, 14, 0), (14, .putfield 280, 17, 0), (17, .aload_n 0, 18, 0), (18, .bipush 63, 20, 0), (20, .putfield 283, 23, 0), (23, .aload_n 0, 24, 0), (24, .aload_n 0, 25, 0), (25, .invokevirtual 286, 28, 0), (28, .putfield 289, 31, 0), (31, .aload_n 0, 32, 0), (32, .iconst 0, 33, 0), (33, .putfield 292, 36, 0), (36, .aload_n 0, 37, 0), (37, .iconst 0, 38, 0), (38, .putfield 295, 41, 0), (41, .aload_n 0, 42, 0), (42, .iconst (-1), 43, 0), (43, .putfield 298, 46, 0), (46, .iconst 0, 47, 0), (47, .istore_n 1, 48, 0), (48, .iload_n 1, 49, 0), (49, .bipush 6, 51, 0), (51, .if_icmp .ge 21, 54, 72), (54, .aload_n 0, 55, 0), (55, .getfield 34, 58, 0), (58, .iload_n 1, 59, 0), (59, .aload_n 0, 60, 0), (60, .iload_n 1, 61, 0), (61, .iconst 0, 62, 0), (62, .invokevirtual 132, 65, 0), (65, .iastore, 66, 0), (66, .iinc 1 1, 69, 0), (69, .goto (-21), 72, 48), (72, .iconst 0, 73, 0), (73, .istore_n 1, 74, 0), (74, .iload_n 1, 75, 0), (75, .iconst 3, 76, 0), (76, .if_icmp .ge 26, 79, 102), (79, .aload_n 0, 80, 0), (80, .getfield 37, 83, 0), (83, .iload_n 1, 84, 0), (84, .aload_n 0, 85, 0), (85, .getfield 9, 88, 0), (88, .bipush 9, 90, 0), (90, .iconst 2, 91, 0), (91, .iload_n 1, 92, 0), (92, .imul, 93, 0), (93, .iadd, 94, 0), (94, .iaload, 95, 0), (95, .iastore, 96, 0), (96, .iinc 1 1, 99, 0), (99, .goto (-25), 102, 74), (102, .return_, 103, 0)]
set_option maxRecDepth 100000 in
theorem L220_ok : L220.all (dck 220) = true := by decide +kernel
theorem d220 {j pc nx tg : Nat} {ins : Instr} (hj : L220[j]? = some (pc, ins, nx, tg)) : dcd 220 pc ins nx tg := dcl_ok L220_ok hj
set_option maxRecDepth 100000 in
set_option maxHeartbeats 4000000 in
theorem r220_0   {M : dsMem} {Q : bQT} (s1 : -2147483648 ≤ ((dsShl 1 (M 85 4)) - 1) ∧ ((dsShl 1 (M 85 4)) - 1) < 2147483648 := by intros; omega) (k1 : bB 220 48 [uR 11 84, uI 0] [] (dsSet (dsSet (dsSet (dsSet (dsSet (dsSet (dsSet M 84 17 (M 85 1)) 84 18 255) 84 19 63) 84 20 ((dsShl 1 (M 85 4)) - 1)) 84 21 0) 84 22 0) 84 23 (-1)) Q) :
    bB 220 0 [uR 11 84, uX 0] [] M Q := by
  refine b_aload_n (d220 (j := 0) rfl) rfl ?_
  refine b_aload_n (d220 (j := 1) rfl) rfl ?_
  refine b_getR (d220 (j := 2) rfl) rfl rfl rfl rfl ?_
  refine b_stk [uR 38 85, uR 11 84] rfl ?_
  refine b_iconst (d220 (j := 3) rfl) (by decide) ?_
  refine b_iaload (d220 (j := 4) rfl) rfl (by decide) ?_
  refine b_putI (d220 (j := 5) rfl) rfl ⟨rfl, rfl⟩ rfl rfl ?_
  refine b_aload_n (d220 (j := 6) rfl) rfl ?_
  refine b_sipush (d220 (j := 7) rfl) (by decide) ?_
  refine b_putI (d220 (j := 8) rfl) rfl ⟨rfl, rfl⟩ rfl rfl ?_
  refine b_aload_n (d220 (j := 9) rfl) rfl ?_
  refine b_bipush (d220 (j := 10) rfl) (by decide) ?_
  refine b_putI (d220 (j := 11) rfl) rfl ⟨rfl, rfl⟩ rfl rfl ?_
  refine b_aload_n (d220 (j := 12) rfl) rfl ?_
  refine b_aload_n (d220 (j := 13) rfl) rfl ?_
  refine b_callV (d220 (j := 14) rfl) rfl rfl (Or.inl rfl) rfl (bCk_mk (n := 1) (k := 1) (by decide +kernel) rfl rfl) (pu186 s1 ?_)
  refine b_stk [uI ((dsShl 1 (M 85 4)) - 1), uR 11 84] rfl ?_
  refine b_putI (d220 (j := 15) rfl) rfl ⟨rfl, rfl⟩ rfl rfl ?_
  refine b_aload_n (d220 (j := 16) rfl) rfl ?_
  refine b_iconst (d220 (j := 17) rfl) (by decide) ?_
  refine b_putI (d220 (j := 18) rfl) rfl ⟨rfl, rfl⟩ rfl rfl ?_
  refine b_aload_n (d220 (j := 19) rfl) rfl ?_
  refine b_iconst (d220 (j := 20) rfl) (by decide) ?_
  refine b_putI (d220 (j := 21) rfl) rfl ⟨rfl, rfl⟩ rfl rfl ?_
  refine b_aload_n (d220 (j := 22) rfl) rfl ?_
  refine b_iconst (d220 (j := 23) rfl) (by decide) ?_
  refine b_putI (d220 (j := 24) rfl) rfl ⟨rfl, rfl⟩ rfl rfl ?_
  refine b_iconst (d220 (j := 25) rfl) (by decide) ?_
  refine b_istore_n [uR 11 84, uI 0] (d220 (j := 26) rfl) (by decide) rfl ?_
  exact k1
set_option maxRecDepth 100000 in
set_option maxHeartbeats 4000000 in
theorem r220_48 {x1 : Int}  {M : dsMem} {Q : bQT} (k1 : (6 ≤ x1) → bB 220 74 [uR 11 84, uI 0] [] M Q) (s1 : (¬ 6 ≤ x1) → 0 ≤ ((15 + (3 * x1)) + 0) ∧ ((15 + (3 * x1)) + 0) < 105 := by intros; omega) (s2 : (¬ 6 ≤ x1) → 0 ≤ x1 ∧ x1 < 6 := by intros; omega) (s3 : (¬ 6 ≤ x1) → -2147483648 ≤ x1 + 1 ∧ x1 + 1 < 2147483648 := by intros; omega) (k2 : (¬ 6 ≤ x1) → bB 220 48 [uR 11 84, uI (x1 + 1)] [] (dsSet M 91 x1 (M 85 ((15 + (3 * x1)) + 0))) Q) :
    bB 220 48 [uR 11 84, uI x1] [] M Q := by
  refine b_iload_n (d220 (j := 27) rfl) rfl ?_
  refine b_bipush (d220 (j := 28) rfl) (by decide) ?_
  refine b_icmp_ge (d220 (j := 29) rfl) (fun c1 => ?_) (fun c1 => ?_)
  ·
    refine b_iconst (d220 (j := 40) rfl) (by decide) ?_
    refine b_istore_n [uR 11 84, uI 0] (d220 (j := 41) rfl) (by decide) rfl ?_
    exact (k1 c1)
  ·
    refine b_aload_n (d220 (j := 30) rfl) rfl ?_
    refine b_getR (d220 (j := 31) rfl) rfl rfl rfl rfl ?_
    refine b_stk [uR 21 91] rfl ?_
    refine b_iload_n (d220 (j := 32) rfl) rfl ?_
    refine b_aload_n (d220 (j := 33) rfl) rfl ?_
    refine b_iload_n (d220 (j := 34) rfl) rfl ?_
    refine b_iconst (d220 (j := 35) rfl) (by decide) ?_
    refine b_callV (d220 (j := 36) rfl) rfl rfl (Or.inl rfl) rfl (bCk_mk (n := 2) (k := 3) (by decide +kernel) rfl rfl) (pu192 (s1 c1) ?_)
    refine b_stk [uI (M 85 ((15 + (3 * x1)) + 0)), uI x1, uR 21 91] rfl ?_
    refine b_iastore (d220 (j := 37) rfl) rfl (s2 c1) ?_
    refine b_iinc [uR 11 84, uI (x1 + 1)] (d220 (j := 38) rfl) rfl (by decide) (s3 c1) rfl ?_
    refine b_goto (d220 (j := 39) rfl) ?_
    exact (k2 c1)
set_option maxRecDepth 100000 in
set_option maxHeartbeats 4000000 in
theorem r220_74 {x1 : Int}  {M : dsMem} {Q : bQT} (k1 : (3 ≤ x1) → Q [] M) (s1 : (¬ 3 ≤ x1) → 0 ≤ (9 + (2 * x1)) ∧ (9 + (2 * x1)) < 105 := by intros; omega) (s2 : (¬ 3 ≤ x1) → 0 ≤ x1 ∧ x1 < 3 := by intros; omega) (s3 : (¬ 3 ≤ x1) → -2147483648 ≤ x1 + 1 ∧ x1 + 1 < 2147483648 := by intros; omega) (k2 : (¬ 3 ≤ x1) → bB 220 74 [uR 11 84, uI (x1 + 1)] [] (dsSet M 92 x1 (M 85 (9 + (2 * x1)))) Q) :
    bB 220 74 [uR 11 84, uI x1] [] M Q := by
  refine b_iload_n (d220 (j := 42) rfl) rfl ?_
  refine b_iconst (d220 (j := 43) rfl) (by decide) ?_
  refine b_icmp_ge (d220 (j := 44) rfl) (fun c1 => ?_) (fun c1 => ?_)
  ·
    exact b_vret (d220 (j := 59) rfl) rfl (k1 c1)
  ·
    refine b_aload_n (d220 (j := 45) rfl) rfl ?_
    refine b_getR (d220 (j := 46) rfl) rfl rfl rfl rfl ?_
    refine b_stk [uR 23 92] rfl ?_
    refine b_iload_n (d220 (j := 47) rfl) rfl ?_
    refine b_aload_n (d220 (j := 48) rfl) rfl ?_
    refine b_getR (d220 (j := 49) rfl) rfl rfl rfl rfl ?_
    refine b_stk [uR 38 85, uI x1, uR 23 92] rfl ?_
    refine b_bipush (d220 (j := 50) rfl) (by decide) ?_
    refine b_iconst (d220 (j := 51) rfl) (by decide) ?_
    refine b_iload_n (d220 (j := 52) rfl) rfl ?_
    refine b_imul (d220 (j := 53) rfl) rfl rfl ?_
    refine b_iadd (d220 (j := 54) rfl) rfl (dsw_dsw _) ?_
    refine b_stk [uI (9 + (2 * x1)), uR 38 85, uI x1, uR 23 92] (by rw [dsw_b (s1 c1) (by decide)]) ?_
    refine b_iaload (d220 (j := 55) rfl) rfl (s1 c1) ?_
    refine b_iastore (d220 (j := 56) rfl) rfl (s2 c1) ?_
    refine b_iinc [uR 11 84, uI (x1 + 1)] (d220 (j := 57) rfl) rfl (by decide) (s3 c1) rfl ?_
    refine b_goto (d220 (j := 58) rfl) ?_
    exact (k2 c1)
def L222 : List (Nat × Instr × Nat × Nat) := [(0, .iload_n 2, 1, 0), (1, .ifCond .ne 4, 4, 5), (4, .return_, 5, 0), (5, .bipush 60, 7, 0), (7, .iload_n 1, 8, 0), (8, .imul, 9, 0), (9, .aload_n 0, 10, 0), (10, .getfield 46, 13, 0), (13, .iload_n 1, 14, 0), (14, .iaload, 15, 0), (15, .iadd, 16, 0), (16, .iconst 1, 17, 0), (17, .isub, 18, 0), (18, .istore 4, 20, 0), (20, .aload_n 0, 21, 0), (21, .getfield 46, 24, 0), (24, .iload_n 1, 25, 0), (25, .iaload, 26, 0), (26, .ifCond .le 18, 29, 44), (29, .aload_n 0, 30, 0), (30, .getfield 40, 33, 0), (33, .iload 4, 35, 0), (35, .iaload, 36, 0), (36, .iload_n 3, 37, 0), (37, .if_icmp .ne 7, 40, 44), (40, .iconst 1, 41, 0), (41, .goto 4, 44, 45), (44, .iconst 0, 45, 0), (45, .istore 5, 47, 0), (47, .iload 5, 49, 0), (49, .ifCond .eq 17, 52, 66), (52, .aload_n 0, 53, 0), (53, .getfield 43, 56, 0), (56, .iload 4, 58, 0), (58, .dup2, 59, 0), (59, .iaload, 60, 0), (60, .iload_n 2, 61, 0), (61, .iadd, 62, 0), (62, .iastore, 63, 0), (63, .goto 33, 66, 96), (66, .aload_n 0, 67, 0), (67, .getfield 40, 70, 0), (70, .iload 4, 72, 0), (72, .iconst 1, 73, 0), (73, .iadd, 74, 0), (74, .iload_n 3, 75, 0), (75, .iastore, 76, 0), (76, .aload_n 0, 77, 0), (77, .getfield 43, 80, 0), (80, .iload 4, 82, 0), (82, .iconst 1, 83, 0), (83, .iadd, 84, 0), (84, .iload_n 2, 85, 0), (85, .iastore, 86, 0), (86, .aload_n 0, 87, 0), (87, .getfield 46, 90, 0), (90, .iload_n 1, 91, 0), (91, .dup2, 92, 0), (92, .iaload, 93, 0), (93, .iconst 1, 94, 0), (94, .iadd, 95, 0), (95, .iastore, 96, 0), (96, .aload_n 0, 97, 0), (97, .getfield 49, 100, 0), (100, .iload_n 1, 101, 0), (101, .dup2, 102, 0), (102, .iaload, 103, 0), (103, .iload_n 2, 104, 0), (104, .iadd, 105, 0), (105, .iastore, 106, 0), (106, .aload_n 0, 107, 0), (107, .getfield 55, 110, 0), (110, .iload_n 1, 111, 0), (111, .dup2, 112, 0), (112, .iaload, 113, 0), (113, .iload_n 2, 114, 0), (114, .iadd, 115, 0), (115, .iastore, 116, 0), (116, .return_, 117, 0)]
set_option maxRecDepth 100000 in
theorem L222_ok : L222.all (dck 222) = true := by decide +kernel
theorem d222 {j pc nx tg : Nat} {ins : Instr} (hj : L222[j]? = some (pc, ins, nx, tg)) : dcd 222 pc ins nx tg := dcl_ok L222_ok hj
set_option maxRecDepth 100000 in
set_option maxHeartbeats 4000000 in
theorem r222_0 {x1 x2 x3 : Int}  {M : dsMem} {Q : bQT} (s1 : (¬ x2 = 0) → 0 ≤ x1 ∧ x1 < 6 := by intros; omega) (s2 : (¬ x2 = 0) → -2147483648 ≤ (((60 * x1) + (M 95 x1)) - 1) ∧ (((60 * x1) + (M 95 x1)) - 1) < 2147483648 := by intros; omega) (s3 : (¬ x2 = 0) → ((M 95 x1) ≤ 0) → 0 ≤ ((((60 * x1) + (M 95 x1)) - 1) + 1) ∧ ((((60 * x1) + (M 95 x1)) - 1) + 1) < 360 := by intros; omega) (s4 : (¬ x2 = 0) → ((M 95 x1) ≤ 0) → -2147483648 ≤ ((M 95 x1) + 1) ∧ ((M 95 x1) + 1) < 2147483648 := by intros; omega) (s5 : (¬ x2 = 0) → ((M 95 x1) ≤ 0) → -2147483648 ≤ ((M 96 x1) + x2) ∧ ((M 96 x1) + x2) < 2147483648 := by intros; omega) (k1 : (¬ x2 = 0) → ((M 95 x1) ≤ 0) → Q [] (dsSet (dsSet (dsSet (dsSet (dsSet M 93 ((((60 * x1) + (M 95 x1)) - 1) + 1) x3) 94 ((((60 * x1) + (M 95 x1)) - 1) + 1) x2) 95 x1 ((M 95 x1) + 1)) 96 x1 ((M 96 x1) + x2)) 98 x1 (dsw (((M 98 x1) + x2))))) (s6 : (¬ x2 = 0) → (¬ (M 95 x1) ≤ 0) → 0 ≤ (((60 * x1) + (M 95 x1)) - 1) ∧ (((60 * x1) + (M 95 x1)) - 1) < 360 := by intros; omega) (s7 : (¬ x2 = 0) → (¬ (M 95 x1) ≤ 0) → (¬ (M 93 (((60 * x1) + (M 95 x1)) - 1)) = x3) → 0 ≤ ((((60 * x1) + (M 95 x1)) - 1) + 1) ∧ ((((60 * x1) + (M 95 x1)) - 1) + 1) < 360 := by intros; omega) (s8 : (¬ x2 = 0) → (¬ (M 95 x1) ≤ 0) → (¬ (M 93 (((60 * x1) + (M 95 x1)) - 1)) = x3) → -2147483648 ≤ ((M 95 x1) + 1) ∧ ((M 95 x1) + 1) < 2147483648 := by intros; omega) (s9 : (¬ x2 = 0) → (¬ (M 95 x1) ≤ 0) → (¬ (M 93 (((60 * x1) + (M 95 x1)) - 1)) = x3) → -2147483648 ≤ ((M 96 x1) + x2) ∧ ((M 96 x1) + x2) < 2147483648 := by intros; omega) (k2 : (¬ x2 = 0) → (¬ (M 95 x1) ≤ 0) → (¬ (M 93 (((60 * x1) + (M 95 x1)) - 1)) = x3) → Q [] (dsSet (dsSet (dsSet (dsSet (dsSet M 93 ((((60 * x1) + (M 95 x1)) - 1) + 1) x3) 94 ((((60 * x1) + (M 95 x1)) - 1) + 1) x2) 95 x1 ((M 95 x1) + 1)) 96 x1 ((M 96 x1) + x2)) 98 x1 (dsw (((M 98 x1) + x2))))) (s10 : (¬ x2 = 0) → (¬ (M 95 x1) ≤ 0) → ((M 93 (((60 * x1) + (M 95 x1)) - 1)) = x3) → -2147483648 ≤ ((M 94 (((60 * x1) + (M 95 x1)) - 1)) + x2) ∧ ((M 94 (((60 * x1) + (M 95 x1)) - 1)) + x2) < 2147483648 := by intros; omega) (s11 : (¬ x2 = 0) → (¬ (M 95 x1) ≤ 0) → ((M 93 (((60 * x1) + (M 95 x1)) - 1)) = x3) → -2147483648 ≤ ((M 96 x1) + x2) ∧ ((M 96 x1) + x2) < 2147483648 := by intros; omega) (k3 : (¬ x2 = 0) → (¬ (M 95 x1) ≤ 0) → ((M 93 (((60 * x1) + (M 95 x1)) - 1)) = x3) → Q [] (dsSet (dsSet (dsSet M 94 (((60 * x1) + (M 95 x1)) - 1) ((M 94 (((60 * x1) + (M 95 x1)) - 1)) + x2)) 96 x1 ((M 96 x1) + x2)) 98 x1 (dsw (((M 98 x1) + x2))))) (k4 : (x2 = 0) → Q [] M) :
    bB 222 0 [uR 11 84, uI x1, uI x2, uI x3, uX 0, uX 0] [] M Q := by
  refine b_iload_n (d222 (j := 0) rfl) rfl ?_
  refine b_if_ne (d222 (j := 1) rfl) (fun c1 => ?_) (fun c1 => ?_)
  ·
    refine b_bipush (d222 (j := 3) rfl) (by decide) ?_
    refine b_iload_n (d222 (j := 4) rfl) rfl ?_
    refine b_imul (d222 (j := 5) rfl) rfl rfl ?_
    refine b_aload_n (d222 (j := 6) rfl) rfl ?_
    refine b_getR (d222 (j := 7) rfl) rfl rfl rfl rfl ?_
    refine b_stk [uR 21 95, uI (dsw ((60 * x1)))] rfl ?_
    refine b_iload_n (d222 (j := 8) rfl) rfl ?_
    refine b_iaload (d222 (j := 9) rfl) rfl (s1 c1) ?_
    refine b_iadd (d222 (j := 10) rfl) (dsw_dsw _) rfl ?_
    refine b_iconst (d222 (j := 11) rfl) (by decide) ?_
    refine b_isub (d222 (j := 12) rfl) (dsw_dsw _) rfl ?_
    refine b_stk [uI (((60 * x1) + (M 95 x1)) - 1)] (by rw [dsw_r (s2 c1)]) ?_
    refine b_istore [uR 11 84, uI x1, uI x2, uI x3, uI (((60 * x1) + (M 95 x1)) - 1), uX 0] (d222 (j := 13) rfl) (by decide) rfl ?_
    refine b_aload_n (d222 (j := 14) rfl) rfl ?_
    refine b_getR (d222 (j := 15) rfl) rfl rfl rfl rfl ?_
    refine b_stk [uR 21 95] rfl ?_
    refine b_iload_n (d222 (j := 16) rfl) rfl ?_
    refine b_iaload (d222 (j := 17) rfl) rfl (s1 c1) ?_
    refine b_if_le (d222 (j := 18) rfl) (fun c2 => ?_) (fun c2 => ?_)
    ·
      refine b_iconst (d222 (j := 27) rfl) (by decide) ?_
      refine b_istore [uR 11 84, uI x1, uI x2, uI x3, uI (((60 * x1) + (M 95 x1)) - 1), uI 0] (d222 (j := 28) rfl) (by decide) rfl ?_
      refine b_iload (d222 (j := 29) rfl) rfl ?_
      refine b_if_eq (d222 (j := 30) rfl) (fun _ => ?_) (fun q => absurd q (by decide))
      refine b_aload_n (d222 (j := 40) rfl) rfl ?_
      refine b_getR (d222 (j := 41) rfl) rfl rfl rfl rfl ?_
      refine b_stk [uR 42 93] rfl ?_
      refine b_iload (d222 (j := 42) rfl) rfl ?_
      refine b_iconst (d222 (j := 43) rfl) (by decide) ?_
      refine b_iadd (d222 (j := 44) rfl) rfl rfl ?_
      refine b_iload_n (d222 (j := 45) rfl) rfl ?_
      refine b_stk [uI x3, uI ((((60 * x1) + (M 95 x1)) - 1) + 1), uR 42 93] (by rw [dsw_b (s3 c1 c2) (by decide)]) ?_
      refine b_iastore (d222 (j := 46) rfl) rfl (s3 c1 c2) ?_
      refine b_aload_n (d222 (j := 47) rfl) rfl ?_
      refine b_getR (d222 (j := 48) rfl) rfl rfl rfl rfl ?_
      refine b_stk [uR 42 94] rfl ?_
      refine b_iload (d222 (j := 49) rfl) rfl ?_
      refine b_iconst (d222 (j := 50) rfl) (by decide) ?_
      refine b_iadd (d222 (j := 51) rfl) rfl rfl ?_
      refine b_iload_n (d222 (j := 52) rfl) rfl ?_
      refine b_stk [uI x2, uI ((((60 * x1) + (M 95 x1)) - 1) + 1), uR 42 94] (by rw [dsw_b (s3 c1 c2) (by decide)]) ?_
      refine b_iastore (d222 (j := 53) rfl) rfl (s3 c1 c2) ?_
      refine b_aload_n (d222 (j := 54) rfl) rfl ?_
      refine b_getR (d222 (j := 55) rfl) rfl rfl rfl rfl ?_
      refine b_stk [uR 21 95] rfl ?_
      refine b_iload_n (d222 (j := 56) rfl) rfl ?_
      refine b_dup2 (d222 (j := 57) rfl) ?_
      refine b_iaload (d222 (j := 58) rfl) rfl (s1 c1) ?_
      refine b_stk [uI (M 95 x1), uI x1, uR 21 95] (by rw [ds_get_ne (by omega), ds_get_ne (by omega)] <;> rfl) ?_
      refine b_iconst (d222 (j := 59) rfl) (by decide) ?_
      refine b_iadd (d222 (j := 60) rfl) rfl rfl ?_
      refine b_stk [uI ((M 95 x1) + 1), uI x1, uR 21 95] (by rw [dsw_r (s4 c1 c2)]) ?_
      refine b_iastore (d222 (j := 61) rfl) rfl (s1 c1) ?_
      refine b_aload_n (d222 (j := 62) rfl) rfl ?_
      refine b_getR (d222 (j := 63) rfl) rfl rfl rfl rfl ?_
      refine b_stk [uR 21 96] rfl ?_
      refine b_iload_n (d222 (j := 64) rfl) rfl ?_
      refine b_dup2 (d222 (j := 65) rfl) ?_
      refine b_iaload (d222 (j := 66) rfl) rfl (s1 c1) ?_
      refine b_stk [uI (M 96 x1), uI x1, uR 21 96] (by rw [ds_get_ne (by omega), ds_get_ne (by omega), ds_get_ne (by omega)] <;> rfl) ?_
      refine b_iload_n (d222 (j := 67) rfl) rfl ?_
      refine b_iadd (d222 (j := 68) rfl) rfl rfl ?_
      refine b_stk [uI ((M 96 x1) + x2), uI x1, uR 21 96] (by rw [dsw_r (s5 c1 c2)]) ?_
      refine b_iastore (d222 (j := 69) rfl) rfl (s1 c1) ?_
      refine b_aload_n (d222 (j := 70) rfl) rfl ?_
      refine b_getR (d222 (j := 71) rfl) rfl rfl rfl rfl ?_
      refine b_stk [uR 21 98] rfl ?_
      refine b_iload_n (d222 (j := 72) rfl) rfl ?_
      refine b_dup2 (d222 (j := 73) rfl) ?_
      refine b_iaload (d222 (j := 74) rfl) rfl (s1 c1) ?_
      refine b_stk [uI (M 98 x1), uI x1, uR 21 98] (by rw [ds_get_ne (by omega), ds_get_ne (by omega), ds_get_ne (by omega), ds_get_ne (by omega)] <;> rfl) ?_
      refine b_iload_n (d222 (j := 75) rfl) rfl ?_
      refine b_iadd (d222 (j := 76) rfl) rfl rfl ?_
      refine b_iastore (d222 (j := 77) rfl) rfl (s1 c1) ?_
      exact b_vret (d222 (j := 78) rfl) rfl (k1 c1 c2)
    ·
      refine b_aload_n (d222 (j := 19) rfl) rfl ?_
      refine b_getR (d222 (j := 20) rfl) rfl rfl rfl rfl ?_
      refine b_stk [uR 42 93] rfl ?_
      refine b_iload (d222 (j := 21) rfl) rfl ?_
      refine b_iaload (d222 (j := 22) rfl) rfl (s6 c1 c2) ?_
      refine b_iload_n (d222 (j := 23) rfl) rfl ?_
      refine b_icmp_ne (d222 (j := 24) rfl) (fun c4 => ?_) (fun c4 => ?_)
      ·
        refine b_iconst (d222 (j := 27) rfl) (by decide) ?_
        refine b_istore [uR 11 84, uI x1, uI x2, uI x3, uI (((60 * x1) + (M 95 x1)) - 1), uI 0] (d222 (j := 28) rfl) (by decide) rfl ?_
        refine b_iload (d222 (j := 29) rfl) rfl ?_
        refine b_if_eq (d222 (j := 30) rfl) (fun _ => ?_) (fun q => absurd q (by decide))
        refine b_aload_n (d222 (j := 40) rfl) rfl ?_
        refine b_getR (d222 (j := 41) rfl) rfl rfl rfl rfl ?_
        refine b_stk [uR 42 93] rfl ?_
        refine b_iload (d222 (j := 42) rfl) rfl ?_
        refine b_iconst (d222 (j := 43) rfl) (by decide) ?_
        refine b_iadd (d222 (j := 44) rfl) rfl rfl ?_
        refine b_iload_n (d222 (j := 45) rfl) rfl ?_
        refine b_stk [uI x3, uI ((((60 * x1) + (M 95 x1)) - 1) + 1), uR 42 93] (by rw [dsw_b (s7 c1 c2 c4) (by decide)]) ?_
        refine b_iastore (d222 (j := 46) rfl) rfl (s7 c1 c2 c4) ?_
        refine b_aload_n (d222 (j := 47) rfl) rfl ?_
        refine b_getR (d222 (j := 48) rfl) rfl rfl rfl rfl ?_
        refine b_stk [uR 42 94] rfl ?_
        refine b_iload (d222 (j := 49) rfl) rfl ?_
        refine b_iconst (d222 (j := 50) rfl) (by decide) ?_
        refine b_iadd (d222 (j := 51) rfl) rfl rfl ?_
        refine b_iload_n (d222 (j := 52) rfl) rfl ?_
        refine b_stk [uI x2, uI ((((60 * x1) + (M 95 x1)) - 1) + 1), uR 42 94] (by rw [dsw_b (s7 c1 c2 c4) (by decide)]) ?_
        refine b_iastore (d222 (j := 53) rfl) rfl (s7 c1 c2 c4) ?_
        refine b_aload_n (d222 (j := 54) rfl) rfl ?_
        refine b_getR (d222 (j := 55) rfl) rfl rfl rfl rfl ?_
        refine b_stk [uR 21 95] rfl ?_
        refine b_iload_n (d222 (j := 56) rfl) rfl ?_
        refine b_dup2 (d222 (j := 57) rfl) ?_
        refine b_iaload (d222 (j := 58) rfl) rfl (s1 c1) ?_
        refine b_stk [uI (M 95 x1), uI x1, uR 21 95] (by rw [ds_get_ne (by omega), ds_get_ne (by omega)] <;> rfl) ?_
        refine b_iconst (d222 (j := 59) rfl) (by decide) ?_
        refine b_iadd (d222 (j := 60) rfl) rfl rfl ?_
        refine b_stk [uI ((M 95 x1) + 1), uI x1, uR 21 95] (by rw [dsw_r (s8 c1 c2 c4)]) ?_
        refine b_iastore (d222 (j := 61) rfl) rfl (s1 c1) ?_
        refine b_aload_n (d222 (j := 62) rfl) rfl ?_
        refine b_getR (d222 (j := 63) rfl) rfl rfl rfl rfl ?_
        refine b_stk [uR 21 96] rfl ?_
        refine b_iload_n (d222 (j := 64) rfl) rfl ?_
        refine b_dup2 (d222 (j := 65) rfl) ?_
        refine b_iaload (d222 (j := 66) rfl) rfl (s1 c1) ?_
        refine b_stk [uI (M 96 x1), uI x1, uR 21 96] (by rw [ds_get_ne (by omega), ds_get_ne (by omega), ds_get_ne (by omega)] <;> rfl) ?_
        refine b_iload_n (d222 (j := 67) rfl) rfl ?_
        refine b_iadd (d222 (j := 68) rfl) rfl rfl ?_
        refine b_stk [uI ((M 96 x1) + x2), uI x1, uR 21 96] (by rw [dsw_r (s9 c1 c2 c4)]) ?_
        refine b_iastore (d222 (j := 69) rfl) rfl (s1 c1) ?_
        refine b_aload_n (d222 (j := 70) rfl) rfl ?_
        refine b_getR (d222 (j := 71) rfl) rfl rfl rfl rfl ?_
        refine b_stk [uR 21 98] rfl ?_
        refine b_iload_n (d222 (j := 72) rfl) rfl ?_
        refine b_dup2 (d222 (j := 73) rfl) ?_
        refine b_iaload (d222 (j := 74) rfl) rfl (s1 c1) ?_
        refine b_stk [uI (M 98 x1), uI x1, uR 21 98] (by rw [ds_get_ne (by omega), ds_get_ne (by omega), ds_get_ne (by omega), ds_get_ne (by omega)] <;> rfl) ?_
        refine b_iload_n (d222 (j := 75) rfl) rfl ?_
        refine b_iadd (d222 (j := 76) rfl) rfl rfl ?_
        refine b_iastore (d222 (j := 77) rfl) rfl (s1 c1) ?_
        exact b_vret (d222 (j := 78) rfl) rfl (k2 c1 c2 c4)
      ·
        refine b_iconst (d222 (j := 25) rfl) (by decide) ?_
        refine b_goto (d222 (j := 26) rfl) ?_
        refine b_istore [uR 11 84, uI x1, uI x2, uI x3, uI (((60 * x1) + (M 95 x1)) - 1), uI 1] (d222 (j := 28) rfl) (by decide) rfl ?_
        refine b_iload (d222 (j := 29) rfl) rfl ?_
        refine b_if_eq (d222 (j := 30) rfl) (fun q => absurd q (by decide)) (fun _ => ?_)
        refine b_aload_n (d222 (j := 31) rfl) rfl ?_
        refine b_getR (d222 (j := 32) rfl) rfl rfl rfl rfl ?_
        refine b_stk [uR 42 94] rfl ?_
        refine b_iload (d222 (j := 33) rfl) rfl ?_
        refine b_dup2 (d222 (j := 34) rfl) ?_
        refine b_iaload (d222 (j := 35) rfl) rfl (s6 c1 c2) ?_
        refine b_iload_n (d222 (j := 36) rfl) rfl ?_
        refine b_iadd (d222 (j := 37) rfl) rfl rfl ?_
        refine b_stk [uI ((M 94 (((60 * x1) + (M 95 x1)) - 1)) + x2), uI (((60 * x1) + (M 95 x1)) - 1), uR 42 94] (by rw [dsw_r (s10 c1 c2 c4)]) ?_
        refine b_iastore (d222 (j := 38) rfl) rfl (s6 c1 c2) ?_
        refine b_goto (d222 (j := 39) rfl) ?_
        refine b_aload_n (d222 (j := 62) rfl) rfl ?_
        refine b_getR (d222 (j := 63) rfl) rfl rfl rfl rfl ?_
        refine b_stk [uR 21 96] rfl ?_
        refine b_iload_n (d222 (j := 64) rfl) rfl ?_
        refine b_dup2 (d222 (j := 65) rfl) ?_
        refine b_iaload (d222 (j := 66) rfl) rfl (s1 c1) ?_
        refine b_stk [uI (M 96 x1), uI x1, uR 21 96] (by rw [ds_get_ne (by omega)] <;> rfl) ?_
        refine b_iload_n (d222 (j := 67) rfl) rfl ?_
        refine b_iadd (d222 (j := 68) rfl) rfl rfl ?_
        refine b_stk [uI ((M 96 x1) + x2), uI x1, uR 21 96] (by rw [dsw_r (s11 c1 c2 c4)]) ?_
        refine b_iastore (d222 (j := 69) rfl) rfl (s1 c1) ?_
        refine b_aload_n (d222 (j := 70) rfl) rfl ?_
        refine b_getR (d222 (j := 71) rfl) rfl rfl rfl rfl ?_
        refine b_stk [uR 21 98] rfl ?_
        refine b_iload_n (d222 (j := 72) rfl) rfl ?_
        refine b_dup2 (d222 (j := 73) rfl) ?_
        refine b_iaload (d222 (j := 74) rfl) rfl (s1 c1) ?_
        refine b_stk [uI (M 98 x1), uI x1, uR 21 98] (by rw [ds_get_ne (by omega), ds_get_ne (by omega)] <;> rfl) ?_
        refine b_iload_n (d222 (j := 75) rfl) rfl ?_
        refine b_iadd (d222 (j := 76) rfl) rfl rfl ?_
        refine b_iastore (d222 (j := 77) rfl) rfl (s1 c1) ?_
        exact b_vret (d222 (j := 78) rfl) rfl (k3 c1 c2 c4)
  ·
    exact b_vret (d222 (j := 2) rfl) rfl (k4 c1)
def L223 : List (Nat × Instr × Nat × Nat) := [(0, .iload_n 2, 1, 0), (1, .aload_n 0, 2, 0), (2, .getfield 49, 5, 0), (5, .iload_n 1, 6, 0), (6, .iaload, 7, 0), (7, .invokestatic 167, 10, 0), (10, .istore 4, 12, 0), (12, .iload 4, 14, 0), (14, .istore 5, 16, 0), (16, .iconst 0, 17, 0), (17, .istore 6, 19, 0), (19, .iload 4, 21, 0), (21, .ifCond .le 87, 24, 108), (24, .bipush 60, 26, 0), (26, .iload_n 1, 27, 0), (27, .imul, 28, 0), (28, .iload 6, 30, 0), (30, .iadd, 31, 0), (31, .istore 7, 33, 0), (33, .iload 4, 35, 0), (35, .aload_n 0, 36, 0), (36, .getfield 43, 39, 0), (39, .iload 7, 41, 0), (41, .iaload, 42, 0), (42, .invokestatic 167, 45, 0), (45, .istore 8, 47, 0), (47, .iload_n 3, 48, 0), (48, .ifCond .eq 25, 51, 73), (51, .aload_n 0, 52, 0), (52, .getfield 58, 55, 0), (55, .bipush 6, 57, 0), (57, .iload_n 1, 58, 0), (58, .imul, 59, 0), (59, .aload_n 0, 60, 0), (60, .getfield 40, 63, 0), (63, .iload 7, 65, 0), (65, .iaload, 66, 0), (66, .iadd, 67, 0), (67, .dup2, 68, 0), (68, .iaload, 69, 0), (69, .iload 8, 71, 0), (71, .iadd, 72, 0), (72, .iastore, 73, 0), (73, .aload_n 0, 74, 0), (74, .getfield 43, 77, 0), (77, .iload 7, 79, 0), (79, .dup2, 80, 0), (80, .iaload, 81, 0), (81, .iload 8, 83, 0), (83, .isub, 84, 0), (84, .iastore, 85, 0), (85, .iload 4, 87, 0), (87, .iload 8, 89, 0), (89, .isub, 90, 0), (90, .istore 4, 92, 0), (92, .aload_n 0, 93, 0), (93, .getfield 43, 96, 0), (96, .iload 7, 98, 0), (98, .iaload, 99, 0), (99, .ifCond .ne 6, 102, 105), (102, .iinc 6 1, 105, 0), (105, .goto (-86), 108, 19), (108, .iload 6, 110, 0), (110, .istore 7, 112, 0), (112, .iload 7, 114, 0), (114, .aload_n 0, 115, 0), (115, .getfield 46, 118, 0), (118, .iload_n 1, 119, 0), (119, .iaload, 120, 0), (120, .if_icmp .ge 68, 123, 188), (123, .iload 6, 125, 0), (125, .ifCond .le 63, 128, 188), (128, .aload_n 0, 129, 0), (129, .getfield 40, 132, 0), (132, .bipush 60, 134, 0), (134, .iload_n 1, 135, 0), (135, .imul, 136, 0), (136, .iload 7, 138, 0), (138, .iadd, 139, 0), (139, .iload 6, 141, 0), (141, .isub, 142, 0), (142, .aload_n 0, 143, 0), (143, .getfield 40, 146, 0), (146, .bipush 60, 148, 0), (148, .iload_n 1, 149, 0), (149, .imul, 150, 0), (150, .iload 7, 152, 0), (152, .iadd, 153, 0), (153, .iaload, 154, 0), (154, .iastore, 155, 0), (155, .aload_n 0, 156, 0), (156, .getfield 43, 159, 0), (159, .bipush 60, 161, 0), (161, .iload_n 1, 162, 0), (162, .imul, 163, 0), (163, .iload 7, 165, 0), (165, .iadd, 166, 0), (166, .iload 6, 168, 0), (168, .isub, 169, 0), (169, .aload_n 0, 170, 0), (170, .getfield 43, 173, 0), (173, .bipush 60, 175, 0), (175, .iload_n 1, 176, 0), (176, .imul, 177, 0), (177, .iload 7, 179, 0), (179, .iadd, 180, 0), (180, .iaload, 181, 0), (181, .iastore, 182, 0), (182, .iinc 7 1, 185, 0), (185, .goto (-73), 188, 112), (188, .aload_n 0, 189, 0), (189, .getfield 46, 192, 0), (192, .iload_n 1, 193, 0), (193, .dup2, 194, 0), (194, .iaload, 195, 0), (195, .iload 6, 197, 0), (197, .isub, 198, 0), (198, .iastore, 199, 0), (199, .aload_n 0, 200, 0), (200, .getfield 49, 203, 0), (203, .iload_n 1, 204, 0), (204, .dup2, 205, 0), (205, .iaload, 206, 0), (206, .iload 5, 208, 0), (208, .isub, 209, 0), (209, .iastore, 210, 0), (210, .iload 5, 212, 0), (212, .ireturn, 213, 0)]
set_option maxRecDepth 100000 in
theorem L223_ok : L223.all (dck 223) = true := by decide +kernel
theorem d223 {j pc nx tg : Nat} {ins : Instr} (hj : L223[j]? = some (pc, ins, nx, tg)) : dcd 223 pc ins nx tg := dcl_ok L223_ok hj
set_option maxRecDepth 100000 in
set_option maxHeartbeats 4000000 in
theorem r223_0 {x1 x2 x3 : Int}  {M : dsMem} {Q : bQT} (s1 : 0 ≤ x1 ∧ x1 < 6 := by intros; omega) (k1 : bB 223 19 [uR 11 84, uI x1, uX 0, uI x3, uI (if (M 96 x1) < x2 then (M 96 x1) else x2), uI (if (M 96 x1) < x2 then (M 96 x1) else x2), uI 0, uX 0, uX 0] [] M Q) :
    bB 223 0 [uR 11 84, uI x1, uI x2, uI x3, uX 0, uX 0, uX 0, uX 0, uX 0] [] M Q := by
  refine b_iload_n (d223 (j := 0) rfl) rfl ?_
  refine b_aload_n (d223 (j := 1) rfl) rfl ?_
  refine b_getR (d223 (j := 2) rfl) rfl rfl rfl rfl ?_
  refine b_stk [uR 21 96, uI x2] rfl ?_
  refine b_iload_n (d223 (j := 3) rfl) rfl ?_
  refine b_iaload (d223 (j := 4) rfl) rfl s1 ?_
  refine b_min (d223 (j := 5) rfl) rfl ⟨by decide, Nat.le_of_ble_eq_true rfl⟩ ?_
  refine b_istore [uR 11 84, uI x1, uI x2, uI x3, uI (if (M 96 x1) < x2 then (M 96 x1) else x2), uX 0, uX 0, uX 0, uX 0] (d223 (j := 6) rfl) (by decide) rfl ?_
  refine b_iload (d223 (j := 7) rfl) rfl ?_
  refine b_istore [uR 11 84, uI x1, uI x2, uI x3, uI (if (M 96 x1) < x2 then (M 96 x1) else x2), uI (if (M 96 x1) < x2 then (M 96 x1) else x2), uX 0, uX 0, uX 0] (d223 (j := 8) rfl) (by decide) rfl ?_
  refine b_iconst (d223 (j := 9) rfl) (by decide) ?_
  refine b_istore [uR 11 84, uI x1, uI x2, uI x3, uI (if (M 96 x1) < x2 then (M 96 x1) else x2), uI (if (M 96 x1) < x2 then (M 96 x1) else x2), uI 0, uX 0, uX 0] (d223 (j := 10) rfl) (by decide) rfl ?_
  exact bB_le _ (bLe_s (bLe_s (bLe_x (bLe_s (bLe_s (bLe_s (bLe_s (bLe_s (bLe_s bLe_nil))))))))) k1
set_option maxRecDepth 100000 in
set_option maxHeartbeats 4000000 in
theorem r223_19 {x1 x3 x4 x5 x6 : Int}  {M : dsMem} {Q : bQT} (k1 : (x4 ≤ 0) → bB 223 112 [uR 11 84, uI x1, uX 0, uX 0, uX 0, uI x5, uI x6, uI x6, uX 0] [] M Q) (s1 : (¬ x4 ≤ 0) → -2147483648 ≤ ((60 * x1) + x6) ∧ ((60 * x1) + x6) < 2147483648 := by intros; omega) (s2 : (¬ x4 ≤ 0) → 0 ≤ ((60 * x1) + x6) ∧ ((60 * x1) + x6) < 360 := by intros; omega) (s3 : (¬ x4 ≤ 0) → (x3 = 0) → -2147483648 ≤ ((M 94 ((60 * x1) + x6)) - (if (M 94 ((60 * x1) + x6)) < x4 then (M 94 ((60 * x1) + x6)) else x4)) ∧ ((M 94 ((60 * x1) + x6)) - (if (M 94 ((60 * x1) + x6)) < x4 then (M 94 ((60 * x1) + x6)) else x4)) < 2147483648 := by intros; omega) (s4 : (¬ x4 ≤ 0) → (x3 = 0) → -2147483648 ≤ (x4 - (if (M 94 ((60 * x1) + x6)) < x4 then (M 94 ((60 * x1) + x6)) else x4)) ∧ (x4 - (if (M 94 ((60 * x1) + x6)) < x4 then (M 94 ((60 * x1) + x6)) else x4)) < 2147483648 := by intros; omega) (k2 : (¬ x4 ≤ 0) → (x3 = 0) → (¬ ((M 94 ((60 * x1) + x6)) - (if (M 94 ((60 * x1) + x6)) < x4 then (M 94 ((60 * x1) + x6)) else x4)) = 0) → bB 223 19 [uR 11 84, uI x1, uX 0, uI x3, uI (x4 - (if (M 94 ((60 * x1) + x6)) < x4 then (M 94 ((60 * x1) + x6)) else x4)), uI x5, uI x6, uX 0, uX 0] [] (dsSet M 94 ((60 * x1) + x6) ((M 94 ((60 * x1) + x6)) - (if (M 94 ((60 * x1) + x6)) < x4 then (M 94 ((60 * x1) + x6)) else x4))) Q) (s5 : (¬ x4 ≤ 0) → (x3 = 0) → (((M 94 ((60 * x1) + x6)) - (if (M 94 ((60 * x1) + x6)) < x4 then (M 94 ((60 * x1) + x6)) else x4)) = 0) → -2147483648 ≤ x6 + 1 ∧ x6 + 1 < 2147483648 := by intros; omega) (k3 : (¬ x4 ≤ 0) → (x3 = 0) → (((M 94 ((60 * x1) + x6)) - (if (M 94 ((60 * x1) + x6)) < x4 then (M 94 ((60 * x1) + x6)) else x4)) = 0) → bB 223 19 [uR 11 84, uI x1, uX 0, uI x3, uI (x4 - (if (M 94 ((60 * x1) + x6)) < x4 then (M 94 ((60 * x1) + x6)) else x4)), uI x5, uI (x6 + 1), uX 0, uX 0] [] (dsSet M 94 ((60 * x1) + x6) ((M 94 ((60 * x1) + x6)) - (if (M 94 ((60 * x1) + x6)) < x4 then (M 94 ((60 * x1) + x6)) else x4))) Q) (s6 : (¬ x4 ≤ 0) → (¬ x3 = 0) → 0 ≤ ((6 * x1) + (M 93 ((60 * x1) + x6))) ∧ ((6 * x1) + (M 93 ((60 * x1) + x6))) < 36 := by intros; omega) (s7 : (¬ x4 ≤ 0) → (¬ x3 = 0) → -2147483648 ≤ ((M 94 ((60 * x1) + x6)) - (if (M 94 ((60 * x1) + x6)) < x4 then (M 94 ((60 * x1) + x6)) else x4)) ∧ ((M 94 ((60 * x1) + x6)) - (if (M 94 ((60 * x1) + x6)) < x4 then (M 94 ((60 * x1) + x6)) else x4)) < 2147483648 := by intros; omega) (s8 : (¬ x4 ≤ 0) → (¬ x3 = 0) → -2147483648 ≤ (x4 - (if (M 94 ((60 * x1) + x6)) < x4 then (M 94 ((60 * x1) + x6)) else x4)) ∧ (x4 - (if (M 94 ((60 * x1) + x6)) < x4 then (M 94 ((60 * x1) + x6)) else x4)) < 2147483648 := by intros; omega) (k4 : (¬ x4 ≤ 0) → (¬ x3 = 0) → (¬ ((M 94 ((60 * x1) + x6)) - (if (M 94 ((60 * x1) + x6)) < x4 then (M 94 ((60 * x1) + x6)) else x4)) = 0) → bB 223 19 [uR 11 84, uI x1, uX 0, uI x3, uI (x4 - (if (M 94 ((60 * x1) + x6)) < x4 then (M 94 ((60 * x1) + x6)) else x4)), uI x5, uI x6, uX 0, uX 0] [] (dsSet (dsSet M 99 ((6 * x1) + (M 93 ((60 * x1) + x6))) (dsw (((M 99 ((6 * x1) + (M 93 ((60 * x1) + x6)))) + (if (M 94 ((60 * x1) + x6)) < x4 then (M 94 ((60 * x1) + x6)) else x4))))) 94 ((60 * x1) + x6) ((M 94 ((60 * x1) + x6)) - (if (M 94 ((60 * x1) + x6)) < x4 then (M 94 ((60 * x1) + x6)) else x4))) Q) (s9 : (¬ x4 ≤ 0) → (¬ x3 = 0) → (((M 94 ((60 * x1) + x6)) - (if (M 94 ((60 * x1) + x6)) < x4 then (M 94 ((60 * x1) + x6)) else x4)) = 0) → -2147483648 ≤ x6 + 1 ∧ x6 + 1 < 2147483648 := by intros; omega) (k5 : (¬ x4 ≤ 0) → (¬ x3 = 0) → (((M 94 ((60 * x1) + x6)) - (if (M 94 ((60 * x1) + x6)) < x4 then (M 94 ((60 * x1) + x6)) else x4)) = 0) → bB 223 19 [uR 11 84, uI x1, uX 0, uI x3, uI (x4 - (if (M 94 ((60 * x1) + x6)) < x4 then (M 94 ((60 * x1) + x6)) else x4)), uI x5, uI (x6 + 1), uX 0, uX 0] [] (dsSet (dsSet M 99 ((6 * x1) + (M 93 ((60 * x1) + x6))) (dsw (((M 99 ((6 * x1) + (M 93 ((60 * x1) + x6)))) + (if (M 94 ((60 * x1) + x6)) < x4 then (M 94 ((60 * x1) + x6)) else x4))))) 94 ((60 * x1) + x6) ((M 94 ((60 * x1) + x6)) - (if (M 94 ((60 * x1) + x6)) < x4 then (M 94 ((60 * x1) + x6)) else x4))) Q) :
    bB 223 19 [uR 11 84, uI x1, uX 0, uI x3, uI x4, uI x5, uI x6, uX 0, uX 0] [] M Q := by
  refine b_iload (d223 (j := 11) rfl) rfl ?_
  refine b_if_le (d223 (j := 12) rfl) (fun c1 => ?_) (fun c1 => ?_)
  ·
    refine b_iload (d223 (j := 62) rfl) rfl ?_
    refine b_istore [uR 11 84, uI x1, uX 0, uI x3, uI x4, uI x5, uI x6, uI x6, uX 0] (d223 (j := 63) rfl) (by decide) rfl ?_
    exact bB_le _ (bLe_s (bLe_s (bLe_s (bLe_x (bLe_x (bLe_s (bLe_s (bLe_s (bLe_s bLe_nil))))))))) (k1 c1)
  ·
    refine b_bipush (d223 (j := 13) rfl) (by decide) ?_
    refine b_iload_n (d223 (j := 14) rfl) rfl ?_
    refine b_imul (d223 (j := 15) rfl) rfl rfl ?_
    refine b_iload (d223 (j := 16) rfl) rfl ?_
    refine b_iadd (d223 (j := 17) rfl) (dsw_dsw _) rfl ?_
    refine b_stk [uI ((60 * x1) + x6)] (by rw [dsw_r (s1 c1)]) ?_
    refine b_istore [uR 11 84, uI x1, uX 0, uI x3, uI x4, uI x5, uI x6, uI ((60 * x1) + x6), uX 0] (d223 (j := 18) rfl) (by decide) rfl ?_
    refine b_iload (d223 (j := 19) rfl) rfl ?_
    refine b_aload_n (d223 (j := 20) rfl) rfl ?_
    refine b_getR (d223 (j := 21) rfl) rfl rfl rfl rfl ?_
    refine b_stk [uR 42 94, uI x4] rfl ?_
    refine b_iload (d223 (j := 22) rfl) rfl ?_
    refine b_iaload (d223 (j := 23) rfl) rfl (s2 c1) ?_
    refine b_min (d223 (j := 24) rfl) rfl ⟨by decide, Nat.le_of_ble_eq_true rfl⟩ ?_
    refine b_istore [uR 11 84, uI x1, uX 0, uI x3, uI x4, uI x5, uI x6, uI ((60 * x1) + x6), uI (if (M 94 ((60 * x1) + x6)) < x4 then (M 94 ((60 * x1) + x6)) else x4)] (d223 (j := 25) rfl) (by decide) rfl ?_
    refine b_iload_n (d223 (j := 26) rfl) rfl ?_
    refine b_if_eq (d223 (j := 27) rfl) (fun c2 => ?_) (fun c2 => ?_)
    ·
      refine b_aload_n (d223 (j := 43) rfl) rfl ?_
      refine b_getR (d223 (j := 44) rfl) rfl rfl rfl rfl ?_
      refine b_stk [uR 42 94] rfl ?_
      refine b_iload (d223 (j := 45) rfl) rfl ?_
      refine b_dup2 (d223 (j := 46) rfl) ?_
      refine b_iaload (d223 (j := 47) rfl) rfl (s2 c1) ?_
      refine b_iload (d223 (j := 48) rfl) rfl ?_
      refine b_isub (d223 (j := 49) rfl) rfl rfl ?_
      refine b_stk [uI ((M 94 ((60 * x1) + x6)) - (if (M 94 ((60 * x1) + x6)) < x4 then (M 94 ((60 * x1) + x6)) else x4)), uI ((60 * x1) + x6), uR 42 94] (by rw [dsw_r (s3 c1 c2)]) ?_
      refine b_iastore (d223 (j := 50) rfl) rfl (s2 c1) ?_
      refine b_iload (d223 (j := 51) rfl) rfl ?_
      refine b_iload (d223 (j := 52) rfl) rfl ?_
      refine b_isub (d223 (j := 53) rfl) rfl rfl ?_
      refine b_stk [uI (x4 - (if (M 94 ((60 * x1) + x6)) < x4 then (M 94 ((60 * x1) + x6)) else x4))] (by rw [dsw_r (s4 c1 c2)]) ?_
      refine b_istore [uR 11 84, uI x1, uX 0, uI x3, uI (x4 - (if (M 94 ((60 * x1) + x6)) < x4 then (M 94 ((60 * x1) + x6)) else x4)), uI x5, uI x6, uI ((60 * x1) + x6), uI (if (M 94 ((60 * x1) + x6)) < x4 then (M 94 ((60 * x1) + x6)) else x4)] (d223 (j := 54) rfl) (by decide) rfl ?_
      refine b_aload_n (d223 (j := 55) rfl) rfl ?_
      refine b_getR (d223 (j := 56) rfl) rfl rfl rfl rfl ?_
      refine b_stk [uR 42 94] rfl ?_
      refine b_iload (d223 (j := 57) rfl) rfl ?_
      refine b_iaload (d223 (j := 58) rfl) rfl (s2 c1) ?_
      refine b_stk [uI ((M 94 ((60 * x1) + x6)) - (if (M 94 ((60 * x1) + x6)) < x4 then (M 94 ((60 * x1) + x6)) else x4))] (by rw [ds_get_eq] <;> rfl) ?_
      refine b_if_ne (d223 (j := 59) rfl) (fun c3 => ?_) (fun c3 => ?_)
      ·
        refine b_goto (d223 (j := 61) rfl) ?_
        exact bB_le _ (bLe_s (bLe_s (bLe_s (bLe_s (bLe_s (bLe_s (bLe_s (bLe_x (bLe_x bLe_nil))))))))) (k2 c1 c2 c3)
      ·
        refine b_iinc [uR 11 84, uI x1, uX 0, uI x3, uI (x4 - (if (M 94 ((60 * x1) + x6)) < x4 then (M 94 ((60 * x1) + x6)) else x4)), uI x5, uI (x6 + 1), uI ((60 * x1) + x6), uI (if (M 94 ((60 * x1) + x6)) < x4 then (M 94 ((60 * x1) + x6)) else x4)] (d223 (j := 60) rfl) rfl (by decide) (s5 c1 c2 c3) rfl ?_
        refine b_goto (d223 (j := 61) rfl) ?_
        exact bB_le _ (bLe_s (bLe_s (bLe_s (bLe_s (bLe_s (bLe_s (bLe_s (bLe_x (bLe_x bLe_nil))))))))) (k3 c1 c2 c3)
    ·
      refine b_aload_n (d223 (j := 28) rfl) rfl ?_
      refine b_getR (d223 (j := 29) rfl) rfl rfl rfl rfl ?_
      refine b_stk [uR 43 99] rfl ?_
      refine b_bipush (d223 (j := 30) rfl) (by decide) ?_
      refine b_iload_n (d223 (j := 31) rfl) rfl ?_
      refine b_imul (d223 (j := 32) rfl) rfl rfl ?_
      refine b_aload_n (d223 (j := 33) rfl) rfl ?_
      refine b_getR (d223 (j := 34) rfl) rfl rfl rfl rfl ?_
      refine b_stk [uR 42 93, uI (dsw ((6 * x1))), uR 43 99] rfl ?_
      refine b_iload (d223 (j := 35) rfl) rfl ?_
      refine b_iaload (d223 (j := 36) rfl) rfl (s2 c1) ?_
      refine b_iadd (d223 (j := 37) rfl) (dsw_dsw _) rfl ?_
      refine b_stk [uI ((6 * x1) + (M 93 ((60 * x1) + x6))), uR 43 99] (by rw [dsw_b (s6 c1 c2) (by decide)]) ?_
      refine b_dup2 (d223 (j := 38) rfl) ?_
      refine b_iaload (d223 (j := 39) rfl) rfl (s6 c1 c2) ?_
      refine b_iload (d223 (j := 40) rfl) rfl ?_
      refine b_iadd (d223 (j := 41) rfl) rfl rfl ?_
      refine b_iastore (d223 (j := 42) rfl) rfl (s6 c1 c2) ?_
      refine b_aload_n (d223 (j := 43) rfl) rfl ?_
      refine b_getR (d223 (j := 44) rfl) rfl rfl rfl rfl ?_
      refine b_stk [uR 42 94] rfl ?_
      refine b_iload (d223 (j := 45) rfl) rfl ?_
      refine b_dup2 (d223 (j := 46) rfl) ?_
      refine b_iaload (d223 (j := 47) rfl) rfl (s2 c1) ?_
      refine b_stk [uI (M 94 ((60 * x1) + x6)), uI ((60 * x1) + x6), uR 42 94] (by rw [ds_get_ne (by omega)] <;> rfl) ?_
      refine b_iload (d223 (j := 48) rfl) rfl ?_
      refine b_isub (d223 (j := 49) rfl) rfl rfl ?_
      refine b_stk [uI ((M 94 ((60 * x1) + x6)) - (if (M 94 ((60 * x1) + x6)) < x4 then (M 94 ((60 * x1) + x6)) else x4)), uI ((60 * x1) + x6), uR 42 94] (by rw [dsw_r (s7 c1 c2)]) ?_
      refine b_iastore (d223 (j := 50) rfl) rfl (s2 c1) ?_
      refine b_iload (d223 (j := 51) rfl) rfl ?_
      refine b_iload (d223 (j := 52) rfl) rfl ?_
      refine b_isub (d223 (j := 53) rfl) rfl rfl ?_
      refine b_stk [uI (x4 - (if (M 94 ((60 * x1) + x6)) < x4 then (M 94 ((60 * x1) + x6)) else x4))] (by rw [dsw_r (s8 c1 c2)]) ?_
      refine b_istore [uR 11 84, uI x1, uX 0, uI x3, uI (x4 - (if (M 94 ((60 * x1) + x6)) < x4 then (M 94 ((60 * x1) + x6)) else x4)), uI x5, uI x6, uI ((60 * x1) + x6), uI (if (M 94 ((60 * x1) + x6)) < x4 then (M 94 ((60 * x1) + x6)) else x4)] (d223 (j := 54) rfl) (by decide) rfl ?_
      refine b_aload_n (d223 (j := 55) rfl) rfl ?_
      refine b_getR (d223 (j := 56) rfl) rfl rfl rfl rfl ?_
      refine b_stk [uR 42 94] rfl ?_
      refine b_iload (d223 (j := 57) rfl) rfl ?_
      refine b_iaload (d223 (j := 58) rfl) rfl (s2 c1) ?_
      refine b_stk [uI ((M 94 ((60 * x1) + x6)) - (if (M 94 ((60 * x1) + x6)) < x4 then (M 94 ((60 * x1) + x6)) else x4))] (by rw [ds_get_eq] <;> rfl) ?_
      refine b_if_ne (d223 (j := 59) rfl) (fun c4 => ?_) (fun c4 => ?_)
      ·
        refine b_goto (d223 (j := 61) rfl) ?_
        exact bB_le _ (bLe_s (bLe_s (bLe_s (bLe_s (bLe_s (bLe_s (bLe_s (bLe_x (bLe_x bLe_nil))))))))) (k4 c1 c2 c4)
      ·
        refine b_iinc [uR 11 84, uI x1, uX 0, uI x3, uI (x4 - (if (M 94 ((60 * x1) + x6)) < x4 then (M 94 ((60 * x1) + x6)) else x4)), uI x5, uI (x6 + 1), uI ((60 * x1) + x6), uI (if (M 94 ((60 * x1) + x6)) < x4 then (M 94 ((60 * x1) + x6)) else x4)] (d223 (j := 60) rfl) rfl (by decide) (s9 c1 c2 c4) rfl ?_
        refine b_goto (d223 (j := 61) rfl) ?_
        exact bB_le _ (bLe_s (bLe_s (bLe_s (bLe_s (bLe_s (bLe_s (bLe_s (bLe_x (bLe_x bLe_nil))))))))) (k5 c1 c2 c4)
set_option maxRecDepth 100000 in
set_option maxHeartbeats 4000000 in
theorem r223_112 {x1 x5 x6 x7 : Int}  {M : dsMem} {Q : bQT} (s1 : 0 ≤ x1 ∧ x1 < 6 := by intros; omega) (s2 : ((M 95 x1) ≤ x7) → -2147483648 ≤ ((M 95 x1) - x6) ∧ ((M 95 x1) - x6) < 2147483648 := by intros; omega) (s3 : ((M 95 x1) ≤ x7) → -2147483648 ≤ ((M 96 x1) - x5) ∧ ((M 96 x1) - x5) < 2147483648 := by intros; omega) (k1 : ((M 95 x1) ≤ x7) → Q [uI x5] (dsSet (dsSet M 95 x1 ((M 95 x1) - x6)) 96 x1 ((M 96 x1) - x5))) (s4 : (¬ (M 95 x1) ≤ x7) → (x6 ≤ 0) → -2147483648 ≤ ((M 95 x1) - x6) ∧ ((M 95 x1) - x6) < 2147483648 := by intros; omega) (s5 : (¬ (M 95 x1) ≤ x7) → (x6 ≤ 0) → -2147483648 ≤ ((M 96 x1) - x5) ∧ ((M 96 x1) - x5) < 2147483648 := by intros; omega) (k2 : (¬ (M 95 x1) ≤ x7) → (x6 ≤ 0) → Q [uI x5] (dsSet (dsSet M 95 x1 ((M 95 x1) - x6)) 96 x1 ((M 96 x1) - x5))) (s6 : (¬ (M 95 x1) ≤ x7) → (¬ x6 ≤ 0) → 0 ≤ ((60 * x1) + x7) ∧ ((60 * x1) + x7) < 360 := by intros; omega) (s7 : (¬ (M 95 x1) ≤ x7) → (¬ x6 ≤ 0) → 0 ≤ (((60 * x1) + x7) - x6) ∧ (((60 * x1) + x7) - x6) < 360 := by intros; omega) (s8 : (¬ (M 95 x1) ≤ x7) → (¬ x6 ≤ 0) → -2147483648 ≤ x7 + 1 ∧ x7 + 1 < 2147483648 := by intros; omega) (k3 : (¬ (M 95 x1) ≤ x7) → (¬ x6 ≤ 0) → bB 223 112 [uR 11 84, uI x1, uX 0, uX 0, uX 0, uI x5, uI x6, uI (x7 + 1), uX 0] [] (dsSet (dsSet M 93 (((60 * x1) + x7) - x6) (M 93 ((60 * x1) + x7))) 94 (((60 * x1) + x7) - x6) (M 94 ((60 * x1) + x7))) Q) :
    bB 223 112 [uR 11 84, uI x1, uX 0, uX 0, uX 0, uI x5, uI x6, uI x7, uX 0] [] M Q := by
  refine b_iload (d223 (j := 64) rfl) rfl ?_
  refine b_aload_n (d223 (j := 65) rfl) rfl ?_
  refine b_getR (d223 (j := 66) rfl) rfl rfl rfl rfl ?_
  refine b_stk [uR 21 95, uI x7] rfl ?_
  refine b_iload_n (d223 (j := 67) rfl) rfl ?_
  refine b_iaload (d223 (j := 68) rfl) rfl s1 ?_
  refine b_icmp_ge (d223 (j := 69) rfl) (fun c1 => ?_) (fun c1 => ?_)
  ·
    refine b_aload_n (d223 (j := 110) rfl) rfl ?_
    refine b_getR (d223 (j := 111) rfl) rfl rfl rfl rfl ?_
    refine b_stk [uR 21 95] rfl ?_
    refine b_iload_n (d223 (j := 112) rfl) rfl ?_
    refine b_dup2 (d223 (j := 113) rfl) ?_
    refine b_iaload (d223 (j := 114) rfl) rfl s1 ?_
    refine b_iload (d223 (j := 115) rfl) rfl ?_
    refine b_isub (d223 (j := 116) rfl) rfl rfl ?_
    refine b_stk [uI ((M 95 x1) - x6), uI x1, uR 21 95] (by rw [dsw_r (s2 c1)]) ?_
    refine b_iastore (d223 (j := 117) rfl) rfl s1 ?_
    refine b_aload_n (d223 (j := 118) rfl) rfl ?_
    refine b_getR (d223 (j := 119) rfl) rfl rfl rfl rfl ?_
    refine b_stk [uR 21 96] rfl ?_
    refine b_iload_n (d223 (j := 120) rfl) rfl ?_
    refine b_dup2 (d223 (j := 121) rfl) ?_
    refine b_iaload (d223 (j := 122) rfl) rfl s1 ?_
    refine b_stk [uI (M 96 x1), uI x1, uR 21 96] (by rw [ds_get_ne (by omega)] <;> rfl) ?_
    refine b_iload (d223 (j := 123) rfl) rfl ?_
    refine b_isub (d223 (j := 124) rfl) rfl rfl ?_
    refine b_stk [uI ((M 96 x1) - x5), uI x1, uR 21 96] (by rw [dsw_r (s3 c1)]) ?_
    refine b_iastore (d223 (j := 125) rfl) rfl s1 ?_
    refine b_iload (d223 (j := 126) rfl) rfl ?_
    exact b_iret (d223 (j := 127) rfl) rfl (k1 c1)
  ·
    refine b_iload (d223 (j := 70) rfl) rfl ?_
    refine b_if_le (d223 (j := 71) rfl) (fun c2 => ?_) (fun c2 => ?_)
    ·
      refine b_aload_n (d223 (j := 110) rfl) rfl ?_
      refine b_getR (d223 (j := 111) rfl) rfl rfl rfl rfl ?_
      refine b_stk [uR 21 95] rfl ?_
      refine b_iload_n (d223 (j := 112) rfl) rfl ?_
      refine b_dup2 (d223 (j := 113) rfl) ?_
      refine b_iaload (d223 (j := 114) rfl) rfl s1 ?_
      refine b_iload (d223 (j := 115) rfl) rfl ?_
      refine b_isub (d223 (j := 116) rfl) rfl rfl ?_
      refine b_stk [uI ((M 95 x1) - x6), uI x1, uR 21 95] (by rw [dsw_r (s4 c1 c2)]) ?_
      refine b_iastore (d223 (j := 117) rfl) rfl s1 ?_
      refine b_aload_n (d223 (j := 118) rfl) rfl ?_
      refine b_getR (d223 (j := 119) rfl) rfl rfl rfl rfl ?_
      refine b_stk [uR 21 96] rfl ?_
      refine b_iload_n (d223 (j := 120) rfl) rfl ?_
      refine b_dup2 (d223 (j := 121) rfl) ?_
      refine b_iaload (d223 (j := 122) rfl) rfl s1 ?_
      refine b_stk [uI (M 96 x1), uI x1, uR 21 96] (by rw [ds_get_ne (by omega)] <;> rfl) ?_
      refine b_iload (d223 (j := 123) rfl) rfl ?_
      refine b_isub (d223 (j := 124) rfl) rfl rfl ?_
      refine b_stk [uI ((M 96 x1) - x5), uI x1, uR 21 96] (by rw [dsw_r (s5 c1 c2)]) ?_
      refine b_iastore (d223 (j := 125) rfl) rfl s1 ?_
      refine b_iload (d223 (j := 126) rfl) rfl ?_
      exact b_iret (d223 (j := 127) rfl) rfl (k2 c1 c2)
    ·
      refine b_aload_n (d223 (j := 72) rfl) rfl ?_
      refine b_getR (d223 (j := 73) rfl) rfl rfl rfl rfl ?_
      refine b_stk [uR 42 93] rfl ?_
      refine b_bipush (d223 (j := 74) rfl) (by decide) ?_
      refine b_iload_n (d223 (j := 75) rfl) rfl ?_
      refine b_imul (d223 (j := 76) rfl) rfl rfl ?_
      refine b_iload (d223 (j := 77) rfl) rfl ?_
      refine b_iadd (d223 (j := 78) rfl) (dsw_dsw _) rfl ?_
      refine b_iload (d223 (j := 79) rfl) rfl ?_
      refine b_isub (d223 (j := 80) rfl) (dsw_dsw _) rfl ?_
      refine b_aload_n (d223 (j := 81) rfl) rfl ?_
      refine b_getR (d223 (j := 82) rfl) rfl rfl rfl rfl ?_
      refine b_stk [uR 42 93, uI (dsw ((((60 * x1) + x7) - x6))), uR 42 93] rfl ?_
      refine b_bipush (d223 (j := 83) rfl) (by decide) ?_
      refine b_iload_n (d223 (j := 84) rfl) rfl ?_
      refine b_imul (d223 (j := 85) rfl) rfl rfl ?_
      refine b_iload (d223 (j := 86) rfl) rfl ?_
      refine b_iadd (d223 (j := 87) rfl) (dsw_dsw _) rfl ?_
      refine b_stk [uI ((60 * x1) + x7), uR 42 93, uI (dsw ((((60 * x1) + x7) - x6))), uR 42 93] (by rw [dsw_b (s6 c1 c2) (by decide)]) ?_
      refine b_iaload (d223 (j := 88) rfl) rfl (s6 c1 c2) ?_
      refine b_stk [uI (M 93 ((60 * x1) + x7)), uI (((60 * x1) + x7) - x6), uR 42 93] (by rw [dsw_b (s7 c1 c2) (by decide)]) ?_
      refine b_iastore (d223 (j := 89) rfl) rfl (s7 c1 c2) ?_
      refine b_aload_n (d223 (j := 90) rfl) rfl ?_
      refine b_getR (d223 (j := 91) rfl) rfl rfl rfl rfl ?_
      refine b_stk [uR 42 94] rfl ?_
      refine b_bipush (d223 (j := 92) rfl) (by decide) ?_
      refine b_iload_n (d223 (j := 93) rfl) rfl ?_
      refine b_imul (d223 (j := 94) rfl) rfl rfl ?_
      refine b_iload (d223 (j := 95) rfl) rfl ?_
      refine b_iadd (d223 (j := 96) rfl) (dsw_dsw _) rfl ?_
      refine b_iload (d223 (j := 97) rfl) rfl ?_
      refine b_isub (d223 (j := 98) rfl) (dsw_dsw _) rfl ?_
      refine b_aload_n (d223 (j := 99) rfl) rfl ?_
      refine b_getR (d223 (j := 100) rfl) rfl rfl rfl rfl ?_
      refine b_stk [uR 42 94, uI (dsw ((((60 * x1) + x7) - x6))), uR 42 94] rfl ?_
      refine b_bipush (d223 (j := 101) rfl) (by decide) ?_
      refine b_iload_n (d223 (j := 102) rfl) rfl ?_
      refine b_imul (d223 (j := 103) rfl) rfl rfl ?_
      refine b_iload (d223 (j := 104) rfl) rfl ?_
      refine b_iadd (d223 (j := 105) rfl) (dsw_dsw _) rfl ?_
      refine b_stk [uI ((60 * x1) + x7), uR 42 94, uI (dsw ((((60 * x1) + x7) - x6))), uR 42 94] (by rw [dsw_b (s6 c1 c2) (by decide)]) ?_
      refine b_iaload (d223 (j := 106) rfl) rfl (s6 c1 c2) ?_
      refine b_stk [uI (M 94 ((60 * x1) + x7)), uI (dsw ((((60 * x1) + x7) - x6))), uR 42 94] (by rw [ds_get_ne (by omega)] <;> rfl) ?_
      refine b_stk [uI (M 94 ((60 * x1) + x7)), uI (((60 * x1) + x7) - x6), uR 42 94] (by rw [dsw_b (s7 c1 c2) (by decide)]) ?_
      refine b_iastore (d223 (j := 107) rfl) rfl (s7 c1 c2) ?_
      refine b_iinc [uR 11 84, uI x1, uX 0, uX 0, uX 0, uI x5, uI x6, uI (x7 + 1), uX 0] (d223 (j := 108) rfl) rfl (by decide) (s8 c1 c2) rfl ?_
      refine b_goto (d223 (j := 109) rfl) ?_
      exact (k3 c1 c2)
def L225 : List (Nat × Instr × Nat × Nat) := [(0, .aload_n 0, 1, 0), (1, .getfield 64, 4, 0), (4, .aload_n 0, 5, 0), (5, .getfield 307, 8, 0), (8, .dup2, 9, 0), (9, .iaload, 10, 0), (10, .iload_n 1, 11, 0), (11, .iadd, 12, 0), (12, .iastore, 13, 0), (13, .return_, 14, 0)]
set_option maxRecDepth 100000 in
theorem L225_ok : L225.all (dck 225) = true := by decide +kernel
theorem d225 {j pc nx tg : Nat} {ins : Instr} (hj : L225[j]? = some (pc, ins, nx, tg)) : dcd 225 pc ins nx tg := dcl_ok L225_ok hj
set_option maxRecDepth 100000 in
set_option maxHeartbeats 4000000 in
theorem r225_0 {x1 : Int}  {M : dsMem} {Q : bQT} (s1 : 0 ≤ (M 84 34) ∧ (M 84 34) < 12 := by intros; omega) (k1 : Q [] (dsSet M 101 (M 84 34) (dsw (((M 101 (M 84 34)) + x1))))) :
    bB 225 0 [uR 11 84, uI x1] [] M Q := by
  refine b_aload_n (d225 (j := 0) rfl) rfl ?_
  refine b_getR (d225 (j := 1) rfl) rfl rfl rfl rfl ?_
  refine b_stk [uR 28 101] rfl ?_
  refine b_aload_n (d225 (j := 2) rfl) rfl ?_
  refine b_getI (d225 (j := 3) rfl) rfl rfl rfl rfl (Or.inl rfl) ?_
  refine b_stk [uI (M 84 34), uR 28 101] rfl ?_
  refine b_dup2 (d225 (j := 4) rfl) ?_
  refine b_iaload (d225 (j := 5) rfl) rfl s1 ?_
  refine b_iload_n (d225 (j := 6) rfl) rfl ?_
  refine b_iadd (d225 (j := 7) rfl) rfl rfl ?_
  refine b_iastore (d225 (j := 8) rfl) rfl s1 ?_
  exact b_vret (d225 (j := 9) rfl) rfl k1
def L226 : List (Nat × Instr × Nat × Nat) := [(0, .iload_n 2, 1, 0), (1, .aload_n 0, 2, 0), (2, .getfield 34, 5, 0), (5, .iload_n 1, 6, 0), (6, .iaload, 7, 0), (7, .invokestatic 167, 10, 0), (10, .istore 4, 12, 0), (12, .aload_n 0, 13, 0), (13, .iload_n 2, 14, 0), (14, .iload 4, 16, 0), (16, .isub, 17, 0), (17, .invokevirtual 310, 20, 0), (20, .aload_n 0, 21, 0), (21, .aload_n 0, 22, 0), (22, .iload_n 1, 23, 0), (23, .iconst 0, 24, 0), (24, .aload_n 0, 25, 0), (25, .getfield 49, 28, 0), (28, .iload_n 1, 29, 0), (29, .iaload, 30, 0), (30, .iload 4, 32, 0), (32, .iadd, 33, 0), (33, .aload_n 0, 34, 0), (34, .getfield 34, 37, 0), (37, .iload_n 1, 38, 0), (38, .iaload, 39, 0), (39, .isub, 40, 0), (40, .invokestatic 313, 43, 0), (43, .iconst 0, 44, 0), (44, .invokevirtual 316, 47, 0), (47, .invokevirtual 310, 50, 0), (50, .aload_n 0, 51, 0), (51, .iload_n 1, 52, 0), (52, .iload 4, 54, 0), (54, .iload_n 3, 55, 0), (55, .invokevirtual 320, 58, 0), (58, .return_, 59, 0)]
set_option maxRecDepth 100000 in
theorem L226_ok : L226.all (dck 226) = true := by decide +kernel
theorem d226 {j pc nx tg : Nat} {ins : Instr} (hj : L226[j]? = some (pc, ins, nx, tg)) : dcd 226 pc ins nx tg := dcl_ok L226_ok hj
set_option maxRecDepth 100000 in
set_option maxHeartbeats 4000000 in
theorem r226_0 {x1 x2 x3 : Int} {R1 : dsMem → Prop} {R2 : dsMem → dsMem → Prop} {g2 : dsMem → dsMem → Int} {R3 : dsMem → dsMem → dsMem → Prop} {R4 : dsMem → dsMem → dsMem → dsMem → Prop} {M : dsMem} {Q : bQT} (s1 : 0 ≤ x1 ∧ x1 < 6 := by intros; omega) (s2 : -2147483648 ≤ (x2 - (if (M 91 x1) < x2 then (M 91 x1) else x2)) ∧ (x2 - (if (M 91 x1) < x2 then (M 91 x1) else x2)) < 2147483648 := by intros; omega) (hA1 : bCt 225 [uR 11 84, uI (x2 - (if (M 91 x1) < x2 then (M 91 x1) else x2))] M (fun _ => []) R1) (s3 : ∀ M1 : dsMem, R1 M1 → -2147483648 ≤ (((M1 96 x1) + (if (M 91 x1) < x2 then (M 91 x1) else x2)) - (M1 91 x1)) ∧ (((M1 96 x1) + (if (M 91 x1) < x2 then (M 91 x1) else x2)) - (M1 91 x1)) < 2147483648 := by intros; omega) (hA2 : ∀ M1 : dsMem, R1 M1 → bCt 223 [uR 11 84, uI x1, uI (if 0 < (((M1 96 x1) + (if (M 91 x1) < x2 then (M 91 x1) else x2)) - (M1 91 x1)) then (((M1 96 x1) + (if (M 91 x1) < x2 then (M 91 x1) else x2)) - (M1 91 x1)) else 0), uI 0, uX 0, uX 0, uX 0, uX 0, uX 0] M1 (fun M2 => [uI (g2 M1 M2)]) (R2 M1)) (hA3 : ∀ M1 : dsMem, R1 M1 → ∀ M2 : dsMem, R2 M1 M2 → bCt 225 [uR 11 84, uI (g2 M1 M2)] M2 (fun _ => []) (R3 M1 M2)) (hA4 : ∀ M1 : dsMem, R1 M1 → ∀ M2 : dsMem, R2 M1 M2 → ∀ M3 : dsMem, R3 M1 M2 M3 → bCt 222 [uR 11 84, uI x1, uI (if (M 91 x1) < x2 then (M 91 x1) else x2), uI x3, uX 0, uX 0] M3 (fun _ => []) (R4 M1 M2 M3)) (k1 : ∀ M1 : dsMem, R1 M1 → ∀ M2 : dsMem, R2 M1 M2 → ∀ M3 : dsMem, R3 M1 M2 M3 → ∀ M4 : dsMem, R4 M1 M2 M3 M4 → Q [] M4) :
    bB 226 0 [uR 11 84, uI x1, uI x2, uI x3, uX 0] [] M Q := by
  refine b_iload_n (d226 (j := 0) rfl) rfl ?_
  refine b_aload_n (d226 (j := 1) rfl) rfl ?_
  refine b_getR (d226 (j := 2) rfl) rfl rfl rfl rfl ?_
  refine b_stk [uR 21 91, uI x2] rfl ?_
  refine b_iload_n (d226 (j := 3) rfl) rfl ?_
  refine b_iaload (d226 (j := 4) rfl) rfl s1 ?_
  refine b_min (d226 (j := 5) rfl) rfl ⟨by decide, Nat.le_of_ble_eq_true rfl⟩ ?_
  refine b_istore [uR 11 84, uI x1, uI x2, uI x3, uI (if (M 91 x1) < x2 then (M 91 x1) else x2)] (d226 (j := 6) rfl) (by decide) rfl ?_
  refine b_aload_n (d226 (j := 7) rfl) rfl ?_
  refine b_iload_n (d226 (j := 8) rfl) rfl ?_
  refine b_iload (d226 (j := 9) rfl) rfl ?_
  refine b_isub (d226 (j := 10) rfl) rfl rfl ?_
  refine b_stk [uI (x2 - (if (M 91 x1) < x2 then (M 91 x1) else x2)), uR 11 84] (by rw [dsw_r s2]) ?_
  refine b_callV (d226 (j := 11) rfl) rfl rfl (Or.inl rfl) rfl (bCk_mk (n := 0) (k := 2) (by decide +kernel) rfl rfl) ((hA1) _ (fun M1 hR1 => ?_))
  refine b_stk [] rfl ?_
  refine b_aload_n (d226 (j := 12) rfl) rfl ?_
  refine b_aload_n (d226 (j := 13) rfl) rfl ?_
  refine b_iload_n (d226 (j := 14) rfl) rfl ?_
  refine b_iconst (d226 (j := 15) rfl) (by decide) ?_
  refine b_aload_n (d226 (j := 16) rfl) rfl ?_
  refine b_getR (d226 (j := 17) rfl) rfl rfl rfl rfl ?_
  refine b_stk [uR 21 96, uI 0, uI x1, uR 11 84, uR 11 84] rfl ?_
  refine b_iload_n (d226 (j := 18) rfl) rfl ?_
  refine b_iaload (d226 (j := 19) rfl) rfl s1 ?_
  refine b_iload (d226 (j := 20) rfl) rfl ?_
  refine b_iadd (d226 (j := 21) rfl) rfl rfl ?_
  refine b_aload_n (d226 (j := 22) rfl) rfl ?_
  refine b_getR (d226 (j := 23) rfl) rfl rfl rfl rfl ?_
  refine b_stk [uR 21 91, uI (dsw (((M1 96 x1) + (if (M 91 x1) < x2 then (M 91 x1) else x2)))), uI 0, uI x1, uR 11 84, uR 11 84] rfl ?_
  refine b_iload_n (d226 (j := 24) rfl) rfl ?_
  refine b_iaload (d226 (j := 25) rfl) rfl s1 ?_
  refine b_isub (d226 (j := 26) rfl) (dsw_dsw _) rfl ?_
  refine b_stk [uI (((M1 96 x1) + (if (M 91 x1) < x2 then (M 91 x1) else x2)) - (M1 91 x1)), uI 0, uI x1, uR 11 84, uR 11 84] (by rw [dsw_r (s3 M1 hR1)]) ?_
  refine b_max (d226 (j := 27) rfl) rfl ⟨by decide, Nat.le_of_ble_eq_true rfl⟩ ?_
  refine b_iconst (d226 (j := 28) rfl) (by decide) ?_
  refine b_callV (d226 (j := 29) rfl) rfl rfl (Or.inl rfl) rfl (bCk_mk (n := 1) (k := 4) (by decide +kernel) rfl rfl) ((hA2 M1 hR1) _ (fun M2 hR2 => ?_))
  refine b_stk [uI (g2 M1 M2), uR 11 84] rfl ?_
  refine b_callV (d226 (j := 30) rfl) rfl rfl (Or.inl rfl) rfl (bCk_mk (n := 0) (k := 2) (by decide +kernel) rfl rfl) ((hA3 M1 hR1 M2 hR2) _ (fun M3 hR3 => ?_))
  refine b_stk [] rfl ?_
  refine b_aload_n (d226 (j := 31) rfl) rfl ?_
  refine b_iload_n (d226 (j := 32) rfl) rfl ?_
  refine b_iload (d226 (j := 33) rfl) rfl ?_
  refine b_iload_n (d226 (j := 34) rfl) rfl ?_
  refine b_callV (d226 (j := 35) rfl) rfl rfl (Or.inl rfl) rfl (bCk_mk (n := 0) (k := 4) (by decide +kernel) rfl rfl) ((hA4 M1 hR1 M2 hR2 M3 hR3) _ (fun M4 hR4 => ?_))
  refine b_stk [] rfl ?_
  exact b_vret (d226 (j := 36) rfl) rfl (k1 M1 hR1 M2 hR2 M3 hR3 M4 hR4)
def L227 : List (Nat × Instr × Nat × Nat) := [(0, .iload_n 1, 1, 0), (1, .istore 4, 3, 0), (3, .iload_n 2, 4, 0), (4, .istore 5, 6, 0), (6, .iload 5, 8, 0), (8, .ifCond .le 154, 11, 162), (11, .iload 4, 13, 0), (13, .iconst (-1), 14, 0), (14, .if_icmp .eq 148, 17, 162), (17, .aload_n 0, 18, 0), (18, .iload 4, 20, 0), (20, .invokevirtual 324, 23, 0), (23, .ifCond .ne 139, 26, 162), (26, .aload_n 0, 27, 0), (27, .getfield 289, 30, 0), (30, .iload 4, 32, 0), (32, .invokestatic 304, 35, 0), (35, .ifCond .ne 6, 38, 41), (38, .goto 124, 41, 162), (41, .aload_n 0, 42, 0), (42, .getfield 292, 45, 0), (45, .iload 4, 47, 0), (47, .invokestatic 304, 50, 0), (50, .iconst 1, 51, 0), (51, .if_icmp .ne 7, 54, 58), (54, .iconst 1, 55, 0), (55, .goto 4, 58, 59), (58, .iconst 0, 59, 0), (59, .istore 6, 61, 0), (61, .aload_n 0, 62, 0), (62, .getfield 277, 65, 0), (65, .iconst 3, 66, 0), (66, .if_icmp .ne 18, 69, 84), (69, .iload 6, 71, 0), (71, .ifCond .ne 13, 74, 84), (74, .aload_n 0, 75, 0), (75, .iload 4, 77, 0), (77, .iload 5, 79, 0), (79, .iload_n 3, 80, 0), (80, .invokevirtual 328, 83, 0), (83, .return_, 84, 0), (84, .iload 6, 86, 0), (86, .ifCond .eq 7, 89, 93), (89, .iconst 0, 90, 0), (90, .goto 23, 93, 113), (93, .iload 5, 95, 0), (95, .aload_n 0, 96, 0), (96, .getfield 34, 99, 0), (99, .iload 4, 101, 0), (101, .iaload, 102, 0), (102, .aload_n 0, 103, 0), (103, .getfield 49, 106, 0), (106, .iload 4, 108, 0), (108, .iaload, 109, 0), (109, .isub, 110, 0), (110, .invokestatic 167, 113, 0), (113, .istore 7, 115, 0), (115, .aload_n 0, 116, 0), (116, .iload 4, 118, 0), (118, .iload 7, 120, 0), (120, .iload_n 3, 121, 0), (121, .invokevirtual 320, 124, 0), (124, .iload 5, 126, 0), (126, .iload 7, 128, 0), (128, .isub, 129, 0), (129, .istore 5, 131, 0), (131, .aload_n 0, 132, 0), (132, .getfield 277, 135, 0), (135, .iconst 1, 136, 0), (136, .if_icmp .eq 11, 139, 147), (139, .aload_n 0, 140, 0), (140, .getfield 277, 143, 0), (143, .iconst 2, 144, 0), (144, .if_icmp .ne 12, 147, 156), (147, .aload_n 0, 148, 0), (148, .iload 4, 150, 0), (150, .invokevirtual 331, 153, 0), (153, .goto 4, 156, 157), (156, .iconst (-1), 157, 0), (157, .istore 4, 159, 0), (159, .goto (-153), 162, 6), (162, .aload_n 0, 163, 0), (163, .iload 5, 165, 0), (165, .invokevirtual 310, 168, 0), (168, .return_, 169, 0)]
set_option maxRecDepth 100000 in
theorem L227_ok : L227.all (dck 227) = true := by decide +kernel
theorem d227 {j pc nx tg : Nat} {ins : Instr} (hj : L227[j]? = some (pc, ins, nx, tg)) : dcd 227 pc ins nx tg := dcl_ok L227_ok hj
set_option maxRecDepth 100000 in
set_option maxHeartbeats 4000000 in
theorem r227_0 {x1 x2 x3 : Int}  {M : dsMem} {Q : bQT} (k1 : bB 227 6 [uR 11 84, uX 0, uX 0, uI x3, uI x1, uI x2, uX 0, uX 0] [] M Q) :
    bB 227 0 [uR 11 84, uI x1, uI x2, uI x3, uX 0, uX 0, uX 0, uX 0] [] M Q := by
  refine b_iload_n (d227 (j := 0) rfl) rfl ?_
  refine b_istore [uR 11 84, uI x1, uI x2, uI x3, uI x1, uX 0, uX 0, uX 0] (d227 (j := 1) rfl) (by decide) rfl ?_
  refine b_iload_n (d227 (j := 2) rfl) rfl ?_
  refine b_istore [uR 11 84, uI x1, uI x2, uI x3, uI x1, uI x2, uX 0, uX 0] (d227 (j := 3) rfl) (by decide) rfl ?_
  exact bB_le _ (bLe_s (bLe_x (bLe_x (bLe_s (bLe_s (bLe_s (bLe_s (bLe_s bLe_nil)))))))) k1
set_option maxRecDepth 100000 in
set_option maxHeartbeats 4000000 in
theorem r227_6 {x3 x4 x5 : Int} {R1 : dsMem → Prop} {R2 : dsMem → Prop} {R3 : dsMem → Prop} {R4 : dsMem → Prop} {R5 : dsMem → Prop} {R6 : dsMem → Prop} {R7 : dsMem → Prop} {R8 : dsMem → Prop} {M : dsMem} {Q : bQT} (hA1 : (x5 ≤ 0) → bCt 225 [uR 11 84, uI x5] M (fun _ => []) R1) (k1 : (x5 ≤ 0) → ∀ M1 : dsMem, R1 M1 → Q [] M1) (hA2 : (¬ x5 ≤ 0) → (x4 = -1) → bCt 225 [uR 11 84, uI x5] M (fun _ => []) R2) (k2 : (¬ x5 ≤ 0) → (x4 = -1) → ∀ M2 : dsMem, R2 M2 → Q [] M2) (s1 : (¬ x5 ≤ 0) → (¬ x4 = -1) → 0 ≤ ((15 + (3 * x4)) + 2) ∧ ((15 + (3 * x4)) + 2) < 105 := by intros; omega) (hA3 : (¬ x5 ≤ 0) → (¬ x4 = -1) → ((dsAnd (dsShr (M 84 33) (M 85 ((15 + (3 * x4)) + 2))) 1 = 0)) → bCt 225 [uR 11 84, uI x5] M (fun _ => []) R3) (k3 : (¬ x5 ≤ 0) → (¬ x4 = -1) → ((dsAnd (dsShr (M 84 33) (M 85 ((15 + (3 * x4)) + 2))) 1 = 0)) → ∀ M3 : dsMem, R3 M3 → Q [] M3) (s2 : (¬ x5 ≤ 0) → (¬ x4 = -1) → (¬ (dsAnd (dsShr (M 84 33) (M 85 ((15 + (3 * x4)) + 2))) 1 = 0)) → (¬ (dsAnd (dsShr (M 84 20) x4) 1) = 0) → (¬ (dsAnd (dsShr (M 84 21) x4) 1) = 1) → (¬ (M 84 17) = 3) → 0 ≤ x4 ∧ x4 < 6 := by intros; omega) (s3 : (¬ x5 ≤ 0) → (¬ x4 = -1) → (¬ (dsAnd (dsShr (M 84 33) (M 85 ((15 + (3 * x4)) + 2))) 1 = 0)) → (¬ (dsAnd (dsShr (M 84 20) x4) 1) = 0) → (¬ (dsAnd (dsShr (M 84 21) x4) 1) = 1) → (¬ (M 84 17) = 3) → -2147483648 ≤ ((M 91 x4) - (M 96 x4)) ∧ ((M 91 x4) - (M 96 x4)) < 2147483648 := by intros; omega) (hA4 : (¬ x5 ≤ 0) → (¬ x4 = -1) → (¬ (dsAnd (dsShr (M 84 33) (M 85 ((15 + (3 * x4)) + 2))) 1 = 0)) → (¬ (dsAnd (dsShr (M 84 20) x4) 1) = 0) → (¬ (dsAnd (dsShr (M 84 21) x4) 1) = 1) → (¬ (M 84 17) = 3) → bCt 222 [uR 11 84, uI x4, uI (if ((M 91 x4) - (M 96 x4)) < x5 then ((M 91 x4) - (M 96 x4)) else x5), uI x3, uX 0, uX 0] M (fun _ => []) R4) (s4 : (¬ x5 ≤ 0) → (¬ x4 = -1) → (¬ (dsAnd (dsShr (M 84 33) (M 85 ((15 + (3 * x4)) + 2))) 1 = 0)) → (¬ (dsAnd (dsShr (M 84 20) x4) 1) = 0) → (¬ (dsAnd (dsShr (M 84 21) x4) 1) = 1) → (¬ (M 84 17) = 3) → ∀ M4 : dsMem, R4 M4 → -2147483648 ≤ (x5 - (if ((M 91 x4) - (M 96 x4)) < x5 then ((M 91 x4) - (M 96 x4)) else x5)) ∧ (x5 - (if ((M 91 x4) - (M 96 x4)) < x5 then ((M 91 x4) - (M 96 x4)) else x5)) < 2147483648 := by intros; omega) (s5 : (¬ x5 ≤ 0) → (¬ x4 = -1) → (¬ (dsAnd (dsShr (M 84 33) (M 85 ((15 + (3 * x4)) + 2))) 1 = 0)) → (¬ (dsAnd (dsShr (M 84 20) x4) 1) = 0) → (¬ (dsAnd (dsShr (M 84 21) x4) 1) = 1) → (¬ (M 84 17) = 3) → ∀ M4 : dsMem, R4 M4 → ((M4 84 17) = 1) → -2147483648 ≤ (x4 + 1) ∧ (x4 + 1) < 2147483648 := by intros; omega) (s6 : (¬ x5 ≤ 0) → (¬ x4 = -1) → (¬ (dsAnd (dsShr (M 84 33) (M 85 ((15 + (3 * x4)) + 2))) 1 = 0)) → (¬ (dsAnd (dsShr (M 84 20) x4) 1) = 0) → (¬ (dsAnd (dsShr (M 84 21) x4) 1) = 1) → (¬ (M 84 17) = 3) → ∀ M4 : dsMem, R4 M4 → ((M4 84 17) = 1) → ∀ i224_1 : Int, (x4 + 1) ≤ i224_1 → i224_1 < (M4 85 4) → (¬ (M4 84 17) = 2) → 0 ≤ ((15 + (3 * i224_1)) + 2) ∧ ((15 + (3 * i224_1)) + 2) < 105 := by intros; omega) (s7 : (¬ x5 ≤ 0) → (¬ x4 = -1) → (¬ (dsAnd (dsShr (M 84 33) (M 85 ((15 + (3 * x4)) + 2))) 1 = 0)) → (¬ (dsAnd (dsShr (M 84 20) x4) 1) = 0) → (¬ (dsAnd (dsShr (M 84 21) x4) 1) = 1) → (¬ (M 84 17) = 3) → ∀ M4 : dsMem, R4 M4 → ((M4 84 17) = 1) → ∀ i224_1 : Int, (x4 + 1) ≤ i224_1 → i224_1 < (M4 85 4) → (¬ (M4 84 17) = 2) → 0 ≤ ((15 + (3 * x4)) + 2) ∧ ((15 + (3 * x4)) + 2) < 105 := by intros; omega) (s8 : (¬ x5 ≤ 0) → (¬ x4 = -1) → (¬ (dsAnd (dsShr (M 84 33) (M 85 ((15 + (3 * x4)) + 2))) 1 = 0)) → (¬ (dsAnd (dsShr (M 84 20) x4) 1) = 0) → (¬ (dsAnd (dsShr (M 84 21) x4) 1) = 1) → (¬ (M 84 17) = 3) → ∀ M4 : dsMem, R4 M4 → ((M4 84 17) = 1) → ∀ i224_1 : Int, (x4 + 1) ≤ i224_1 → i224_1 < (M4 85 4) → -2147483648 ≤ i224_1 + 1 ∧ i224_1 + 1 < 2147483648 := by intros; omega) (k4 : (¬ x5 ≤ 0) → (¬ x4 = -1) → (¬ (dsAnd (dsShr (M 84 33) (M 85 ((15 + (3 * x4)) + 2))) 1 = 0)) → (¬ (dsAnd (dsShr (M 84 20) x4) 1) = 0) → (¬ (dsAnd (dsShr (M 84 21) x4) 1) = 1) → (¬ (M 84 17) = 3) → ∀ M4 : dsMem, R4 M4 → ((M4 84 17) = 1) → bB 227 6 [uR 11 84, uX 0, uX 0, uI x3, uI (v224 M4 x4), uI (x5 - (if ((M 91 x4) - (M 96 x4)) < x5 then ((M 91 x4) - (M 96 x4)) else x5)), uX 0, uX 0] [] M4 Q) (k5 : (¬ x5 ≤ 0) → (¬ x4 = -1) → (¬ (dsAnd (dsShr (M 84 33) (M 85 ((15 + (3 * x4)) + 2))) 1 = 0)) → (¬ (dsAnd (dsShr (M 84 20) x4) 1) = 0) → (¬ (dsAnd (dsShr (M 84 21) x4) 1) = 1) → (¬ (M 84 17) = 3) → ∀ M4 : dsMem, R4 M4 → (¬ (M4 84 17) = 1) → (¬ (M4 84 17) = 2) → bB 227 6 [uR 11 84, uX 0, uX 0, uI x3, uI (-1), uI (x5 - (if ((M 91 x4) - (M 96 x4)) < x5 then ((M 91 x4) - (M 96 x4)) else x5)), uX 0, uX 0] [] M4 Q) (s9 : (¬ x5 ≤ 0) → (¬ x4 = -1) → (¬ (dsAnd (dsShr (M 84 33) (M 85 ((15 + (3 * x4)) + 2))) 1 = 0)) → (¬ (dsAnd (dsShr (M 84 20) x4) 1) = 0) → (¬ (dsAnd (dsShr (M 84 21) x4) 1) = 1) → (¬ (M 84 17) = 3) → ∀ M4 : dsMem, R4 M4 → (¬ (M4 84 17) = 1) → ((M4 84 17) = 2) → -2147483648 ≤ (x4 + 1) ∧ (x4 + 1) < 2147483648 := by intros; omega) (s10 : (¬ x5 ≤ 0) → (¬ x4 = -1) → (¬ (dsAnd (dsShr (M 84 33) (M 85 ((15 + (3 * x4)) + 2))) 1 = 0)) → (¬ (dsAnd (dsShr (M 84 20) x4) 1) = 0) → (¬ (dsAnd (dsShr (M 84 21) x4) 1) = 1) → (¬ (M 84 17) = 3) → ∀ M4 : dsMem, R4 M4 → (¬ (M4 84 17) = 1) → ((M4 84 17) = 2) → ∀ i224_1 : Int, (x4 + 1) ≤ i224_1 → i224_1 < (M4 85 4) → (¬ (M4 84 17) = 2) → 0 ≤ ((15 + (3 * i224_1)) + 2) ∧ ((15 + (3 * i224_1)) + 2) < 105 := by intros; omega) (s11 : (¬ x5 ≤ 0) → (¬ x4 = -1) → (¬ (dsAnd (dsShr (M 84 33) (M 85 ((15 + (3 * x4)) + 2))) 1 = 0)) → (¬ (dsAnd (dsShr (M 84 20) x4) 1) = 0) → (¬ (dsAnd (dsShr (M 84 21) x4) 1) = 1) → (¬ (M 84 17) = 3) → ∀ M4 : dsMem, R4 M4 → (¬ (M4 84 17) = 1) → ((M4 84 17) = 2) → ∀ i224_1 : Int, (x4 + 1) ≤ i224_1 → i224_1 < (M4 85 4) → (¬ (M4 84 17) = 2) → 0 ≤ ((15 + (3 * x4)) + 2) ∧ ((15 + (3 * x4)) + 2) < 105 := by intros; omega) (s12 : (¬ x5 ≤ 0) → (¬ x4 = -1) → (¬ (dsAnd (dsShr (M 84 33) (M 85 ((15 + (3 * x4)) + 2))) 1 = 0)) → (¬ (dsAnd (dsShr (M 84 20) x4) 1) = 0) → (¬ (dsAnd (dsShr (M 84 21) x4) 1) = 1) → (¬ (M 84 17) = 3) → ∀ M4 : dsMem, R4 M4 → (¬ (M4 84 17) = 1) → ((M4 84 17) = 2) → ∀ i224_1 : Int, (x4 + 1) ≤ i224_1 → i224_1 < (M4 85 4) → -2147483648 ≤ i224_1 + 1 ∧ i224_1 + 1 < 2147483648 := by intros; omega) (k6 : (¬ x5 ≤ 0) → (¬ x4 = -1) → (¬ (dsAnd (dsShr (M 84 33) (M 85 ((15 + (3 * x4)) + 2))) 1 = 0)) → (¬ (dsAnd (dsShr (M 84 20) x4) 1) = 0) → (¬ (dsAnd (dsShr (M 84 21) x4) 1) = 1) → (¬ (M 84 17) = 3) → ∀ M4 : dsMem, R4 M4 → (¬ (M4 84 17) = 1) → ((M4 84 17) = 2) → bB 227 6 [uR 11 84, uX 0, uX 0, uI x3, uI (v224 M4 x4), uI (x5 - (if ((M 91 x4) - (M 96 x4)) < x5 then ((M 91 x4) - (M 96 x4)) else x5)), uX 0, uX 0] [] M4 Q) (hA5 : (¬ x5 ≤ 0) → (¬ x4 = -1) → (¬ (dsAnd (dsShr (M 84 33) (M 85 ((15 + (3 * x4)) + 2))) 1 = 0)) → (¬ (dsAnd (dsShr (M 84 20) x4) 1) = 0) → (¬ (dsAnd (dsShr (M 84 21) x4) 1) = 1) → ((M 84 17) = 3) → bCt 226 [uR 11 84, uI x4, uI x5, uI x3, uX 0] M (fun _ => []) R5) (k7 : (¬ x5 ≤ 0) → (¬ x4 = -1) → (¬ (dsAnd (dsShr (M 84 33) (M 85 ((15 + (3 * x4)) + 2))) 1 = 0)) → (¬ (dsAnd (dsShr (M 84 20) x4) 1) = 0) → (¬ (dsAnd (dsShr (M 84 21) x4) 1) = 1) → ((M 84 17) = 3) → ∀ M5 : dsMem, R5 M5 → Q [] M5) (hA6 : (¬ x5 ≤ 0) → (¬ x4 = -1) → (¬ (dsAnd (dsShr (M 84 33) (M 85 ((15 + (3 * x4)) + 2))) 1 = 0)) → (¬ (dsAnd (dsShr (M 84 20) x4) 1) = 0) → ((dsAnd (dsShr (M 84 21) x4) 1) = 1) → (¬ (M 84 17) = 3) → bCt 222 [uR 11 84, uI x4, uI 0, uI x3, uX 0, uX 0] M (fun _ => []) R6) (s13 : (¬ x5 ≤ 0) → (¬ x4 = -1) → (¬ (dsAnd (dsShr (M 84 33) (M 85 ((15 + (3 * x4)) + 2))) 1 = 0)) → (¬ (dsAnd (dsShr (M 84 20) x4) 1) = 0) → ((dsAnd (dsShr (M 84 21) x4) 1) = 1) → (¬ (M 84 17) = 3) → ∀ M6 : dsMem, R6 M6 → -2147483648 ≤ (x5 - 0) ∧ (x5 - 0) < 2147483648 := by intros; omega) (s14 : (¬ x5 ≤ 0) → (¬ x4 = -1) → (¬ (dsAnd (dsShr (M 84 33) (M 85 ((15 + (3 * x4)) + 2))) 1 = 0)) → (¬ (dsAnd (dsShr (M 84 20) x4) 1) = 0) → ((dsAnd (dsShr (M 84 21) x4) 1) = 1) → (¬ (M 84 17) = 3) → ∀ M6 : dsMem, R6 M6 → ((M6 84 17) = 1) → -2147483648 ≤ (x4 + 1) ∧ (x4 + 1) < 2147483648 := by intros; omega) (s15 : (¬ x5 ≤ 0) → (¬ x4 = -1) → (¬ (dsAnd (dsShr (M 84 33) (M 85 ((15 + (3 * x4)) + 2))) 1 = 0)) → (¬ (dsAnd (dsShr (M 84 20) x4) 1) = 0) → ((dsAnd (dsShr (M 84 21) x4) 1) = 1) → (¬ (M 84 17) = 3) → ∀ M6 : dsMem, R6 M6 → ((M6 84 17) = 1) → ∀ i224_1 : Int, (x4 + 1) ≤ i224_1 → i224_1 < (M6 85 4) → (¬ (M6 84 17) = 2) → 0 ≤ ((15 + (3 * i224_1)) + 2) ∧ ((15 + (3 * i224_1)) + 2) < 105 := by intros; omega) (s16 : (¬ x5 ≤ 0) → (¬ x4 = -1) → (¬ (dsAnd (dsShr (M 84 33) (M 85 ((15 + (3 * x4)) + 2))) 1 = 0)) → (¬ (dsAnd (dsShr (M 84 20) x4) 1) = 0) → ((dsAnd (dsShr (M 84 21) x4) 1) = 1) → (¬ (M 84 17) = 3) → ∀ M6 : dsMem, R6 M6 → ((M6 84 17) = 1) → ∀ i224_1 : Int, (x4 + 1) ≤ i224_1 → i224_1 < (M6 85 4) → (¬ (M6 84 17) = 2) → 0 ≤ ((15 + (3 * x4)) + 2) ∧ ((15 + (3 * x4)) + 2) < 105 := by intros; omega) (s17 : (¬ x5 ≤ 0) → (¬ x4 = -1) → (¬ (dsAnd (dsShr (M 84 33) (M 85 ((15 + (3 * x4)) + 2))) 1 = 0)) → (¬ (dsAnd (dsShr (M 84 20) x4) 1) = 0) → ((dsAnd (dsShr (M 84 21) x4) 1) = 1) → (¬ (M 84 17) = 3) → ∀ M6 : dsMem, R6 M6 → ((M6 84 17) = 1) → ∀ i224_1 : Int, (x4 + 1) ≤ i224_1 → i224_1 < (M6 85 4) → -2147483648 ≤ i224_1 + 1 ∧ i224_1 + 1 < 2147483648 := by intros; omega) (k8 : (¬ x5 ≤ 0) → (¬ x4 = -1) → (¬ (dsAnd (dsShr (M 84 33) (M 85 ((15 + (3 * x4)) + 2))) 1 = 0)) → (¬ (dsAnd (dsShr (M 84 20) x4) 1) = 0) → ((dsAnd (dsShr (M 84 21) x4) 1) = 1) → (¬ (M 84 17) = 3) → ∀ M6 : dsMem, R6 M6 → ((M6 84 17) = 1) → bB 227 6 [uR 11 84, uX 0, uX 0, uI x3, uI (v224 M6 x4), uI (x5 - 0), uX 0, uX 0] [] M6 Q) (k9 : (¬ x5 ≤ 0) → (¬ x4 = -1) → (¬ (dsAnd (dsShr (M 84 33) (M 85 ((15 + (3 * x4)) + 2))) 1 = 0)) → (¬ (dsAnd (dsShr (M 84 20) x4) 1) = 0) → ((dsAnd (dsShr (M 84 21) x4) 1) = 1) → (¬ (M 84 17) = 3) → ∀ M6 : dsMem, R6 M6 → (¬ (M6 84 17) = 1) → (¬ (M6 84 17) = 2) → bB 227 6 [uR 11 84, uX 0, uX 0, uI x3, uI (-1), uI (x5 - 0), uX 0, uX 0] [] M6 Q) (s18 : (¬ x5 ≤ 0) → (¬ x4 = -1) → (¬ (dsAnd (dsShr (M 84 33) (M 85 ((15 + (3 * x4)) + 2))) 1 = 0)) → (¬ (dsAnd (dsShr (M 84 20) x4) 1) = 0) → ((dsAnd (dsShr (M 84 21) x4) 1) = 1) → (¬ (M 84 17) = 3) → ∀ M6 : dsMem, R6 M6 → (¬ (M6 84 17) = 1) → ((M6 84 17) = 2) → -2147483648 ≤ (x4 + 1) ∧ (x4 + 1) < 2147483648 := by intros; omega) (s19 : (¬ x5 ≤ 0) → (¬ x4 = -1) → (¬ (dsAnd (dsShr (M 84 33) (M 85 ((15 + (3 * x4)) + 2))) 1 = 0)) → (¬ (dsAnd (dsShr (M 84 20) x4) 1) = 0) → ((dsAnd (dsShr (M 84 21) x4) 1) = 1) → (¬ (M 84 17) = 3) → ∀ M6 : dsMem, R6 M6 → (¬ (M6 84 17) = 1) → ((M6 84 17) = 2) → ∀ i224_1 : Int, (x4 + 1) ≤ i224_1 → i224_1 < (M6 85 4) → (¬ (M6 84 17) = 2) → 0 ≤ ((15 + (3 * i224_1)) + 2) ∧ ((15 + (3 * i224_1)) + 2) < 105 := by intros; omega) (s20 : (¬ x5 ≤ 0) → (¬ x4 = -1) → (¬ (dsAnd (dsShr (M 84 33) (M 85 ((15 + (3 * x4)) + 2))) 1 = 0)) → (¬ (dsAnd (dsShr (M 84 20) x4) 1) = 0) → ((dsAnd (dsShr (M 84 21) x4) 1) = 1) → (¬ (M 84 17) = 3) → ∀ M6 : dsMem, R6 M6 → (¬ (M6 84 17) = 1) → ((M6 84 17) = 2) → ∀ i224_1 : Int, (x4 + 1) ≤ i224_1 → i224_1 < (M6 85 4) → (¬ (M6 84 17) = 2) → 0 ≤ ((15 + (3 * x4)) + 2) ∧ ((15 + (3 * x4)) + 2) < 105 := by intros; omega) (s21 : (¬ x5 ≤ 0) → (¬ x4 = -1) → (¬ (dsAnd (dsShr (M 84 33) (M 85 ((15 + (3 * x4)) + 2))) 1 = 0)) → (¬ (dsAnd (dsShr (M 84 20) x4) 1) = 0) → ((dsAnd (dsShr (M 84 21) x4) 1) = 1) → (¬ (M 84 17) = 3) → ∀ M6 : dsMem, R6 M6 → (¬ (M6 84 17) = 1) → ((M6 84 17) = 2) → ∀ i224_1 : Int, (x4 + 1) ≤ i224_1 → i224_1 < (M6 85 4) → -2147483648 ≤ i224_1 + 1 ∧ i224_1 + 1 < 2147483648 := by intros; omega) (k10 : (¬ x5 ≤ 0) → (¬ x4 = -1) → (¬ (dsAnd (dsShr (M 84 33) (M 85 ((15 + (3 * x4)) + 2))) 1 = 0)) → (¬ (dsAnd (dsShr (M 84 20) x4) 1) = 0) → ((dsAnd (dsShr (M 84 21) x4) 1) = 1) → (¬ (M 84 17) = 3) → ∀ M6 : dsMem, R6 M6 → (¬ (M6 84 17) = 1) → ((M6 84 17) = 2) → bB 227 6 [uR 11 84, uX 0, uX 0, uI x3, uI (v224 M6 x4), uI (x5 - 0), uX 0, uX 0] [] M6 Q) (hA7 : (¬ x5 ≤ 0) → (¬ x4 = -1) → (¬ (dsAnd (dsShr (M 84 33) (M 85 ((15 + (3 * x4)) + 2))) 1 = 0)) → (¬ (dsAnd (dsShr (M 84 20) x4) 1) = 0) → ((dsAnd (dsShr (M 84 21) x4) 1) = 1) → ((M 84 17) = 3) → bCt 222 [uR 11 84, uI x4, uI 0, uI x3, uX 0, uX 0] M (fun _ => []) R7) (s22 : (¬ x5 ≤ 0) → (¬ x4 = -1) → (¬ (dsAnd (dsShr (M 84 33) (M 85 ((15 + (3 * x4)) + 2))) 1 = 0)) → (¬ (dsAnd (dsShr (M 84 20) x4) 1) = 0) → ((dsAnd (dsShr (M 84 21) x4) 1) = 1) → ((M 84 17) = 3) → ∀ M7 : dsMem, R7 M7 → -2147483648 ≤ (x5 - 0) ∧ (x5 - 0) < 2147483648 := by intros; omega) (s23 : (¬ x5 ≤ 0) → (¬ x4 = -1) → (¬ (dsAnd (dsShr (M 84 33) (M 85 ((15 + (3 * x4)) + 2))) 1 = 0)) → (¬ (dsAnd (dsShr (M 84 20) x4) 1) = 0) → ((dsAnd (dsShr (M 84 21) x4) 1) = 1) → ((M 84 17) = 3) → ∀ M7 : dsMem, R7 M7 → ((M7 84 17) = 1) → -2147483648 ≤ (x4 + 1) ∧ (x4 + 1) < 2147483648 := by intros; omega) (s24 : (¬ x5 ≤ 0) → (¬ x4 = -1) → (¬ (dsAnd (dsShr (M 84 33) (M 85 ((15 + (3 * x4)) + 2))) 1 = 0)) → (¬ (dsAnd (dsShr (M 84 20) x4) 1) = 0) → ((dsAnd (dsShr (M 84 21) x4) 1) = 1) → ((M 84 17) = 3) → ∀ M7 : dsMem, R7 M7 → ((M7 84 17) = 1) → ∀ i224_1 : Int, (x4 + 1) ≤ i224_1 → i224_1 < (M7 85 4) → (¬ (M7 84 17) = 2) → 0 ≤ ((15 + (3 * i224_1)) + 2) ∧ ((15 + (3 * i224_1)) + 2) < 105 := by intros; omega) (s25 : (¬ x5 ≤ 0) → (¬ x4 = -1) → (¬ (dsAnd (dsShr (M 84 33) (M 85 ((15 + (3 * x4)) + 2))) 1 = 0)) → (¬ (dsAnd (dsShr (M 84 20) x4) 1) = 0) → ((dsAnd (dsShr (M 84 21) x4) 1) = 1) → ((M 84 17) = 3) → ∀ M7 : dsMem, R7 M7 → ((M7 84 17) = 1) → ∀ i224_1 : Int, (x4 + 1) ≤ i224_1 → i224_1 < (M7 85 4) → (¬ (M7 84 17) = 2) → 0 ≤ ((15 + (3 * x4)) + 2) ∧ ((15 + (3 * x4)) + 2) < 105 := by intros; omega) (s26 : (¬ x5 ≤ 0) → (¬ x4 = -1) → (¬ (dsAnd (dsShr (M 84 33) (M 85 ((15 + (3 * x4)) + 2))) 1 = 0)) → (¬ (dsAnd (dsShr (M 84 20) x4) 1) = 0) → ((dsAnd (dsShr (M 84 21) x4) 1) = 1) → ((M 84 17) = 3) → ∀ M7 : dsMem, R7 M7 → ((M7 84 17) = 1) → ∀ i224_1 : Int, (x4 + 1) ≤ i224_1 → i224_1 < (M7 85 4) → -2147483648 ≤ i224_1 + 1 ∧ i224_1 + 1 < 2147483648 := by intros; omega) (k11 : (¬ x5 ≤ 0) → (¬ x4 = -1) → (¬ (dsAnd (dsShr (M 84 33) (M 85 ((15 + (3 * x4)) + 2))) 1 = 0)) → (¬ (dsAnd (dsShr (M 84 20) x4) 1) = 0) → ((dsAnd (dsShr (M 84 21) x4) 1) = 1) → ((M 84 17) = 3) → ∀ M7 : dsMem, R7 M7 → ((M7 84 17) = 1) → bB 227 6 [uR 11 84, uX 0, uX 0, uI x3, uI (v224 M7 x4), uI (x5 - 0), uX 0, uX 0] [] M7 Q) (k12 : (¬ x5 ≤ 0) → (¬ x4 = -1) → (¬ (dsAnd (dsShr (M 84 33) (M 85 ((15 + (3 * x4)) + 2))) 1 = 0)) → (¬ (dsAnd (dsShr (M 84 20) x4) 1) = 0) → ((dsAnd (dsShr (M 84 21) x4) 1) = 1) → ((M 84 17) = 3) → ∀ M7 : dsMem, R7 M7 → (¬ (M7 84 17) = 1) → (¬ (M7 84 17) = 2) → bB 227 6 [uR 11 84, uX 0, uX 0, uI x3, uI (-1), uI (x5 - 0), uX 0, uX 0] [] M7 Q) (s27 : (¬ x5 ≤ 0) → (¬ x4 = -1) → (¬ (dsAnd (dsShr (M 84 33) (M 85 ((15 + (3 * x4)) + 2))) 1 = 0)) → (¬ (dsAnd (dsShr (M 84 20) x4) 1) = 0) → ((dsAnd (dsShr (M 84 21) x4) 1) = 1) → ((M 84 17) = 3) → ∀ M7 : dsMem, R7 M7 → (¬ (M7 84 17) = 1) → ((M7 84 17) = 2) → -2147483648 ≤ (x4 + 1) ∧ (x4 + 1) < 2147483648 := by intros; omega) (s28 : (¬ x5 ≤ 0) → (¬ x4 = -1) → (¬ (dsAnd (dsShr (M 84 33) (M 85 ((15 + (3 * x4)) + 2))) 1 = 0)) → (¬ (dsAnd (dsShr (M 84 20) x4) 1) = 0) → ((dsAnd (dsShr (M 84 21) x4) 1) = 1) → ((M 84 17) = 3) → ∀ M7 : dsMem, R7 M7 → (¬ (M7 84 17) = 1) → ((M7 84 17) = 2) → ∀ i224_1 : Int, (x4 + 1) ≤ i224_1 → i224_1 < (M7 85 4) → (¬ (M7 84 17) = 2) → 0 ≤ ((15 + (3 * i224_1)) + 2) ∧ ((15 + (3 * i224_1)) + 2) < 105 := by intros; omega) (s29 : (¬ x5 ≤ 0) → (¬ x4 = -1) → (¬ (dsAnd (dsShr (M 84 33) (M 85 ((15 + (3 * x4)) + 2))) 1 = 0)) → (¬ (dsAnd (dsShr (M 84 20) x4) 1) = 0) → ((dsAnd (dsShr (M 84 21) x4) 1) = 1) → ((M 84 17) = 3) → ∀ M7 : dsMem, R7 M7 → (¬ (M7 84 17) = 1) → ((M7 84 17) = 2) → ∀ i224_1 : Int, (x4 + 1) ≤ i224_1 → i224_1 < (M7 85 4) → (¬ (M7 84 17) = 2) → 0 ≤ ((15 + (3 * x4)) + 2) ∧ ((15 + (3 * x4)) + 2) < 105 := by intros; omega) (s30 : (¬ x5 ≤ 0) → (¬ x4 = -1) → (¬ (dsAnd (dsShr (M 84 33) (M 85 ((15 + (3 * x4)) + 2))) 1 = 0)) → (¬ (dsAnd (dsShr (M 84 20) x4) 1) = 0) → ((dsAnd (dsShr (M 84 21) x4) 1) = 1) → ((M 84 17) = 3) → ∀ M7 : dsMem, R7 M7 → (¬ (M7 84 17) = 1) → ((M7 84 17) = 2) → ∀ i224_1 : Int, (x4 + 1) ≤ i224_1 → i224_1 < (M7 85 4) → -2147483648 ≤ i224_1 + 1 ∧ i224_1 + 1 < 2147483648 := by intros; omega) (k13 : (¬ x5 ≤ 0) → (¬ x4 = -1) → (¬ (dsAnd (dsShr (M 84 33) (M 85 ((15 + (3 * x4)) + 2))) 1 = 0)) → (¬ (dsAnd (dsShr (M 84 20) x4) 1) = 0) → ((dsAnd (dsShr (M 84 21) x4) 1) = 1) → ((M 84 17) = 3) → ∀ M7 : dsMem, R7 M7 → (¬ (M7 84 17) = 1) → ((M7 84 17) = 2) → bB 227 6 [uR 11 84, uX 0, uX 0, uI x3, uI (v224 M7 x4), uI (x5 - 0), uX 0, uX 0] [] M7 Q) (hA8 : (¬ x5 ≤ 0) → (¬ x4 = -1) → (¬ (dsAnd (dsShr (M 84 33) (M 85 ((15 + (3 * x4)) + 2))) 1 = 0)) → ((dsAnd (dsShr (M 84 20) x4) 1) = 0) → bCt 225 [uR 11 84, uI x5] M (fun _ => []) R8) (k14 : (¬ x5 ≤ 0) → (¬ x4 = -1) → (¬ (dsAnd (dsShr (M 84 33) (M 85 ((15 + (3 * x4)) + 2))) 1 = 0)) → ((dsAnd (dsShr (M 84 20) x4) 1) = 0) → ∀ M8 : dsMem, R8 M8 → Q [] M8) :
    bB 227 6 [uR 11 84, uX 0, uX 0, uI x3, uI x4, uI x5, uX 0, uX 0] [] M Q := by
  refine b_iload (d227 (j := 4) rfl) rfl ?_
  refine b_if_le (d227 (j := 5) rfl) (fun c1 => ?_) (fun c1 => ?_)
  ·
    refine b_aload_n (d227 (j := 81) rfl) rfl ?_
    refine b_iload (d227 (j := 82) rfl) rfl ?_
    refine b_callV (d227 (j := 83) rfl) rfl rfl (Or.inl rfl) rfl (bCk_mk (n := 0) (k := 2) (by decide +kernel) rfl rfl) ((hA1 c1) _ (fun M1 hR1 => ?_))
    refine b_stk [] rfl ?_
    exact b_vret (d227 (j := 84) rfl) rfl (k1 c1 M1 hR1)
  ·
    refine b_iload (d227 (j := 6) rfl) rfl ?_
    refine b_iconst (d227 (j := 7) rfl) (by decide) ?_
    refine b_icmp_eq (d227 (j := 8) rfl) (fun c2 => ?_) (fun c2 => ?_)
    ·
      refine b_aload_n (d227 (j := 81) rfl) rfl ?_
      refine b_iload (d227 (j := 82) rfl) rfl ?_
      refine b_callV (d227 (j := 83) rfl) rfl rfl (Or.inl rfl) rfl (bCk_mk (n := 0) (k := 2) (by decide +kernel) rfl rfl) ((hA2 c1 c2) _ (fun M2 hR2 => ?_))
      refine b_stk [] rfl ?_
      exact b_vret (d227 (j := 84) rfl) rfl (k2 c1 c2 M2 hR2)
    ·
      refine b_aload_n (d227 (j := 9) rfl) rfl ?_
      refine b_iload (d227 (j := 10) rfl) rfl ?_
      refine b_callV (d227 (j := 11) rfl) rfl rfl (Or.inl rfl) rfl (bCk_mk (n := 0) (k := 2) (by decide +kernel) rfl rfl) (pu221 (s1 c1 c2) ?_)
      refine b_stk [uI (if (dsAnd (dsShr (M 84 33) (M 85 ((15 + (3 * x4)) + 2))) 1 = 0) then 1 else 0)] rfl ?_
      refine b_ifneP (d227 (j := 12) rfl) (fun c3 => ?_) (fun c3 => ?_)
      ·
        refine b_aload_n (d227 (j := 81) rfl) rfl ?_
        refine b_iload (d227 (j := 82) rfl) rfl ?_
        refine b_callV (d227 (j := 83) rfl) rfl rfl (Or.inl rfl) rfl (bCk_mk (n := 0) (k := 2) (by decide +kernel) rfl rfl) ((hA3 c1 c2 c3) _ (fun M3 hR3 => ?_))
        refine b_stk [] rfl ?_
        exact b_vret (d227 (j := 84) rfl) rfl (k3 c1 c2 c3 M3 hR3)
      ·
        refine b_aload_n (d227 (j := 13) rfl) rfl ?_
        refine b_getI (d227 (j := 14) rfl) rfl rfl rfl rfl (Or.inl rfl) ?_
        refine b_stk [uI (M 84 20)] rfl ?_
        refine b_iload (d227 (j := 15) rfl) rfl ?_
        refine b_callS (d227 (j := 16) rfl) (Or.inl rfl) rfl (bCk_mk (n := 0) (k := 2) (by decide +kernel) rfl rfl) (pu179  ?_)
        refine b_stk [uI (dsAnd (dsShr (M 84 20) x4) 1)] rfl ?_
        refine b_if_ne (d227 (j := 17) rfl) (fun c4 => ?_) (fun c4 => ?_)
        ·
          refine b_aload_n (d227 (j := 19) rfl) rfl ?_
          refine b_getI (d227 (j := 20) rfl) rfl rfl rfl rfl (Or.inl rfl) ?_
          refine b_stk [uI (M 84 21)] rfl ?_
          refine b_iload (d227 (j := 21) rfl) rfl ?_
          refine b_callS (d227 (j := 22) rfl) (Or.inl rfl) rfl (bCk_mk (n := 0) (k := 2) (by decide +kernel) rfl rfl) (pu179  ?_)
          refine b_stk [uI (dsAnd (dsShr (M 84 21) x4) 1)] rfl ?_
          refine b_iconst (d227 (j := 23) rfl) (by decide) ?_
          refine b_icmp_ne (d227 (j := 24) rfl) (fun c5 => ?_) (fun c5 => ?_)
          ·
            refine b_iconst (d227 (j := 27) rfl) (by decide) ?_
            refine b_istore [uR 11 84, uX 0, uX 0, uI x3, uI x4, uI x5, uI 0, uX 0] (d227 (j := 28) rfl) (by decide) rfl ?_
            refine b_aload_n (d227 (j := 29) rfl) rfl ?_
            refine b_getI (d227 (j := 30) rfl) rfl rfl rfl rfl (Or.inl rfl) ?_
            refine b_stk [uI (M 84 17)] rfl ?_
            refine b_iconst (d227 (j := 31) rfl) (by decide) ?_
            refine b_icmp_ne (d227 (j := 32) rfl) (fun c6 => ?_) (fun c6 => ?_)
            ·
              refine b_iload (d227 (j := 41) rfl) rfl ?_
              refine b_if_eq (d227 (j := 42) rfl) (fun _ => ?_) (fun q => absurd q (by decide))
              refine b_iload (d227 (j := 45) rfl) rfl ?_
              refine b_aload_n (d227 (j := 46) rfl) rfl ?_
              refine b_getR (d227 (j := 47) rfl) rfl rfl rfl rfl ?_
              refine b_stk [uR 21 91, uI x5] rfl ?_
              refine b_iload (d227 (j := 48) rfl) rfl ?_
              refine b_iaload (d227 (j := 49) rfl) rfl (s2 c1 c2 c3 c4 c5 c6) ?_
              refine b_aload_n (d227 (j := 50) rfl) rfl ?_
              refine b_getR (d227 (j := 51) rfl) rfl rfl rfl rfl ?_
              refine b_stk [uR 21 96, uI (M 91 x4), uI x5] rfl ?_
              refine b_iload (d227 (j := 52) rfl) rfl ?_
              refine b_iaload (d227 (j := 53) rfl) rfl (s2 c1 c2 c3 c4 c5 c6) ?_
              refine b_isub (d227 (j := 54) rfl) rfl rfl ?_
              refine b_stk [uI ((M 91 x4) - (M 96 x4)), uI x5] (by rw [dsw_r (s3 c1 c2 c3 c4 c5 c6)]) ?_
              refine b_min (d227 (j := 55) rfl) rfl ⟨by decide, Nat.le_of_ble_eq_true rfl⟩ ?_
              refine b_istore [uR 11 84, uX 0, uX 0, uI x3, uI x4, uI x5, uI 0, uI (if ((M 91 x4) - (M 96 x4)) < x5 then ((M 91 x4) - (M 96 x4)) else x5)] (d227 (j := 56) rfl) (by decide) rfl ?_
              refine b_aload_n (d227 (j := 57) rfl) rfl ?_
              refine b_iload (d227 (j := 58) rfl) rfl ?_
              refine b_iload (d227 (j := 59) rfl) rfl ?_
              refine b_iload_n (d227 (j := 60) rfl) rfl ?_
              refine b_callV (d227 (j := 61) rfl) rfl rfl (Or.inl rfl) rfl (bCk_mk (n := 0) (k := 4) (by decide +kernel) rfl rfl) ((hA4 c1 c2 c3 c4 c5 c6) _ (fun M4 hR4 => ?_))
              refine b_stk [] rfl ?_
              refine b_iload (d227 (j := 62) rfl) rfl ?_
              refine b_iload (d227 (j := 63) rfl) rfl ?_
              refine b_isub (d227 (j := 64) rfl) rfl rfl ?_
              refine b_stk [uI (x5 - (if ((M 91 x4) - (M 96 x4)) < x5 then ((M 91 x4) - (M 96 x4)) else x5))] (by rw [dsw_r (s4 c1 c2 c3 c4 c5 c6 M4 hR4)]) ?_
              refine b_istore [uR 11 84, uX 0, uX 0, uI x3, uI x4, uI (x5 - (if ((M 91 x4) - (M 96 x4)) < x5 then ((M 91 x4) - (M 96 x4)) else x5)), uI 0, uI (if ((M 91 x4) - (M 96 x4)) < x5 then ((M 91 x4) - (M 96 x4)) else x5)] (d227 (j := 65) rfl) (by decide) rfl ?_
              refine b_aload_n (d227 (j := 66) rfl) rfl ?_
              refine b_getI (d227 (j := 67) rfl) rfl rfl rfl rfl (Or.inl rfl) ?_
              refine b_stk [uI (M4 84 17)] rfl ?_
              refine b_iconst (d227 (j := 68) rfl) (by decide) ?_
              refine b_icmp_eq (d227 (j := 69) rfl) (fun c8 => ?_) (fun c8 => ?_)
              ·
                refine b_aload_n (d227 (j := 74) rfl) rfl ?_
                refine b_iload (d227 (j := 75) rfl) rfl ?_
                refine b_callV (d227 (j := 76) rfl) rfl rfl (Or.inl rfl) rfl (bCk_mk (n := 0) (k := 2) (by decide +kernel) rfl rfl) (fx224 (s5 c1 c2 c3 c4 c5 c6 M4 hR4 c8) (s6 c1 c2 c3 c4 c5 c6 M4 hR4 c8) (s7 c1 c2 c3 c4 c5 c6 M4 hR4 c8) (s8 c1 c2 c3 c4 c5 c6 M4 hR4 c8) ?_)
                refine b_stk [uI (v224 M4 x4)] rfl ?_
                refine b_goto (d227 (j := 77) rfl) ?_
                refine b_istore [uR 11 84, uX 0, uX 0, uI x3, uI (v224 M4 x4), uI (x5 - (if ((M 91 x4) - (M 96 x4)) < x5 then ((M 91 x4) - (M 96 x4)) else x5)), uI 0, uI (if ((M 91 x4) - (M 96 x4)) < x5 then ((M 91 x4) - (M 96 x4)) else x5)] (d227 (j := 79) rfl) (by decide) rfl ?_
                refine b_goto (d227 (j := 80) rfl) ?_
                exact bB_le _ (bLe_s (bLe_s (bLe_s (bLe_s (bLe_s (bLe_s (bLe_x (bLe_x bLe_nil)))))))) (k4 c1 c2 c3 c4 c5 c6 M4 hR4 c8)
              ·
                refine b_aload_n (d227 (j := 70) rfl) rfl ?_
                refine b_getI (d227 (j := 71) rfl) rfl rfl rfl rfl (Or.inl rfl) ?_
                refine b_stk [uI (M4 84 17)] rfl ?_
                refine b_iconst (d227 (j := 72) rfl) (by decide) ?_
                refine b_icmp_ne (d227 (j := 73) rfl) (fun c9 => ?_) (fun c9 => ?_)
                ·
                  refine b_iconst (d227 (j := 78) rfl) (by decide) ?_
                  refine b_istore [uR 11 84, uX 0, uX 0, uI x3, uI (-1), uI (x5 - (if ((M 91 x4) - (M 96 x4)) < x5 then ((M 91 x4) - (M 96 x4)) else x5)), uI 0, uI (if ((M 91 x4) - (M 96 x4)) < x5 then ((M 91 x4) - (M 96 x4)) else x5)] (d227 (j := 79) rfl) (by decide) rfl ?_
                  refine b_goto (d227 (j := 80) rfl) ?_
                  exact bB_le _ (bLe_s (bLe_s (bLe_s (bLe_s (bLe_s (bLe_s (bLe_x (bLe_x bLe_nil)))))))) (k5 c1 c2 c3 c4 c5 c6 M4 hR4 c8 c9)
                ·
                  refine b_aload_n (d227 (j := 74) rfl) rfl ?_
                  refine b_iload (d227 (j := 75) rfl) rfl ?_
                  refine b_callV (d227 (j := 76) rfl) rfl rfl (Or.inl rfl) rfl (bCk_mk (n := 0) (k := 2) (by decide +kernel) rfl rfl) (fx224 (s9 c1 c2 c3 c4 c5 c6 M4 hR4 c8 c9) (s10 c1 c2 c3 c4 c5 c6 M4 hR4 c8 c9) (s11 c1 c2 c3 c4 c5 c6 M4 hR4 c8 c9) (s12 c1 c2 c3 c4 c5 c6 M4 hR4 c8 c9) ?_)
                  refine b_stk [uI (v224 M4 x4)] rfl ?_
                  refine b_goto (d227 (j := 77) rfl) ?_
                  refine b_istore [uR 11 84, uX 0, uX 0, uI x3, uI (v224 M4 x4), uI (x5 - (if ((M 91 x4) - (M 96 x4)) < x5 then ((M 91 x4) - (M 96 x4)) else x5)), uI 0, uI (if ((M 91 x4) - (M 96 x4)) < x5 then ((M 91 x4) - (M 96 x4)) else x5)] (d227 (j := 79) rfl) (by decide) rfl ?_
                  refine b_goto (d227 (j := 80) rfl) ?_
                  exact bB_le _ (bLe_s (bLe_s (bLe_s (bLe_s (bLe_s (bLe_s (bLe_x (bLe_x bLe_nil)))))))) (k6 c1 c2 c3 c4 c5 c6 M4 hR4 c8 c9)
            ·
              refine b_iload (d227 (j := 33) rfl) rfl ?_
              refine b_if_ne (d227 (j := 34) rfl) (fun q => absurd q (by decide)) (fun _ => ?_)
              refine b_aload_n (d227 (j := 35) rfl) rfl ?_
              refine b_iload (d227 (j := 36) rfl) rfl ?_
              refine b_iload (d227 (j := 37) rfl) rfl ?_
              refine b_iload_n (d227 (j := 38) rfl) rfl ?_
              refine b_callV (d227 (j := 39) rfl) rfl rfl (Or.inl rfl) rfl (bCk_mk (n := 0) (k := 4) (by decide +kernel) rfl rfl) ((hA5 c1 c2 c3 c4 c5 c6) _ (fun M5 hR5 => ?_))
              refine b_stk [] rfl ?_
              exact b_vret (d227 (j := 40) rfl) rfl (k7 c1 c2 c3 c4 c5 c6 M5 hR5)
          ·
            refine b_iconst (d227 (j := 25) rfl) (by decide) ?_
            refine b_goto (d227 (j := 26) rfl) ?_
            refine b_istore [uR 11 84, uX 0, uX 0, uI x3, uI x4, uI x5, uI 1, uX 0] (d227 (j := 28) rfl) (by decide) rfl ?_
            refine b_aload_n (d227 (j := 29) rfl) rfl ?_
            refine b_getI (d227 (j := 30) rfl) rfl rfl rfl rfl (Or.inl rfl) ?_
            refine b_stk [uI (M 84 17)] rfl ?_
            refine b_iconst (d227 (j := 31) rfl) (by decide) ?_
            refine b_icmp_ne (d227 (j := 32) rfl) (fun c11 => ?_) (fun c11 => ?_)
            ·
              refine b_iload (d227 (j := 41) rfl) rfl ?_
              refine b_if_eq (d227 (j := 42) rfl) (fun q => absurd q (by decide)) (fun _ => ?_)
              refine b_iconst (d227 (j := 43) rfl) (by decide) ?_
              refine b_goto (d227 (j := 44) rfl) ?_
              refine b_istore [uR 11 84, uX 0, uX 0, uI x3, uI x4, uI x5, uI 1, uI 0] (d227 (j := 56) rfl) (by decide) rfl ?_
              refine b_aload_n (d227 (j := 57) rfl) rfl ?_
              refine b_iload (d227 (j := 58) rfl) rfl ?_
              refine b_iload (d227 (j := 59) rfl) rfl ?_
              refine b_iload_n (d227 (j := 60) rfl) rfl ?_
              refine b_callV (d227 (j := 61) rfl) rfl rfl (Or.inl rfl) rfl (bCk_mk (n := 0) (k := 4) (by decide +kernel) rfl rfl) ((hA6 c1 c2 c3 c4 c5 c11) _ (fun M6 hR6 => ?_))
              refine b_stk [] rfl ?_
              refine b_iload (d227 (j := 62) rfl) rfl ?_
              refine b_iload (d227 (j := 63) rfl) rfl ?_
              refine b_isub (d227 (j := 64) rfl) rfl rfl ?_
              refine b_stk [uI (x5 - 0)] (by rw [dsw_r (s13 c1 c2 c3 c4 c5 c11 M6 hR6)]) ?_
              refine b_istore [uR 11 84, uX 0, uX 0, uI x3, uI x4, uI (x5 - 0), uI 1, uI 0] (d227 (j := 65) rfl) (by decide) rfl ?_
              refine b_aload_n (d227 (j := 66) rfl) rfl ?_
              refine b_getI (d227 (j := 67) rfl) rfl rfl rfl rfl (Or.inl rfl) ?_
              refine b_stk [uI (M6 84 17)] rfl ?_
              refine b_iconst (d227 (j := 68) rfl) (by decide) ?_
              refine b_icmp_eq (d227 (j := 69) rfl) (fun c13 => ?_) (fun c13 => ?_)
              ·
                refine b_aload_n (d227 (j := 74) rfl) rfl ?_
                refine b_iload (d227 (j := 75) rfl) rfl ?_
                refine b_callV (d227 (j := 76) rfl) rfl rfl (Or.inl rfl) rfl (bCk_mk (n := 0) (k := 2) (by decide +kernel) rfl rfl) (fx224 (s14 c1 c2 c3 c4 c5 c11 M6 hR6 c13) (s15 c1 c2 c3 c4 c5 c11 M6 hR6 c13) (s16 c1 c2 c3 c4 c5 c11 M6 hR6 c13) (s17 c1 c2 c3 c4 c5 c11 M6 hR6 c13) ?_)
                refine b_stk [uI (v224 M6 x4)] rfl ?_
                refine b_goto (d227 (j := 77) rfl) ?_
                refine b_istore [uR 11 84, uX 0, uX 0, uI x3, uI (v224 M6 x4), uI (x5 - 0), uI 1, uI 0] (d227 (j := 79) rfl) (by decide) rfl ?_
                refine b_goto (d227 (j := 80) rfl) ?_
                exact bB_le _ (bLe_s (bLe_s (bLe_s (bLe_s (bLe_s (bLe_s (bLe_x (bLe_x bLe_nil)))))))) (k8 c1 c2 c3 c4 c5 c11 M6 hR6 c13)
              ·
                refine b_aload_n (d227 (j := 70) rfl) rfl ?_
                refine b_getI (d227 (j := 71) rfl) rfl rfl rfl rfl (Or.inl rfl) ?_
                refine b_stk [uI (M6 84 17)] rfl ?_
                refine b_iconst (d227 (j := 72) rfl) (by decide) ?_
                refine b_icmp_ne (d227 (j := 73) rfl) (fun c14 => ?_) (fun c14 => ?_)
                ·
                  refine b_iconst (d227 (j := 78) rfl) (by decide) ?_
                  refine b_istore [uR 11 84, uX 0, uX 0, uI x3, uI (-1), uI (x5 - 0), uI 1, uI 0] (d227 (j := 79) rfl) (by decide) rfl ?_
                  refine b_goto (d227 (j := 80) rfl) ?_
                  exact bB_le _ (bLe_s (bLe_s (bLe_s (bLe_s (bLe_s (bLe_s (bLe_x (bLe_x bLe_nil)))))))) (k9 c1 c2 c3 c4 c5 c11 M6 hR6 c13 c14)
                ·
                  refine b_aload_n (d227 (j := 74) rfl) rfl ?_
                  refine b_iload (d227 (j := 75) rfl) rfl ?_
                  refine b_callV (d227 (j := 76) rfl) rfl rfl (Or.inl rfl) rfl (bCk_mk (n := 0) (k := 2) (by decide +kernel) rfl rfl) (fx224 (s18 c1 c2 c3 c4 c5 c11 M6 hR6 c13 c14) (s19 c1 c2 c3 c4 c5 c11 M6 hR6 c13 c14) (s20 c1 c2 c3 c4 c5 c11 M6 hR6 c13 c14) (s21 c1 c2 c3 c4 c5 c11 M6 hR6 c13 c14) ?_)
                  refine b_stk [uI (v224 M6 x4)] rfl ?_
                  refine b_goto (d227 (j := 77) rfl) ?_
                  refine b_istore [uR 11 84, uX 0, uX 0, uI x3, uI (v224 M6 x4), uI (x5 - 0), uI 1, uI 0] (d227 (j := 79) rfl) (by decide) rfl ?_
                  refine b_goto (d227 (j := 80) rfl) ?_
                  exact bB_le _ (bLe_s (bLe_s (bLe_s (bLe_s (bLe_s (bLe_s (bLe_x (bLe_x bLe_nil)))))))) (k10 c1 c2 c3 c4 c5 c11 M6 hR6 c13 c14)
            ·
              refine b_iload (d227 (j := 33) rfl) rfl ?_
              refine b_if_ne (d227 (j := 34) rfl) (fun _ => ?_) (fun q => absurd q (by decide))
              refine b_iload (d227 (j := 41) rfl) rfl ?_
              refine b_if_eq (d227 (j := 42) rfl) (fun q => absurd q (by decide)) (fun _ => ?_)
              refine b_iconst (d227 (j := 43) rfl) (by decide) ?_
              refine b_goto (d227 (j := 44) rfl) ?_
              refine b_istore [uR 11 84, uX 0, uX 0, uI x3, uI x4, uI x5, uI 1, uI 0] (d227 (j := 56) rfl) (by decide) rfl ?_
              refine b_aload_n (d227 (j := 57) rfl) rfl ?_
              refine b_iload (d227 (j := 58) rfl) rfl ?_
              refine b_iload (d227 (j := 59) rfl) rfl ?_
              refine b_iload_n (d227 (j := 60) rfl) rfl ?_
              refine b_callV (d227 (j := 61) rfl) rfl rfl (Or.inl rfl) rfl (bCk_mk (n := 0) (k := 4) (by decide +kernel) rfl rfl) ((hA7 c1 c2 c3 c4 c5 c11) _ (fun M7 hR7 => ?_))
              refine b_stk [] rfl ?_
              refine b_iload (d227 (j := 62) rfl) rfl ?_
              refine b_iload (d227 (j := 63) rfl) rfl ?_
              refine b_isub (d227 (j := 64) rfl) rfl rfl ?_
              refine b_stk [uI (x5 - 0)] (by rw [dsw_r (s22 c1 c2 c3 c4 c5 c11 M7 hR7)]) ?_
              refine b_istore [uR 11 84, uX 0, uX 0, uI x3, uI x4, uI (x5 - 0), uI 1, uI 0] (d227 (j := 65) rfl) (by decide) rfl ?_
              refine b_aload_n (d227 (j := 66) rfl) rfl ?_
              refine b_getI (d227 (j := 67) rfl) rfl rfl rfl rfl (Or.inl rfl) ?_
              refine b_stk [uI (M7 84 17)] rfl ?_
              refine b_iconst (d227 (j := 68) rfl) (by decide) ?_
              refine b_icmp_eq (d227 (j := 69) rfl) (fun c17 => ?_) (fun c17 => ?_)
              ·
                refine b_aload_n (d227 (j := 74) rfl) rfl ?_
                refine b_iload (d227 (j := 75) rfl) rfl ?_
                refine b_callV (d227 (j := 76) rfl) rfl rfl (Or.inl rfl) rfl (bCk_mk (n := 0) (k := 2) (by decide +kernel) rfl rfl) (fx224 (s23 c1 c2 c3 c4 c5 c11 M7 hR7 c17) (s24 c1 c2 c3 c4 c5 c11 M7 hR7 c17) (s25 c1 c2 c3 c4 c5 c11 M7 hR7 c17) (s26 c1 c2 c3 c4 c5 c11 M7 hR7 c17) ?_)
                refine b_stk [uI (v224 M7 x4)] rfl ?_
                refine b_goto (d227 (j := 77) rfl) ?_
                refine b_istore [uR 11 84, uX 0, uX 0, uI x3, uI (v224 M7 x4), uI (x5 - 0), uI 1, uI 0] (d227 (j := 79) rfl) (by decide) rfl ?_
                refine b_goto (d227 (j := 80) rfl) ?_
                exact bB_le _ (bLe_s (bLe_s (bLe_s (bLe_s (bLe_s (bLe_s (bLe_x (bLe_x bLe_nil)))))))) (k11 c1 c2 c3 c4 c5 c11 M7 hR7 c17)
              ·
                refine b_aload_n (d227 (j := 70) rfl) rfl ?_
                refine b_getI (d227 (j := 71) rfl) rfl rfl rfl rfl (Or.inl rfl) ?_
                refine b_stk [uI (M7 84 17)] rfl ?_
                refine b_iconst (d227 (j := 72) rfl) (by decide) ?_
                refine b_icmp_ne (d227 (j := 73) rfl) (fun c18 => ?_) (fun c18 => ?_)
                ·
                  refine b_iconst (d227 (j := 78) rfl) (by decide) ?_
                  refine b_istore [uR 11 84, uX 0, uX 0, uI x3, uI (-1), uI (x5 - 0), uI 1, uI 0] (d227 (j := 79) rfl) (by decide) rfl ?_
                  refine b_goto (d227 (j := 80) rfl) ?_
                  exact bB_le _ (bLe_s (bLe_s (bLe_s (bLe_s (bLe_s (bLe_s (bLe_x (bLe_x bLe_nil)))))))) (k12 c1 c2 c3 c4 c5 c11 M7 hR7 c17 c18)
                ·
                  refine b_aload_n (d227 (j := 74) rfl) rfl ?_
                  refine b_iload (d227 (j := 75) rfl) rfl ?_
                  refine b_callV (d227 (j := 76) rfl) rfl rfl (Or.inl rfl) rfl (bCk_mk (n := 0) (k := 2) (by decide +kernel) rfl rfl) (fx224 (s27 c1 c2 c3 c4 c5 c11 M7 hR7 c17 c18) (s28 c1 c2 c3 c4 c5 c11 M7 hR7 c17 c18) (s29 c1 c2 c3 c4 c5 c11 M7 hR7 c17 c18) (s30 c1 c2 c3 c4 c5 c11 M7 hR7 c17 c18) ?_)
                  refine b_stk [uI (v224 M7 x4)] rfl ?_
                  refine b_goto (d227 (j := 77) rfl) ?_
                  refine b_istore [uR 11 84, uX 0, uX 0, uI x3, uI (v224 M7 x4), uI (x5 - 0), uI 1, uI 0] (d227 (j := 79) rfl) (by decide) rfl ?_
                  refine b_goto (d227 (j := 80) rfl) ?_
                  exact bB_le _ (bLe_s (bLe_s (bLe_s (bLe_s (bLe_s (bLe_s (bLe_x (bLe_x bLe_nil)))))))) (k13 c1 c2 c3 c4 c5 c11 M7 hR7 c17 c18)
        ·
          refine b_goto (d227 (j := 18) rfl) ?_
          refine b_aload_n (d227 (j := 81) rfl) rfl ?_
          refine b_iload (d227 (j := 82) rfl) rfl ?_
          refine b_callV (d227 (j := 83) rfl) rfl rfl (Or.inl rfl) rfl (bCk_mk (n := 0) (k := 2) (by decide +kernel) rfl rfl) ((hA8 c1 c2 c3 c4) _ (fun M8 hR8 => ?_))
          refine b_stk [] rfl ?_
          exact b_vret (d227 (j := 84) rfl) rfl (k14 c1 c2 c3 c4 M8 hR8)
def L228 : List (Nat × Instr × Nat × Nat) := [(0, .iconst 0, 1, 0), (1, .istore_n 3, 2, 0), (2, .iload_n 3, 3, 0), (3, .aload_n 0, 4, 0), (4, .invokevirtual 116, 7, 0), (7, .if_icmp .ge 23, 10, 30), (10, .aload_n 0, 11, 0), (11, .iload_n 3, 12, 0), (12, .iload_n 1, 13, 0), (13, .aload_n 0, 14, 0), (14, .iload_n 3, 15, 0), (15, .iconst 1, 16, 0), (16, .invokevirtual 132, 19, 0), (19, .imul, 20, 0), (20, .iload_n 2, 21, 0), (21, .invokevirtual 334, 24, 0), (24, .iinc 3 1, 27, 0), (27, .goto (-25), 30, 2), (30, .return_, 31, 0)]
set_option maxRecDepth 100000 in
theorem L228_ok : L228.all (dck 228) = true := by decide +kernel
theorem d228 {j pc nx tg : Nat} {ins : Instr} (hj : L228[j]? = some (pc, ins, nx, tg)) : dcd 228 pc ins nx tg := dcl_ok L228_ok hj
set_option maxRecDepth 100000 in
set_option maxHeartbeats 4000000 in
theorem r228_0 {x1 x2 : Int}  {M : dsMem} {Q : bQT} (k1 : bB 228 2 [uR 11 84, uI x1, uI x2, uI 0] [] M Q) :
    bB 228 0 [uR 11 84, uI x1, uI x2, uX 0] [] M Q := by
  refine b_iconst (d228 (j := 0) rfl) (by decide) ?_
  refine b_istore_n [uR 11 84, uI x1, uI x2, uI 0] (d228 (j := 1) rfl) (by decide) rfl ?_
  exact k1
set_option maxRecDepth 100000 in
set_option maxHeartbeats 4000000 in
theorem r228_2 {x1 x2 x3 : Int} {R1 : dsMem → Prop} {M : dsMem} {Q : bQT} (k1 : ((M 85 4) ≤ x3) → Q [] M) (s1 : (¬ (M 85 4) ≤ x3) → 0 ≤ ((15 + (3 * x3)) + 1) ∧ ((15 + (3 * x3)) + 1) < 105 := by intros; omega) (hA1 : (¬ (M 85 4) ≤ x3) → bCt 227 [uR 11 84, uI x3, uI (dsw ((x1 * (M 85 ((15 + (3 * x3)) + 1))))), uI x2, uX 0, uX 0, uX 0, uX 0] M (fun _ => []) R1) (s2 : (¬ (M 85 4) ≤ x3) → ∀ M1 : dsMem, R1 M1 → -2147483648 ≤ x3 + 1 ∧ x3 + 1 < 2147483648 := by intros; omega) (k2 : (¬ (M 85 4) ≤ x3) → ∀ M1 : dsMem, R1 M1 → bB 228 2 [uR 11 84, uI x1, uI x2, uI (x3 + 1)] [] M1 Q) :
    bB 228 2 [uR 11 84, uI x1, uI x2, uI x3] [] M Q := by
  refine b_iload_n (d228 (j := 2) rfl) rfl ?_
  refine b_aload_n (d228 (j := 3) rfl) rfl ?_
  refine b_callV (d228 (j := 4) rfl) rfl rfl (Or.inl rfl) rfl (bCk_mk (n := 1) (k := 1) (by decide +kernel) rfl rfl) (pu185  ?_)
  refine b_stk [uI (M 85 4), uI x3] rfl ?_
  refine b_icmp_ge (d228 (j := 5) rfl) (fun c1 => ?_) (fun c1 => ?_)
  ·
    exact b_vret (d228 (j := 18) rfl) rfl (k1 c1)
  ·
    refine b_aload_n (d228 (j := 6) rfl) rfl ?_
    refine b_iload_n (d228 (j := 7) rfl) rfl ?_
    refine b_iload_n (d228 (j := 8) rfl) rfl ?_
    refine b_aload_n (d228 (j := 9) rfl) rfl ?_
    refine b_iload_n (d228 (j := 10) rfl) rfl ?_
    refine b_iconst (d228 (j := 11) rfl) (by decide) ?_
    refine b_callV (d228 (j := 12) rfl) rfl rfl (Or.inl rfl) rfl (bCk_mk (n := 3) (k := 3) (by decide +kernel) rfl rfl) (pu192 (s1 c1) ?_)
    refine b_stk [uI (M 85 ((15 + (3 * x3)) + 1)), uI x1, uI x3, uR 11 84] rfl ?_
    refine b_imul (d228 (j := 13) rfl) rfl rfl ?_
    refine b_iload_n (d228 (j := 14) rfl) rfl ?_
    refine b_callV (d228 (j := 15) rfl) rfl rfl (Or.inl rfl) rfl (bCk_mk (n := 0) (k := 4) (by decide +kernel) rfl rfl) ((hA1 c1) _ (fun M1 hR1 => ?_))
    refine b_stk [] rfl ?_
    refine b_iinc [uR 11 84, uI x1, uI x2, uI (x3 + 1)] (d228 (j := 16) rfl) rfl (by decide) (s2 c1 M1 hR1) rfl ?_
    refine b_goto (d228 (j := 17) rfl) ?_
    exact (k2 c1 M1 hR1)
def L229 : List (Nat × Instr × Nat × Nat) := [(0, .aload_n 0, 1, 0), (1, .getfield 61, 4, 0), (4, .aload_n 0, 5, 0), (5, .getfield 307, 8, 0), (8, .dup2, 9, 0), (9, .iaload, 10, 0), (10, .aload_n 0, 11, 0), (11, .iload_n 1, 12, 0), (12, .iload_n 2, 13, 0), (13, .iconst 1, 14, 0), (14, .invokevirtual 316, 17, 0), (17, .iadd, 18, 0), (18, .iastore, 19, 0), (19, .return_, 20, 0)]
set_option maxRecDepth 100000 in
theorem L229_ok : L229.all (dck 229) = true := by decide +kernel
theorem d229 {j pc nx tg : Nat} {ins : Instr} (hj : L229[j]? = some (pc, ins, nx, tg)) : dcd 229 pc ins nx tg := dcl_ok L229_ok hj
set_option maxRecDepth 100000 in
set_option maxHeartbeats 4000000 in
theorem r229_0 {x1 x2 : Int} {R1 : dsMem → Prop} {g1 : dsMem → Int} {M : dsMem} {Q : bQT} (s1 : 0 ≤ (M 84 34) ∧ (M 84 34) < 12 := by intros; omega) (hA1 : bCt 223 [uR 11 84, uI x1, uI x2, uI 1, uX 0, uX 0, uX 0, uX 0, uX 0] M (fun M1 => [uI (g1 M1)]) R1) (k1 : ∀ M1 : dsMem, R1 M1 → Q [] (dsSet M1 100 (M 84 34) (dsw (((M 100 (M 84 34)) + (g1 M1)))))) :
    bB 229 0 [uR 11 84, uI x1, uI x2] [] M Q := by
  refine b_aload_n (d229 (j := 0) rfl) rfl ?_
  refine b_getR (d229 (j := 1) rfl) rfl rfl rfl rfl ?_
  refine b_stk [uR 28 100] rfl ?_
  refine b_aload_n (d229 (j := 2) rfl) rfl ?_
  refine b_getI (d229 (j := 3) rfl) rfl rfl rfl rfl (Or.inl rfl) ?_
  refine b_stk [uI (M 84 34), uR 28 100] rfl ?_
  refine b_dup2 (d229 (j := 4) rfl) ?_
  refine b_iaload (d229 (j := 5) rfl) rfl s1 ?_
  refine b_aload_n (d229 (j := 6) rfl) rfl ?_
  refine b_iload_n (d229 (j := 7) rfl) rfl ?_
  refine b_iload_n (d229 (j := 8) rfl) rfl ?_
  refine b_iconst (d229 (j := 9) rfl) (by decide) ?_
  refine b_callV (d229 (j := 10) rfl) rfl rfl (Or.inl rfl) rfl (bCk_mk (n := 3) (k := 4) (by decide +kernel) rfl rfl) ((hA1) _ (fun M1 hR1 => ?_))
  refine b_stk [uI (g1 M1), uI (M 100 (M 84 34)), uI (M 84 34), uR 28 100] rfl ?_
  refine b_iadd (d229 (j := 11) rfl) rfl rfl ?_
  refine b_iastore (d229 (j := 12) rfl) rfl s1 ?_
  exact b_vret (d229 (j := 13) rfl) rfl (k1 M1 hR1)
def L231 : List (Nat × Instr × Nat × Nat) := [(0, .aload_n 0, 1, 0), (1, .iload_n 1, 2, 0), (2, .invokevirtual 337, 5, 0), (5, .aload_n 0, 6, 0), (6, .getfield 37, 9, 0), (9, .iload_n 1, 10, 0), (10, .iaload, 11, 0), (11, .isub, 12, 0), (12, .istore_n 2, 13, 0), (13, .aload_n 0, 14, 0), (14, .getfield 301, 17, 0), (17, .iload_n 1, 18, 0), (18, .invokestatic 304, 21, 0), (21, .ifCond .eq 7, 24, 28), (24, .iload_n 2, 25, 0), (25, .ifCond .gt 4, 28, 29), (28, .return_, 29, 0), (29, .aload_n 0, 30, 0), (30, .getfield 52, 33, 0), (33, .iload_n 1, 34, 0), (34, .dup2, 35, 0), (35, .iaload, 36, 0), (36, .iload_n 2, 37, 0), (37, .iconst 5, 38, 0), (38, .idiv, 39, 0), (39, .iconst 1, 40, 0), (40, .iadd, 41, 0), (41, .iadd, 42, 0), (42, .iastore, 43, 0), (43, .aload_n 0, 44, 0), (44, .getfield 52, 47, 0), (47, .iload_n 1, 48, 0), (48, .iaload, 49, 0), (49, .aload_n 0, 50, 0), (50, .getfield 9, 53, 0), (53, .bipush 9, 55, 0), (55, .iconst 2, 56, 0), (56, .iload_n 1, 57, 0), (57, .imul, 58, 0), (58, .iadd, 59, 0), (59, .iconst 1, 60, 0), (60, .iadd, 61, 0), (61, .iaload, 62, 0), (62, .if_icmp .ge 4, 65, 66), (65, .return_, 66, 0), (66, .aload_n 0, 67, 0), (67, .dup, 68, 0), (68, .getfield 301, 71, 0), (71, .iconst 1, 72, 0), (72, .iload_n 1, 73, 0), (73, .ishl, 74, 0), (74, .iconst (-1), 75, 0), (75, .ixor, 76, 0), (76, .iand, 77, 0), (77, .putfield 301, 80, 0), (80, .iconst 0, 81, 0), (81, .istore_n 3, 82, 0), (82, .iload_n 3, 83, 0), (83, .aload_n 0, 84, 0), (84, .invokevirtual 116, 87, 0), (87, .if_icmp .ge 34, 90, 121), (90, .aload_n 0, 91, 0), (91, .iload_n 3, 92, 0), (92, .invokevirtual 271, 95, 0), (95, .iload_n 1, 96, 0), (96, .if_icmp .ne 19, 99, 115), (99, .aload_n 0, 100, 0), (100, .aload_n 0, 101, 0), (101, .iload_n 3, 102, 0), (102, .aload_n 0, 103, 0), (103, .getfield 49, 106, 0), (106, .iload_n 3, 107, 0), (107, .iaload, 108, 0), (108, .iconst 0, 109, 0), (109, .invokevirtual 316, 112, 0), (112, .invokevirtual 310, 115, 0), (115, .iinc 3 1, 118, 0), (118, .goto (-36), 121, 82), (121, .return_, 122, 0)]
set_option maxRecDepth 100000 in
theorem L231_ok : L231.all (dck 231) = true := by decide +kernel
theorem d231 {j pc nx tg : Nat} {ins : Instr} (hj : L231[j]? = some (pc, ins, nx, tg)) : dcd 231 pc ins nx tg := dcl_ok L231_ok hj
set_option maxRecDepth 100000 in
set_option maxHeartbeats 4000000 in
theorem r231_0 {x1 : Int}  {M : dsMem} {Q : bQT} (s1 : ∀ i230_1 : Int, ∀ a230_1 : Int, 0 ≤ i230_1 → i230_1 < (M 85 4) → 0 ≤ ((15 + (3 * i230_1)) + 2) ∧ ((15 + (3 * i230_1)) + 2) < 105 := by intros; omega) (s2 : ∀ i230_1 : Int, ∀ a230_1 : Int, 0 ≤ i230_1 → i230_1 < (M 85 4) → -2147483648 ≤ i230_1 + 1 ∧ i230_1 + 1 < 2147483648 := by intros; omega) (s3 : ∀ i230_1 : Int, ∀ a230_1 : Int, 0 ≤ i230_1 → i230_1 < (M 85 4) → ((M 85 ((15 + (3 * i230_1)) + 2)) = x1) → 0 ≤ i230_1 ∧ i230_1 < 6 := by intros; omega) (s4 : 0 ≤ x1 ∧ x1 < 3 := by intros; omega) (k1 : ((dsAnd (dsShr (M 84 33) x1) 1) = 0) → Q [] M) (s5 : (¬ (dsAnd (dsShr (M 84 33) x1) 1) = 0) → (0 < (dsw (((v230 M x1) - (M 92 x1))))) → (0 ≤ (dsw (((v230 M x1) - (M 92 x1)))) ∧ (dsw (((v230 M x1) - (M 92 x1)))) < 2147483648) ∧ (0 : Int) < 5 := by intros; omega) (s6 : (¬ (dsAnd (dsShr (M 84 33) x1) 1) = 0) → (0 < (dsw (((v230 M x1) - (M 92 x1))))) → 0 ≤ ((9 + (2 * x1)) + 1) ∧ ((9 + (2 * x1)) + 1) < 105 := by intros; omega) (k2 : (¬ (dsAnd (dsShr (M 84 33) x1) 1) = 0) → (0 < (dsw (((v230 M x1) - (M 92 x1))))) → ((M 85 ((9 + (2 * x1)) + 1)) ≤ (dsw (((M 97 x1) + (((dsw (((v230 M x1) - (M 92 x1)))) / 5) + 1))))) → bB 231 82 [uR 11 84, uI x1, uX 0, uI 0] [] (dsSet (dsSet M 97 x1 (dsw (((M 97 x1) + (((dsw (((v230 M x1) - (M 92 x1)))) / 5) + 1))))) 84 33 (dsAnd (M 84 33) (dsXor (dsShl 1 x1) (-1)))) Q) (k3 : (¬ (dsAnd (dsShr (M 84 33) x1) 1) = 0) → (0 < (dsw (((v230 M x1) - (M 92 x1))))) → (¬ (M 85 ((9 + (2 * x1)) + 1)) ≤ (dsw (((M 97 x1) + (((dsw (((v230 M x1) - (M 92 x1)))) / 5) + 1))))) → Q [] (dsSet M 97 x1 (dsw (((M 97 x1) + (((dsw (((v230 M x1) - (M 92 x1)))) / 5) + 1)))))) (k4 : (¬ (dsAnd (dsShr (M 84 33) x1) 1) = 0) → (¬ 0 < (dsw (((v230 M x1) - (M 92 x1))))) → Q [] M) :
    bB 231 0 [uR 11 84, uI x1, uX 0, uX 0] [] M Q := by
  refine b_aload_n (d231 (j := 0) rfl) rfl ?_
  refine b_iload_n (d231 (j := 1) rfl) rfl ?_
  refine b_callV (d231 (j := 2) rfl) rfl rfl (Or.inl rfl) rfl (bCk_mk (n := 0) (k := 2) (by decide +kernel) rfl rfl) (fx230 s1 s2 s3 ?_)
  refine b_stk [uI (v230 M x1)] rfl ?_
  refine b_aload_n (d231 (j := 3) rfl) rfl ?_
  refine b_getR (d231 (j := 4) rfl) rfl rfl rfl rfl ?_
  refine b_stk [uR 23 92, uI (v230 M x1)] rfl ?_
  refine b_iload_n (d231 (j := 5) rfl) rfl ?_
  refine b_iaload (d231 (j := 6) rfl) rfl s4 ?_
  refine b_isub (d231 (j := 7) rfl) rfl rfl ?_
  refine b_istore_n [uR 11 84, uI x1, uI (dsw (((v230 M x1) - (M 92 x1)))), uX 0] (d231 (j := 8) rfl) (by decide) rfl ?_
  refine b_aload_n (d231 (j := 9) rfl) rfl ?_
  refine b_getI (d231 (j := 10) rfl) rfl rfl rfl rfl (Or.inl rfl) ?_
  refine b_stk [uI (M 84 33)] rfl ?_
  refine b_iload_n (d231 (j := 11) rfl) rfl ?_
  refine b_callS (d231 (j := 12) rfl) (Or.inl rfl) rfl (bCk_mk (n := 0) (k := 2) (by decide +kernel) rfl rfl) (pu179  ?_)
  refine b_stk [uI (dsAnd (dsShr (M 84 33) x1) 1)] rfl ?_
  refine b_if_eq (d231 (j := 13) rfl) (fun c1 => ?_) (fun c1 => ?_)
  ·
    exact b_vret (d231 (j := 16) rfl) rfl (k1 c1)
  ·
    refine b_iload_n (d231 (j := 14) rfl) rfl ?_
    refine b_if_gt (d231 (j := 15) rfl) (fun c2 => ?_) (fun c2 => ?_)
    ·
      refine b_aload_n (d231 (j := 17) rfl) rfl ?_
      refine b_getR (d231 (j := 18) rfl) rfl rfl rfl rfl ?_
      refine b_stk [uR 23 97] rfl ?_
      refine b_iload_n (d231 (j := 19) rfl) rfl ?_
      refine b_dup2 (d231 (j := 20) rfl) ?_
      refine b_iaload (d231 (j := 21) rfl) rfl s4 ?_
      refine b_iload_n (d231 (j := 22) rfl) rfl ?_
      refine b_iconst (d231 (j := 23) rfl) (by decide) ?_
      refine b_idivP (d231 (j := 24) rfl) (s5 c1 c2) ?_
      refine b_iconst (d231 (j := 25) rfl) (by decide) ?_
      refine b_iadd (d231 (j := 26) rfl) rfl rfl ?_
      refine b_iadd (d231 (j := 27) rfl) rfl (dsw_dsw _) ?_
      refine b_iastore (d231 (j := 28) rfl) rfl s4 ?_
      refine b_aload_n (d231 (j := 29) rfl) rfl ?_
      refine b_getR (d231 (j := 30) rfl) rfl rfl rfl rfl ?_
      refine b_stk [uR 23 97] rfl ?_
      refine b_iload_n (d231 (j := 31) rfl) rfl ?_
      refine b_iaload (d231 (j := 32) rfl) rfl s4 ?_
      refine b_stk [uI (dsw (((M 97 x1) + (((dsw (((v230 M x1) - (M 92 x1)))) / 5) + 1))))] (by rw [ds_get_eq] <;> rfl) ?_
      refine b_aload_n (d231 (j := 33) rfl) rfl ?_
      refine b_getR (d231 (j := 34) rfl) rfl rfl rfl rfl ?_
      refine b_stk [uR 38 85, uI (dsw (((M 97 x1) + (((dsw (((v230 M x1) - (M 92 x1)))) / 5) + 1))))] rfl ?_
      refine b_bipush (d231 (j := 35) rfl) (by decide) ?_
      refine b_iconst (d231 (j := 36) rfl) (by decide) ?_
      refine b_iload_n (d231 (j := 37) rfl) rfl ?_
      refine b_imul (d231 (j := 38) rfl) rfl rfl ?_
      refine b_iadd (d231 (j := 39) rfl) rfl (dsw_dsw _) ?_
      refine b_iconst (d231 (j := 40) rfl) (by decide) ?_
      refine b_iadd (d231 (j := 41) rfl) (dsw_dsw _) rfl ?_
      refine b_stk [uI ((9 + (2 * x1)) + 1), uR 38 85, uI (dsw (((M 97 x1) + (((dsw (((v230 M x1) - (M 92 x1)))) / 5) + 1))))] (by rw [dsw_b (s6 c1 c2) (by decide)]) ?_
      refine b_iaload (d231 (j := 42) rfl) rfl (s6 c1 c2) ?_
      refine b_stk [uI (M 85 ((9 + (2 * x1)) + 1)), uI (dsw (((M 97 x1) + (((dsw (((v230 M x1) - (M 92 x1)))) / 5) + 1))))] (by rw [ds_get_ne (by omega)] <;> rfl) ?_
      refine b_icmp_ge (d231 (j := 43) rfl) (fun c3 => ?_) (fun c3 => ?_)
      ·
        refine b_aload_n (d231 (j := 45) rfl) rfl ?_
        refine b_dup (d231 (j := 46) rfl) rfl ?_
        refine b_getI (d231 (j := 47) rfl) rfl rfl rfl rfl (Or.inl rfl) ?_
        refine b_stk [uI (M 84 33), uR 11 84] (by rw [ds_get_ne (by omega)] <;> rfl) ?_
        refine b_iconst (d231 (j := 48) rfl) (by decide) ?_
        refine b_iload_n (d231 (j := 49) rfl) rfl ?_
        refine b_ishl (d231 (j := 50) rfl) ?_
        refine b_iconst (d231 (j := 51) rfl) (by decide) ?_
        refine b_ixor (d231 (j := 52) rfl) ?_
        refine b_iand (d231 (j := 53) rfl) ?_
        refine b_putI (d231 (j := 54) rfl) rfl ⟨rfl, rfl⟩ rfl rfl ?_
        refine b_iconst (d231 (j := 55) rfl) (by decide) ?_
        refine b_istore_n [uR 11 84, uI x1, uI (dsw (((v230 M x1) - (M 92 x1)))), uI 0] (d231 (j := 56) rfl) (by decide) rfl ?_
        exact bB_le _ (bLe_s (bLe_s (bLe_x (bLe_s bLe_nil)))) (k2 c1 c2 c3)
      ·
        exact b_vret (d231 (j := 44) rfl) rfl (k3 c1 c2 c3)
    ·
      exact b_vret (d231 (j := 16) rfl) rfl (k4 c1 c2)
set_option maxRecDepth 100000 in
set_option maxHeartbeats 4000000 in
theorem r231_82 {x1 x3 : Int} {R1 : dsMem → Prop} {g1 : dsMem → Int} {R2 : dsMem → dsMem → Prop} {M : dsMem} {Q : bQT} (k1 : ((M 85 4) ≤ x3) → Q [] M) (s1 : (¬ (M 85 4) ≤ x3) → 0 ≤ ((15 + (3 * x3)) + 2) ∧ ((15 + (3 * x3)) + 2) < 105 := by intros; omega) (s2 : (¬ (M 85 4) ≤ x3) → (¬ (M 85 ((15 + (3 * x3)) + 2)) = x1) → -2147483648 ≤ x3 + 1 ∧ x3 + 1 < 2147483648 := by intros; omega) (k2 : (¬ (M 85 4) ≤ x3) → (¬ (M 85 ((15 + (3 * x3)) + 2)) = x1) → bB 231 82 [uR 11 84, uI x1, uX 0, uI (x3 + 1)] [] M Q) (s3 : (¬ (M 85 4) ≤ x3) → ((M 85 ((15 + (3 * x3)) + 2)) = x1) → 0 ≤ x3 ∧ x3 < 6 := by intros; omega) (hA1 : (¬ (M 85 4) ≤ x3) → ((M 85 ((15 + (3 * x3)) + 2)) = x1) → bCt 223 [uR 11 84, uI x3, uI (M 96 x3), uI 0, uX 0, uX 0, uX 0, uX 0, uX 0] M (fun M1 => [uI (g1 M1)]) R1) (hA2 : (¬ (M 85 4) ≤ x3) → ((M 85 ((15 + (3 * x3)) + 2)) = x1) → ∀ M1 : dsMem, R1 M1 → bCt 225 [uR 11 84, uI (g1 M1)] M1 (fun _ => []) (R2 M1)) (s4 : (¬ (M 85 4) ≤ x3) → ((M 85 ((15 + (3 * x3)) + 2)) = x1) → ∀ M1 : dsMem, R1 M1 → ∀ M2 : dsMem, R2 M1 M2 → -2147483648 ≤ x3 + 1 ∧ x3 + 1 < 2147483648 := by intros; omega) (k3 : (¬ (M 85 4) ≤ x3) → ((M 85 ((15 + (3 * x3)) + 2)) = x1) → ∀ M1 : dsMem, R1 M1 → ∀ M2 : dsMem, R2 M1 M2 → bB 231 82 [uR 11 84, uI x1, uX 0, uI (x3 + 1)] [] M2 Q) :
    bB 231 82 [uR 11 84, uI x1, uX 0, uI x3] [] M Q := by
  refine b_iload_n (d231 (j := 57) rfl) rfl ?_
  refine b_aload_n (d231 (j := 58) rfl) rfl ?_
  refine b_callV (d231 (j := 59) rfl) rfl rfl (Or.inl rfl) rfl (bCk_mk (n := 1) (k := 1) (by decide +kernel) rfl rfl) (pu185  ?_)
  refine b_stk [uI (M 85 4), uI x3] rfl ?_
  refine b_icmp_ge (d231 (j := 60) rfl) (fun c1 => ?_) (fun c1 => ?_)
  ·
    exact b_vret (d231 (j := 78) rfl) rfl (k1 c1)
  ·
    refine b_aload_n (d231 (j := 61) rfl) rfl ?_
    refine b_iload_n (d231 (j := 62) rfl) rfl ?_
    refine b_callV (d231 (j := 63) rfl) rfl rfl (Or.inl rfl) rfl (bCk_mk (n := 0) (k := 2) (by decide +kernel) rfl rfl) (pu193 (s1 c1) ?_)
    refine b_stk [uI (M 85 ((15 + (3 * x3)) + 2))] rfl ?_
    refine b_iload_n (d231 (j := 64) rfl) rfl ?_
    refine b_icmp_ne (d231 (j := 65) rfl) (fun c2 => ?_) (fun c2 => ?_)
    ·
      refine b_iinc [uR 11 84, uI x1, uX 0, uI (x3 + 1)] (d231 (j := 76) rfl) rfl (by decide) (s2 c1 c2) rfl ?_
      refine b_goto (d231 (j := 77) rfl) ?_
      exact (k2 c1 c2)
    ·
      refine b_aload_n (d231 (j := 66) rfl) rfl ?_
      refine b_aload_n (d231 (j := 67) rfl) rfl ?_
      refine b_iload_n (d231 (j := 68) rfl) rfl ?_
      refine b_aload_n (d231 (j := 69) rfl) rfl ?_
      refine b_getR (d231 (j := 70) rfl) rfl rfl rfl rfl ?_
      refine b_stk [uR 21 96, uI x3, uR 11 84, uR 11 84] rfl ?_
      refine b_iload_n (d231 (j := 71) rfl) rfl ?_
      refine b_iaload (d231 (j := 72) rfl) rfl (s3 c1 c2) ?_
      refine b_iconst (d231 (j := 73) rfl) (by decide) ?_
      refine b_callV (d231 (j := 74) rfl) rfl rfl (Or.inl rfl) rfl (bCk_mk (n := 1) (k := 4) (by decide +kernel) rfl rfl) ((hA1 c1 c2) _ (fun M1 hR1 => ?_))
      refine b_stk [uI (g1 M1), uR 11 84] rfl ?_
      refine b_callV (d231 (j := 75) rfl) rfl rfl (Or.inl rfl) rfl (bCk_mk (n := 0) (k := 2) (by decide +kernel) rfl rfl) ((hA2 c1 c2 M1 hR1) _ (fun M2 hR2 => ?_))
      refine b_stk [] rfl ?_
      refine b_iinc [uR 11 84, uI x1, uX 0, uI (x3 + 1)] (d231 (j := 76) rfl) rfl (by decide) (s4 c1 c2 M1 hR1 M2 hR2) rfl ?_
      refine b_goto (d231 (j := 77) rfl) ?_
      exact (k3 c1 c2 M1 hR1 M2 hR2)
def L232 : List (Nat × Instr × Nat × Nat) := [(0, .aload_n 0, 1, 0), (1, .iload_n 1, 2, 0), (2, .putfield 307, 5, 0), (5, .iload_n 1, 6, 0), (6, .aload_n 0, 7, 0), (7, .getfield 298, 10, 0), (10, .if_icmp .ne 44, 13, 54), (13, .iconst 0, 14, 0), (14, .istore_n 2, 15, 0), (15, .iload_n 2, 16, 0), (16, .aload_n 0, 17, 0), (17, .invokevirtual 116, 20, 0), (20, .if_icmp .ge 34, 23, 54), (23, .aload_n 0, 24, 0), (24, .getfield 295, 27, 0), (27, .iload_n 2, 28, 0), (28, .invokestatic 304, 31, 0), (31, .iconst 1, 32, 0), (32, .if_icmp .ne 16, 35, 48), (35, .aload_n 0, 36, 0), (36, .iload_n 2, 37, 0), (37, .aload_n 0, 38, 0), (38, .getfield 49, 41, 0), (41, .iload_n 2, 42, 0), (42, .iaload, 43, 0), (43, .iconst 0, 44, 0), (44, .invokevirtual 316, 47, 0), (47, .pop, 48, 0), (48, .iinc 2 1, 51, 0), (51, .goto (-36), 54, 15), (54, .iconst 0, 55, 0), (55, .istore_n 2, 56, 0), (56, .iload_n 2, 57, 0), (57, .aload_n 0, 58, 0), (58, .getfield 9, 61, 0), (61, .iconst 5, 62, 0), (62, .iaload, 63, 0), (63, .if_icmp .ge 66, 66, 129), (66, .aload_n 0, 67, 0), (67, .getfield 9, 70, 0), (70, .bipush 33, 72, 0), (72, .iconst 3, 73, 0), (73, .iload_n 2, 74, 0), (74, .imul, 75, 0), (75, .iadd, 76, 0), (76, .iconst 2, 77, 0), (77, .iadd, 78, 0), (78, .iaload, 79, 0), (79, .iload_n 1, 80, 0), (80, .if_icmp .ne 43, 83, 123), (83, .aload_n 0, 84, 0), (84, .getfield 280, 87, 0), (87, .iload_n 2, 88, 0), (88, .invokestatic 304, 91, 0), (91, .iconst 1, 92, 0), (92, .if_icmp .ne 31, 95, 123), (95, .aload_n 0, 96, 0), (96, .aload_n 0, 97, 0), (97, .getfield 9, 100, 0), (100, .bipush 33, 102, 0), (102, .iconst 3, 103, 0), (103, .iload_n 2, 104, 0), (104, .imul, 105, 0), (105, .iadd, 106, 0), (106, .iaload, 107, 0), (107, .aload_n 0, 108, 0), (108, .getfield 9, 111, 0), (111, .bipush 33, 113, 0), (113, .iconst 3, 114, 0), (114, .iload_n 2, 115, 0), (115, .imul, 116, 0), (116, .iadd, 117, 0), (117, .iconst 1, 118, 0), (118, .iadd, 119, 0), (119, .iaload, 120, 0), (120, .invokevirtual 340, 123, 0), (123, .iinc 2 1, 126, 0), (126, .goto (-70), 129, 56), (129, .iconst 0, 130, 0), (130, .istore_n 2, 131, 0), (131, .iload_n 2, 132, 0), (132, .aload_n 0, 133, 0), (133, .getfield 9, 136, 0), (136, .bipush 7, 138, 0), (138, .iaload, 139, 0), (139, .if_icmp .ge 52, 142, 191), (142, .aload_n 0, 143, 0), (143, .getfield 9, 146, 0), (146, .bipush 75, 148, 0), (148, .iload_n 2, 149, 0), (149, .iadd, 150, 0), (150, .iaload, 151, 0), (151, .istore_n 3, 152, 0), (152, .iload_n 3, 153, 0), (153, .ldc_w 344, 156, 0), (156, .if_icmp .ge 29, 159, 185), (159, .iload_n 3, 160, 0), (160, .sipush 1000, 163, 0), (163, .irem, 164, 0), (164, .iload_n 1, 165, 0), (165, .if_icmp .ne 20, 168, 185), (168, .aload_n 0, 169, 0), (169, .iload_n 3, 170, 0), (170, .ldc_w 345, 173, 0), (173, .idiv, 174, 0), (174, .iload_n 3, 175, 0), (175, .sipush 1000, 178, 0), (178, .idiv, 179, 0), (179, .bipush 100, 181, 0), (181, .irem, 182, 0), (182, .invokevirtual 340, 185, 0), (185, .iinc 2 1, 188, 0), (188, .goto (-57), 191, 131), (191, .iconst 0, 192, 0), (192, .istore_n 2, 193, 0), (193, .iload_n 2, 194, 0), (194, .aload_n 0, 195, 0), (195, .getfield 9, 198, 0), (198, .bipush 6, 200, 0), (200, .iaload, 201, 0), (201, .if_icmp .ge 66, 204, 267), (204, .aload_n 0, 205, 0), (205, .getfield 9, 208, 0), (208, .bipush 57, 210, 0), (210, .iconst 3, 211, 0), (211, .iload_n 2, 212, 0), (212, .imul, 213, 0), (213, .iadd, 214, 0), (214, .iconst 2, 215, 0), (215, .iadd, 216, 0), (216, .iaload, 217, 0), (217, .iload_n 1, 218, 0), (218, .if_icmp .ne 43, 221, 261), (221, .aload_n 0, 222, 0), (222, .getfield 283, 225, 0), (225, .iload_n 2, 226, 0), (226, .invokestatic 304, 229, 0), (229, .iconst 1, 230, 0), (230, .if_icmp .ne 31, 233, 261), (233, .aload_n 0, 234, 0), (234, .aload_n 0, 235, 0), (235, .getfield 9, 238, 0), (238, .bipush 57, 240, 0), (240, .iconst 3, 241, 0), (241, .iload_n 2, 242, 0), (242, .imul, 243, 0), (243, .iadd, 244, 0), (244, .iaload, 245, 0), (245, .aload_n 0, 246, 0), (246, .getfield 9, 249, 0), (249, .bipush 57, 251, 0), (251, .iconst 3, 252, 0), (252, .iload_n 2, 253, 0), (253, .imul, 254, 0), (254, .iadd, 255, 0), (255, .iconst 1, 256, 0), (256, .iadd, 257, 0), (257, .iaload, 258, 0), (258, .invokevirtual 346, 261, 0), (261, .iinc 2 1, 264, 0), (264, .goto (-71), 267, 193), (267, .iconst 0, 268, 0), (268, .istore_n 2, 269, 0), (269, .iload_n 2, 270, 0), (270, .aload_n 0, 271, 0), (271, .getfield 9, 274, 0), (274, .bipush 7, 276, 0), (276, .iaload, 277, 0), (277, .if_icmp .ge 53, 280, 330), (280, .aload_n 0, 281, 0), (281, .getfield 9, 284, 0), (284, .bipush 75, 286, 0), (286, .iload_n 2, 287, 0), (287, .iadd, 288, 0), (288, .iaload, 289, 0), (289, .ldc_w 344, 292, 0), (292, .isub, 293, 0), (293, .istore_n 3, 294, 0), (294, .iload_n 3, 295, 0), (295, .ifCond .lt 29, 298, 324), (298, .iload_n 3, 299, 0), (299, .sipush 1000, 302, 0), (302, .irem, 303, 0), (303, .iload_n 1, 304, 0), (304, .if_icmp .ne 20, 307, 324), (307, .aload_n 0, 308, 0), (308, .iload_n 3, 309, 0), (309, .sipush 1000, 312, 0), (312, .idiv, 313, 0), (313, .bipush 100, 315, 0), (315, .irem, 316, 0), (316, .iload_n 3, 317, 0), (317, .ldc_w 345, 320, 0), (320, .idiv, 321, 0), (321, .invokevirtual 346, 324, 0), (324, .iinc 2 1, 327, 0), (327, .goto (-58), 330, 269), (330, .iconst 0, 331, 0), (331, .istore_n 2, 332, 0), (332, .iload_n 2, 333, 0), (333, .aload_n 0, 334, 0), (334, .invokevirtual 127, 337, 0), (337, .if_icmp .ge 14, 340, 351), (340, .aload_n 0, 341, 0), (341, .iload_n 2, 342, 0), (342, .invokevirtual 349, 345, 0), (345, .iinc 2 1, 348, 0), (348, .goto (-16), 351, 332), (351, .return_, 352, 0)]
set_option maxRecDepth 100000 in
theorem L232_ok : L232.all (dck 232) = true := by decide +kernel
theorem d232 {j pc nx tg : Nat} {ins : Instr} (hj : L232[j]? = some (pc, ins, nx, tg)) : dcd 232 pc ins nx tg := dcl_ok L232_ok hj
set_option maxRecDepth 100000 in
set_option maxHeartbeats 4000000 in
theorem r232_0 {x1 : Int}  {M : dsMem} {Q : bQT} (k1 : (¬ x1 = (M 84 23)) → bB 232 56 [uR 11 84, uI x1, uI 0, uX 0] [] (dsSet M 84 34 x1) Q) (k2 : (x1 = (M 84 23)) → bB 232 15 [uR 11 84, uI x1, uI 0, uX 0] [] (dsSet M 84 34 x1) Q) :
    bB 232 0 [uR 11 84, uI x1, uX 0, uX 0] [] M Q := by
  refine b_aload_n (d232 (j := 0) rfl) rfl ?_
  refine b_iload_n (d232 (j := 1) rfl) rfl ?_
  refine b_putI (d232 (j := 2) rfl) rfl ⟨rfl, rfl⟩ rfl rfl ?_
  refine b_iload_n (d232 (j := 3) rfl) rfl ?_
  refine b_aload_n (d232 (j := 4) rfl) rfl ?_
  refine b_getI (d232 (j := 5) rfl) rfl rfl rfl rfl (Or.inl rfl) ?_
  refine b_stk [uI (M 84 23), uI x1] (by rw [ds_get_ni (by omega)] <;> rfl) ?_
  refine b_icmp_ne (d232 (j := 6) rfl) (fun c1 => ?_) (fun c1 => ?_)
  ·
    refine b_iconst (d232 (j := 30) rfl) (by decide) ?_
    refine b_istore_n [uR 11 84, uI x1, uI 0, uX 0] (d232 (j := 31) rfl) (by decide) rfl ?_
    exact (k1 c1)
  ·
    refine b_iconst (d232 (j := 7) rfl) (by decide) ?_
    refine b_istore_n [uR 11 84, uI x1, uI 0, uX 0] (d232 (j := 8) rfl) (by decide) rfl ?_
    exact (k2 c1)
set_option maxRecDepth 100000 in
set_option maxHeartbeats 4000000 in
theorem r232_56 {x1 x2 : Int} {R1 : dsMem → Prop} {M : dsMem} {Q : bQT} (k1 : ((M 85 5) ≤ x2) → bB 232 131 [uR 11 84, uI x1, uI 0, uX 0] [] M Q) (s1 : (¬ (M 85 5) ≤ x2) → 0 ≤ ((33 + (3 * x2)) + 2) ∧ ((33 + (3 * x2)) + 2) < 105 := by intros; omega) (s2 : (¬ (M 85 5) ≤ x2) → (¬ (M 85 ((33 + (3 * x2)) + 2)) = x1) → -2147483648 ≤ x2 + 1 ∧ x2 + 1 < 2147483648 := by intros; omega) (k2 : (¬ (M 85 5) ≤ x2) → (¬ (M 85 ((33 + (3 * x2)) + 2)) = x1) → bB 232 56 [uR 11 84, uI x1, uI (x2 + 1), uX 0] [] M Q) (s3 : (¬ (M 85 5) ≤ x2) → ((M 85 ((33 + (3 * x2)) + 2)) = x1) → (¬ (dsAnd (dsShr (M 84 18) x2) 1) = 1) → -2147483648 ≤ x2 + 1 ∧ x2 + 1 < 2147483648 := by intros; omega) (k3 : (¬ (M 85 5) ≤ x2) → ((M 85 ((33 + (3 * x2)) + 2)) = x1) → (¬ (dsAnd (dsShr (M 84 18) x2) 1) = 1) → bB 232 56 [uR 11 84, uI x1, uI (x2 + 1), uX 0] [] M Q) (s4 : (¬ (M 85 5) ≤ x2) → ((M 85 ((33 + (3 * x2)) + 2)) = x1) → ((dsAnd (dsShr (M 84 18) x2) 1) = 1) → 0 ≤ (33 + (3 * x2)) ∧ (33 + (3 * x2)) < 105 := by intros; omega) (s5 : (¬ (M 85 5) ≤ x2) → ((M 85 ((33 + (3 * x2)) + 2)) = x1) → ((dsAnd (dsShr (M 84 18) x2) 1) = 1) → 0 ≤ ((33 + (3 * x2)) + 1) ∧ ((33 + (3 * x2)) + 1) < 105 := by intros; omega) (hA1 : (¬ (M 85 5) ≤ x2) → ((M 85 ((33 + (3 * x2)) + 2)) = x1) → ((dsAnd (dsShr (M 84 18) x2) 1) = 1) → bCt 228 [uR 11 84, uI (M 85 (33 + (3 * x2))), uI (M 85 ((33 + (3 * x2)) + 1)), uX 0] M (fun _ => []) R1) (s6 : (¬ (M 85 5) ≤ x2) → ((M 85 ((33 + (3 * x2)) + 2)) = x1) → ((dsAnd (dsShr (M 84 18) x2) 1) = 1) → ∀ M1 : dsMem, R1 M1 → -2147483648 ≤ x2 + 1 ∧ x2 + 1 < 2147483648 := by intros; omega) (k4 : (¬ (M 85 5) ≤ x2) → ((M 85 ((33 + (3 * x2)) + 2)) = x1) → ((dsAnd (dsShr (M 84 18) x2) 1) = 1) → ∀ M1 : dsMem, R1 M1 → bB 232 56 [uR 11 84, uI x1, uI (x2 + 1), uX 0] [] M1 Q) :
    bB 232 56 [uR 11 84, uI x1, uI x2, uX 0] [] M Q := by
  refine b_iload_n (d232 (j := 32) rfl) rfl ?_
  refine b_aload_n (d232 (j := 33) rfl) rfl ?_
  refine b_getR (d232 (j := 34) rfl) rfl rfl rfl rfl ?_
  refine b_stk [uR 38 85, uI x2] rfl ?_
  refine b_iconst (d232 (j := 35) rfl) (by decide) ?_
  refine b_iaload (d232 (j := 36) rfl) rfl (by decide) ?_
  refine b_icmp_ge (d232 (j := 37) rfl) (fun c1 => ?_) (fun c1 => ?_)
  ·
    refine b_iconst (d232 (j := 78) rfl) (by decide) ?_
    refine b_istore_n [uR 11 84, uI x1, uI 0, uX 0] (d232 (j := 79) rfl) (by decide) rfl ?_
    exact (k1 c1)
  ·
    refine b_aload_n (d232 (j := 38) rfl) rfl ?_
    refine b_getR (d232 (j := 39) rfl) rfl rfl rfl rfl ?_
    refine b_stk [uR 38 85] rfl ?_
    refine b_bipush (d232 (j := 40) rfl) (by decide) ?_
    refine b_iconst (d232 (j := 41) rfl) (by decide) ?_
    refine b_iload_n (d232 (j := 42) rfl) rfl ?_
    refine b_imul (d232 (j := 43) rfl) rfl rfl ?_
    refine b_iadd (d232 (j := 44) rfl) rfl (dsw_dsw _) ?_
    refine b_iconst (d232 (j := 45) rfl) (by decide) ?_
    refine b_iadd (d232 (j := 46) rfl) (dsw_dsw _) rfl ?_
    refine b_stk [uI ((33 + (3 * x2)) + 2), uR 38 85] (by rw [dsw_b (s1 c1) (by decide)]) ?_
    refine b_iaload (d232 (j := 47) rfl) rfl (s1 c1) ?_
    refine b_iload_n (d232 (j := 48) rfl) rfl ?_
    refine b_icmp_ne (d232 (j := 49) rfl) (fun c2 => ?_) (fun c2 => ?_)
    ·
      refine b_iinc [uR 11 84, uI x1, uI (x2 + 1), uX 0] (d232 (j := 76) rfl) rfl (by decide) (s2 c1 c2) rfl ?_
      refine b_goto (d232 (j := 77) rfl) ?_
      exact (k2 c1 c2)
    ·
      refine b_aload_n (d232 (j := 50) rfl) rfl ?_
      refine b_getI (d232 (j := 51) rfl) rfl rfl rfl rfl (Or.inl rfl) ?_
      refine b_stk [uI (M 84 18)] rfl ?_
      refine b_iload_n (d232 (j := 52) rfl) rfl ?_
      refine b_callS (d232 (j := 53) rfl) (Or.inl rfl) rfl (bCk_mk (n := 0) (k := 2) (by decide +kernel) rfl rfl) (pu179  ?_)
      refine b_stk [uI (dsAnd (dsShr (M 84 18) x2) 1)] rfl ?_
      refine b_iconst (d232 (j := 54) rfl) (by decide) ?_
      refine b_icmp_ne (d232 (j := 55) rfl) (fun c3 => ?_) (fun c3 => ?_)
      ·
        refine b_iinc [uR 11 84, uI x1, uI (x2 + 1), uX 0] (d232 (j := 76) rfl) rfl (by decide) (s3 c1 c2 c3) rfl ?_
        refine b_goto (d232 (j := 77) rfl) ?_
        exact (k3 c1 c2 c3)
      ·
        refine b_aload_n (d232 (j := 56) rfl) rfl ?_
        refine b_aload_n (d232 (j := 57) rfl) rfl ?_
        refine b_getR (d232 (j := 58) rfl) rfl rfl rfl rfl ?_
        refine b_stk [uR 38 85, uR 11 84] rfl ?_
        refine b_bipush (d232 (j := 59) rfl) (by decide) ?_
        refine b_iconst (d232 (j := 60) rfl) (by decide) ?_
        refine b_iload_n (d232 (j := 61) rfl) rfl ?_
        refine b_imul (d232 (j := 62) rfl) rfl rfl ?_
        refine b_iadd (d232 (j := 63) rfl) rfl (dsw_dsw _) ?_
        refine b_stk [uI (33 + (3 * x2)), uR 38 85, uR 11 84] (by rw [dsw_b (s4 c1 c2 c3) (by decide)]) ?_
        refine b_iaload (d232 (j := 64) rfl) rfl (s4 c1 c2 c3) ?_
        refine b_aload_n (d232 (j := 65) rfl) rfl ?_
        refine b_getR (d232 (j := 66) rfl) rfl rfl rfl rfl ?_
        refine b_stk [uR 38 85, uI (M 85 (33 + (3 * x2))), uR 11 84] rfl ?_
        refine b_bipush (d232 (j := 67) rfl) (by decide) ?_
        refine b_iconst (d232 (j := 68) rfl) (by decide) ?_
        refine b_iload_n (d232 (j := 69) rfl) rfl ?_
        refine b_imul (d232 (j := 70) rfl) rfl rfl ?_
        refine b_iadd (d232 (j := 71) rfl) rfl (dsw_dsw _) ?_
        refine b_iconst (d232 (j := 72) rfl) (by decide) ?_
        refine b_iadd (d232 (j := 73) rfl) (dsw_dsw _) rfl ?_
        refine b_stk [uI ((33 + (3 * x2)) + 1), uR 38 85, uI (M 85 (33 + (3 * x2))), uR 11 84] (by rw [dsw_b (s5 c1 c2 c3) (by decide)]) ?_
        refine b_iaload (d232 (j := 74) rfl) rfl (s5 c1 c2 c3) ?_
        refine b_callV (d232 (j := 75) rfl) rfl rfl (Or.inl rfl) rfl (bCk_mk (n := 0) (k := 3) (by decide +kernel) rfl rfl) ((hA1 c1 c2 c3) _ (fun M1 hR1 => ?_))
        refine b_stk [] rfl ?_
        refine b_iinc [uR 11 84, uI x1, uI (x2 + 1), uX 0] (d232 (j := 76) rfl) rfl (by decide) (s6 c1 c2 c3 M1 hR1) rfl ?_
        refine b_goto (d232 (j := 77) rfl) ?_
        exact (k4 c1 c2 c3 M1 hR1)
set_option maxRecDepth 100000 in
set_option maxHeartbeats 4000000 in
theorem r232_15 {x1 x2 : Int} {R1 : dsMem → Prop} {g1 : dsMem → Int} {M : dsMem} {Q : bQT} (k1 : ((M 85 4) ≤ x2) → bB 232 56 [uR 11 84, uI x1, uI 0, uX 0] [] M Q) (s1 : (¬ (M 85 4) ≤ x2) → (¬ (dsAnd (dsShr (M 84 22) x2) 1) = 1) → -2147483648 ≤ x2 + 1 ∧ x2 + 1 < 2147483648 := by intros; omega) (k2 : (¬ (M 85 4) ≤ x2) → (¬ (dsAnd (dsShr (M 84 22) x2) 1) = 1) → bB 232 15 [uR 11 84, uI x1, uI (x2 + 1), uX 0] [] M Q) (s2 : (¬ (M 85 4) ≤ x2) → ((dsAnd (dsShr (M 84 22) x2) 1) = 1) → 0 ≤ x2 ∧ x2 < 6 := by intros; omega) (hA1 : (¬ (M 85 4) ≤ x2) → ((dsAnd (dsShr (M 84 22) x2) 1) = 1) → bCt 223 [uR 11 84, uI x2, uI (M 96 x2), uI 0, uX 0, uX 0, uX 0, uX 0, uX 0] M (fun M1 => [uI (g1 M1)]) R1) (s3 : (¬ (M 85 4) ≤ x2) → ((dsAnd (dsShr (M 84 22) x2) 1) = 1) → ∀ M1 : dsMem, R1 M1 → -2147483648 ≤ x2 + 1 ∧ x2 + 1 < 2147483648 := by intros; omega) (k3 : (¬ (M 85 4) ≤ x2) → ((dsAnd (dsShr (M 84 22) x2) 1) = 1) → ∀ M1 : dsMem, R1 M1 → bB 232 15 [uR 11 84, uI x1, uI (x2 + 1), uX 0] [] M1 Q) :
    bB 232 15 [uR 11 84, uI x1, uI x2, uX 0] [] M Q := by
  refine b_iload_n (d232 (j := 9) rfl) rfl ?_
  refine b_aload_n (d232 (j := 10) rfl) rfl ?_
  refine b_callV (d232 (j := 11) rfl) rfl rfl (Or.inl rfl) rfl (bCk_mk (n := 1) (k := 1) (by decide +kernel) rfl rfl) (pu185  ?_)
  refine b_stk [uI (M 85 4), uI x2] rfl ?_
  refine b_icmp_ge (d232 (j := 12) rfl) (fun c1 => ?_) (fun c1 => ?_)
  ·
    refine b_iconst (d232 (j := 30) rfl) (by decide) ?_
    refine b_istore_n [uR 11 84, uI x1, uI 0, uX 0] (d232 (j := 31) rfl) (by decide) rfl ?_
    exact (k1 c1)
  ·
    refine b_aload_n (d232 (j := 13) rfl) rfl ?_
    refine b_getI (d232 (j := 14) rfl) rfl rfl rfl rfl (Or.inl rfl) ?_
    refine b_stk [uI (M 84 22)] rfl ?_
    refine b_iload_n (d232 (j := 15) rfl) rfl ?_
    refine b_callS (d232 (j := 16) rfl) (Or.inl rfl) rfl (bCk_mk (n := 0) (k := 2) (by decide +kernel) rfl rfl) (pu179  ?_)
    refine b_stk [uI (dsAnd (dsShr (M 84 22) x2) 1)] rfl ?_
    refine b_iconst (d232 (j := 17) rfl) (by decide) ?_
    refine b_icmp_ne (d232 (j := 18) rfl) (fun c2 => ?_) (fun c2 => ?_)
    ·
      refine b_iinc [uR 11 84, uI x1, uI (x2 + 1), uX 0] (d232 (j := 28) rfl) rfl (by decide) (s1 c1 c2) rfl ?_
      refine b_goto (d232 (j := 29) rfl) ?_
      exact (k2 c1 c2)
    ·
      refine b_aload_n (d232 (j := 19) rfl) rfl ?_
      refine b_iload_n (d232 (j := 20) rfl) rfl ?_
      refine b_aload_n (d232 (j := 21) rfl) rfl ?_
      refine b_getR (d232 (j := 22) rfl) rfl rfl rfl rfl ?_
      refine b_stk [uR 21 96, uI x2, uR 11 84] rfl ?_
      refine b_iload_n (d232 (j := 23) rfl) rfl ?_
      refine b_iaload (d232 (j := 24) rfl) rfl (s2 c1 c2) ?_
      refine b_iconst (d232 (j := 25) rfl) (by decide) ?_
      refine b_callV (d232 (j := 26) rfl) rfl rfl (Or.inl rfl) rfl (bCk_mk (n := 0) (k := 4) (by decide +kernel) rfl rfl) ((hA1 c1 c2) _ (fun M1 hR1 => ?_))
      refine b_stk [uI (g1 M1)] rfl ?_
      refine b_pop (d232 (j := 27) rfl) rfl ?_
      refine b_iinc [uR 11 84, uI x1, uI (x2 + 1), uX 0] (d232 (j := 28) rfl) rfl (by decide) (s3 c1 c2 M1 hR1) rfl ?_
      refine b_goto (d232 (j := 29) rfl) ?_
      exact (k3 c1 c2 M1 hR1)
set_option maxRecDepth 100000 in
set_option maxHeartbeats 4000000 in
theorem r232_131 {x1 x2 : Int} {R1 : dsMem → Prop} {M : dsMem} {Q : bQT} (k1 : ((M 85 7) ≤ x2) → bB 232 193 [uR 11 84, uI x1, uI 0, uX 0] [] M Q) (s1 : (¬ (M 85 7) ≤ x2) → 0 ≤ (75 + x2) ∧ (75 + x2) < 105 := by intros; omega) (s2 : (¬ (M 85 7) ≤ x2) → (10000000 ≤ (M 85 (75 + x2))) → -2147483648 ≤ x2 + 1 ∧ x2 + 1 < 2147483648 := by intros; omega) (k2 : (¬ (M 85 7) ≤ x2) → (10000000 ≤ (M 85 (75 + x2))) → bB 232 131 [uR 11 84, uI x1, uI (x2 + 1), uX 0] [] M Q) (s3 : (¬ (M 85 7) ≤ x2) → (¬ 10000000 ≤ (M 85 (75 + x2))) → 0 ≤ (M 85 (75 + x2)) ∧ (0 : Int) < 1000 := by intros; omega) (s4 : (¬ (M 85 7) ≤ x2) → (¬ 10000000 ≤ (M 85 (75 + x2))) → (¬ ((M 85 (75 + x2)) % 1000) = x1) → -2147483648 ≤ x2 + 1 ∧ x2 + 1 < 2147483648 := by intros; omega) (k3 : (¬ (M 85 7) ≤ x2) → (¬ 10000000 ≤ (M 85 (75 + x2))) → (¬ ((M 85 (75 + x2)) % 1000) = x1) → bB 232 131 [uR 11 84, uI x1, uI (x2 + 1), uX 0] [] M Q) (s5 : (¬ (M 85 7) ≤ x2) → (¬ 10000000 ≤ (M 85 (75 + x2))) → (((M 85 (75 + x2)) % 1000) = x1) → (0 ≤ (M 85 (75 + x2)) ∧ (M 85 (75 + x2)) < 2147483648) ∧ (0 : Int) < 100000 := by intros; omega) (s6 : (¬ (M 85 7) ≤ x2) → (¬ 10000000 ≤ (M 85 (75 + x2))) → (((M 85 (75 + x2)) % 1000) = x1) → (0 ≤ (M 85 (75 + x2)) ∧ (M 85 (75 + x2)) < 2147483648) ∧ (0 : Int) < 1000 := by intros; omega) (s7 : (¬ (M 85 7) ≤ x2) → (¬ 10000000 ≤ (M 85 (75 + x2))) → (((M 85 (75 + x2)) % 1000) = x1) → 0 ≤ ((M 85 (75 + x2)) / 1000) ∧ (0 : Int) < 100 := by intros; omega) (hA1 : (¬ (M 85 7) ≤ x2) → (¬ 10000000 ≤ (M 85 (75 + x2))) → (((M 85 (75 + x2)) % 1000) = x1) → bCt 228 [uR 11 84, uI ((M 85 (75 + x2)) / 100000), uI (((M 85 (75 + x2)) / 1000) % 100), uX 0] M (fun _ => []) R1) (s8 : (¬ (M 85 7) ≤ x2) → (¬ 10000000 ≤ (M 85 (75 + x2))) → (((M 85 (75 + x2)) % 1000) = x1) → ∀ M1 : dsMem, R1 M1 → -2147483648 ≤ x2 + 1 ∧ x2 + 1 < 2147483648 := by intros; omega) (k4 : (¬ (M 85 7) ≤ x2) → (¬ 10000000 ≤ (M 85 (75 + x2))) → (((M 85 (75 + x2)) % 1000) = x1) → ∀ M1 : dsMem, R1 M1 → bB 232 131 [uR 11 84, uI x1, uI (x2 + 1), uX 0] [] M1 Q) :
    bB 232 131 [uR 11 84, uI x1, uI x2, uX 0] [] M Q := by
  refine b_iload_n (d232 (j := 80) rfl) rfl ?_
  refine b_aload_n (d232 (j := 81) rfl) rfl ?_
  refine b_getR (d232 (j := 82) rfl) rfl rfl rfl rfl ?_
  refine b_stk [uR 38 85, uI x2] rfl ?_
  refine b_bipush (d232 (j := 83) rfl) (by decide) ?_
  refine b_iaload (d232 (j := 84) rfl) rfl (by decide) ?_
  refine b_icmp_ge (d232 (j := 85) rfl) (fun c1 => ?_) (fun c1 => ?_)
  ·
    refine b_iconst (d232 (j := 113) rfl) (by decide) ?_
    refine b_istore_n [uR 11 84, uI x1, uI 0, uX 0] (d232 (j := 114) rfl) (by decide) rfl ?_
    exact (k1 c1)
  ·
    refine b_aload_n (d232 (j := 86) rfl) rfl ?_
    refine b_getR (d232 (j := 87) rfl) rfl rfl rfl rfl ?_
    refine b_stk [uR 38 85] rfl ?_
    refine b_bipush (d232 (j := 88) rfl) (by decide) ?_
    refine b_iload_n (d232 (j := 89) rfl) rfl ?_
    refine b_iadd (d232 (j := 90) rfl) rfl rfl ?_
    refine b_stk [uI (75 + x2), uR 38 85] (by rw [dsw_b (s1 c1) (by decide)]) ?_
    refine b_iaload (d232 (j := 91) rfl) rfl (s1 c1) ?_
    refine b_istore_n [uR 11 84, uI x1, uI x2, uI (M 85 (75 + x2))] (d232 (j := 92) rfl) (by decide) rfl ?_
    refine b_iload_n (d232 (j := 93) rfl) rfl ?_
    refine b_ldcw (d232 (j := 94) rfl) rfl ?_
    refine b_icmp_ge (d232 (j := 95) rfl) (fun c2 => ?_) (fun c2 => ?_)
    ·
      refine b_iinc [uR 11 84, uI x1, uI (x2 + 1), uI (M 85 (75 + x2))] (d232 (j := 111) rfl) rfl (by decide) (s2 c1 c2) rfl ?_
      refine b_goto (d232 (j := 112) rfl) ?_
      exact bB_le _ (bLe_s (bLe_s (bLe_s (bLe_x bLe_nil)))) (k2 c1 c2)
    ·
      refine b_iload_n (d232 (j := 96) rfl) rfl ?_
      refine b_sipush (d232 (j := 97) rfl) (by decide) ?_
      refine b_iremP (d232 (j := 98) rfl) (s3 c1 c2) ?_
      refine b_iload_n (d232 (j := 99) rfl) rfl ?_
      refine b_icmp_ne (d232 (j := 100) rfl) (fun c3 => ?_) (fun c3 => ?_)
      ·
        refine b_iinc [uR 11 84, uI x1, uI (x2 + 1), uI (M 85 (75 + x2))] (d232 (j := 111) rfl) rfl (by decide) (s4 c1 c2 c3) rfl ?_
        refine b_goto (d232 (j := 112) rfl) ?_
        exact bB_le _ (bLe_s (bLe_s (bLe_s (bLe_x bLe_nil)))) (k3 c1 c2 c3)
      ·
        refine b_aload_n (d232 (j := 101) rfl) rfl ?_
        refine b_iload_n (d232 (j := 102) rfl) rfl ?_
        refine b_ldcw (d232 (j := 103) rfl) rfl ?_
        refine b_idivP (d232 (j := 104) rfl) (s5 c1 c2 c3) ?_
        refine b_iload_n (d232 (j := 105) rfl) rfl ?_
        refine b_sipush (d232 (j := 106) rfl) (by decide) ?_
        refine b_idivP (d232 (j := 107) rfl) (s6 c1 c2 c3) ?_
        refine b_bipush (d232 (j := 108) rfl) (by decide) ?_
        refine b_iremP (d232 (j := 109) rfl) (s7 c1 c2 c3) ?_
        refine b_callV (d232 (j := 110) rfl) rfl rfl (Or.inl rfl) rfl (bCk_mk (n := 0) (k := 3) (by decide +kernel) rfl rfl) ((hA1 c1 c2 c3) _ (fun M1 hR1 => ?_))
        refine b_stk [] rfl ?_
        refine b_iinc [uR 11 84, uI x1, uI (x2 + 1), uI (M 85 (75 + x2))] (d232 (j := 111) rfl) rfl (by decide) (s8 c1 c2 c3 M1 hR1) rfl ?_
        refine b_goto (d232 (j := 112) rfl) ?_
        exact bB_le _ (bLe_s (bLe_s (bLe_s (bLe_x bLe_nil)))) (k4 c1 c2 c3 M1 hR1)
set_option maxRecDepth 100000 in
set_option maxHeartbeats 4000000 in
theorem r232_193 {x1 x2 : Int} {R1 : dsMem → Prop} {M : dsMem} {Q : bQT} (k1 : ((M 85 6) ≤ x2) → bB 232 269 [uR 11 84, uI x1, uI 0, uX 0] [] M Q) (s1 : (¬ (M 85 6) ≤ x2) → 0 ≤ ((57 + (3 * x2)) + 2) ∧ ((57 + (3 * x2)) + 2) < 105 := by intros; omega) (s2 : (¬ (M 85 6) ≤ x2) → (¬ (M 85 ((57 + (3 * x2)) + 2)) = x1) → -2147483648 ≤ x2 + 1 ∧ x2 + 1 < 2147483648 := by intros; omega) (k2 : (¬ (M 85 6) ≤ x2) → (¬ (M 85 ((57 + (3 * x2)) + 2)) = x1) → bB 232 193 [uR 11 84, uI x1, uI (x2 + 1), uX 0] [] M Q) (s3 : (¬ (M 85 6) ≤ x2) → ((M 85 ((57 + (3 * x2)) + 2)) = x1) → (¬ (dsAnd (dsShr (M 84 19) x2) 1) = 1) → -2147483648 ≤ x2 + 1 ∧ x2 + 1 < 2147483648 := by intros; omega) (k3 : (¬ (M 85 6) ≤ x2) → ((M 85 ((57 + (3 * x2)) + 2)) = x1) → (¬ (dsAnd (dsShr (M 84 19) x2) 1) = 1) → bB 232 193 [uR 11 84, uI x1, uI (x2 + 1), uX 0] [] M Q) (s4 : (¬ (M 85 6) ≤ x2) → ((M 85 ((57 + (3 * x2)) + 2)) = x1) → ((dsAnd (dsShr (M 84 19) x2) 1) = 1) → 0 ≤ (57 + (3 * x2)) ∧ (57 + (3 * x2)) < 105 := by intros; omega) (s5 : (¬ (M 85 6) ≤ x2) → ((M 85 ((57 + (3 * x2)) + 2)) = x1) → ((dsAnd (dsShr (M 84 19) x2) 1) = 1) → 0 ≤ ((57 + (3 * x2)) + 1) ∧ ((57 + (3 * x2)) + 1) < 105 := by intros; omega) (hA1 : (¬ (M 85 6) ≤ x2) → ((M 85 ((57 + (3 * x2)) + 2)) = x1) → ((dsAnd (dsShr (M 84 19) x2) 1) = 1) → bCt 229 [uR 11 84, uI (M 85 (57 + (3 * x2))), uI (M 85 ((57 + (3 * x2)) + 1))] M (fun _ => []) R1) (s6 : (¬ (M 85 6) ≤ x2) → ((M 85 ((57 + (3 * x2)) + 2)) = x1) → ((dsAnd (dsShr (M 84 19) x2) 1) = 1) → ∀ M1 : dsMem, R1 M1 → -2147483648 ≤ x2 + 1 ∧ x2 + 1 < 2147483648 := by intros; omega) (k4 : (¬ (M 85 6) ≤ x2) → ((M 85 ((57 + (3 * x2)) + 2)) = x1) → ((dsAnd (dsShr (M 84 19) x2) 1) = 1) → ∀ M1 : dsMem, R1 M1 → bB 232 193 [uR 11 84, uI x1, uI (x2 + 1), uX 0] [] M1 Q) :
    bB 232 193 [uR 11 84, uI x1, uI x2, uX 0] [] M Q := by
  refine b_iload_n (d232 (j := 115) rfl) rfl ?_
  refine b_aload_n (d232 (j := 116) rfl) rfl ?_
  refine b_getR (d232 (j := 117) rfl) rfl rfl rfl rfl ?_
  refine b_stk [uR 38 85, uI x2] rfl ?_
  refine b_bipush (d232 (j := 118) rfl) (by decide) ?_
  refine b_iaload (d232 (j := 119) rfl) rfl (by decide) ?_
  refine b_icmp_ge (d232 (j := 120) rfl) (fun c1 => ?_) (fun c1 => ?_)
  ·
    refine b_iconst (d232 (j := 161) rfl) (by decide) ?_
    refine b_istore_n [uR 11 84, uI x1, uI 0, uX 0] (d232 (j := 162) rfl) (by decide) rfl ?_
    exact (k1 c1)
  ·
    refine b_aload_n (d232 (j := 121) rfl) rfl ?_
    refine b_getR (d232 (j := 122) rfl) rfl rfl rfl rfl ?_
    refine b_stk [uR 38 85] rfl ?_
    refine b_bipush (d232 (j := 123) rfl) (by decide) ?_
    refine b_iconst (d232 (j := 124) rfl) (by decide) ?_
    refine b_iload_n (d232 (j := 125) rfl) rfl ?_
    refine b_imul (d232 (j := 126) rfl) rfl rfl ?_
    refine b_iadd (d232 (j := 127) rfl) rfl (dsw_dsw _) ?_
    refine b_iconst (d232 (j := 128) rfl) (by decide) ?_
    refine b_iadd (d232 (j := 129) rfl) (dsw_dsw _) rfl ?_
    refine b_stk [uI ((57 + (3 * x2)) + 2), uR 38 85] (by rw [dsw_b (s1 c1) (by decide)]) ?_
    refine b_iaload (d232 (j := 130) rfl) rfl (s1 c1) ?_
    refine b_iload_n (d232 (j := 131) rfl) rfl ?_
    refine b_icmp_ne (d232 (j := 132) rfl) (fun c2 => ?_) (fun c2 => ?_)
    ·
      refine b_iinc [uR 11 84, uI x1, uI (x2 + 1), uX 0] (d232 (j := 159) rfl) rfl (by decide) (s2 c1 c2) rfl ?_
      refine b_goto (d232 (j := 160) rfl) ?_
      exact (k2 c1 c2)
    ·
      refine b_aload_n (d232 (j := 133) rfl) rfl ?_
      refine b_getI (d232 (j := 134) rfl) rfl rfl rfl rfl (Or.inl rfl) ?_
      refine b_stk [uI (M 84 19)] rfl ?_
      refine b_iload_n (d232 (j := 135) rfl) rfl ?_
      refine b_callS (d232 (j := 136) rfl) (Or.inl rfl) rfl (bCk_mk (n := 0) (k := 2) (by decide +kernel) rfl rfl) (pu179  ?_)
      refine b_stk [uI (dsAnd (dsShr (M 84 19) x2) 1)] rfl ?_
      refine b_iconst (d232 (j := 137) rfl) (by decide) ?_
      refine b_icmp_ne (d232 (j := 138) rfl) (fun c3 => ?_) (fun c3 => ?_)
      ·
        refine b_iinc [uR 11 84, uI x1, uI (x2 + 1), uX 0] (d232 (j := 159) rfl) rfl (by decide) (s3 c1 c2 c3) rfl ?_
        refine b_goto (d232 (j := 160) rfl) ?_
        exact (k3 c1 c2 c3)
      ·
        refine b_aload_n (d232 (j := 139) rfl) rfl ?_
        refine b_aload_n (d232 (j := 140) rfl) rfl ?_
        refine b_getR (d232 (j := 141) rfl) rfl rfl rfl rfl ?_
        refine b_stk [uR 38 85, uR 11 84] rfl ?_
        refine b_bipush (d232 (j := 142) rfl) (by decide) ?_
        refine b_iconst (d232 (j := 143) rfl) (by decide) ?_
        refine b_iload_n (d232 (j := 144) rfl) rfl ?_
        refine b_imul (d232 (j := 145) rfl) rfl rfl ?_
        refine b_iadd (d232 (j := 146) rfl) rfl (dsw_dsw _) ?_
        refine b_stk [uI (57 + (3 * x2)), uR 38 85, uR 11 84] (by rw [dsw_b (s4 c1 c2 c3) (by decide)]) ?_
        refine b_iaload (d232 (j := 147) rfl) rfl (s4 c1 c2 c3) ?_
        refine b_aload_n (d232 (j := 148) rfl) rfl ?_
        refine b_getR (d232 (j := 149) rfl) rfl rfl rfl rfl ?_
        refine b_stk [uR 38 85, uI (M 85 (57 + (3 * x2))), uR 11 84] rfl ?_
        refine b_bipush (d232 (j := 150) rfl) (by decide) ?_
        refine b_iconst (d232 (j := 151) rfl) (by decide) ?_
        refine b_iload_n (d232 (j := 152) rfl) rfl ?_
        refine b_imul (d232 (j := 153) rfl) rfl rfl ?_
        refine b_iadd (d232 (j := 154) rfl) rfl (dsw_dsw _) ?_
        refine b_iconst (d232 (j := 155) rfl) (by decide) ?_
        refine b_iadd (d232 (j := 156) rfl) (dsw_dsw _) rfl ?_
        refine b_stk [uI ((57 + (3 * x2)) + 1), uR 38 85, uI (M 85 (57 + (3 * x2))), uR 11 84] (by rw [dsw_b (s5 c1 c2 c3) (by decide)]) ?_
        refine b_iaload (d232 (j := 157) rfl) rfl (s5 c1 c2 c3) ?_
        refine b_callV (d232 (j := 158) rfl) rfl rfl (Or.inl rfl) rfl (bCk_mk (n := 0) (k := 3) (by decide +kernel) rfl rfl) ((hA1 c1 c2 c3) _ (fun M1 hR1 => ?_))
        refine b_stk [] rfl ?_
        refine b_iinc [uR 11 84, uI x1, uI (x2 + 1), uX 0] (d232 (j := 159) rfl) rfl (by decide) (s6 c1 c2 c3 M1 hR1) rfl ?_
        refine b_goto (d232 (j := 160) rfl) ?_
        exact (k4 c1 c2 c3 M1 hR1)
set_option maxRecDepth 100000 in
set_option maxHeartbeats 4000000 in
theorem r232_269 {x1 x2 : Int} {R1 : dsMem → Prop} {M : dsMem} {Q : bQT} (k1 : ((M 85 7) ≤ x2) → bB 232 332 [uR 11 84, uX 0, uI 0, uX 0] [] M Q) (s1 : (¬ (M 85 7) ≤ x2) → 0 ≤ (75 + x2) ∧ (75 + x2) < 105 := by intros; omega) (s2 : (¬ (M 85 7) ≤ x2) → -2147483648 ≤ ((M 85 (75 + x2)) - 10000000) ∧ ((M 85 (75 + x2)) - 10000000) < 2147483648 := by intros; omega) (s3 : (¬ (M 85 7) ≤ x2) → (((M 85 (75 + x2)) - 10000000) < 0) → -2147483648 ≤ x2 + 1 ∧ x2 + 1 < 2147483648 := by intros; omega) (k2 : (¬ (M 85 7) ≤ x2) → (((M 85 (75 + x2)) - 10000000) < 0) → bB 232 269 [uR 11 84, uI x1, uI (x2 + 1), uX 0] [] M Q) (s4 : (¬ (M 85 7) ≤ x2) → (¬ ((M 85 (75 + x2)) - 10000000) < 0) → 0 ≤ ((M 85 (75 + x2)) - 10000000) ∧ (0 : Int) < 1000 := by intros; omega) (s5 : (¬ (M 85 7) ≤ x2) → (¬ ((M 85 (75 + x2)) - 10000000) < 0) → (¬ (((M 85 (75 + x2)) - 10000000) % 1000) = x1) → -2147483648 ≤ x2 + 1 ∧ x2 + 1 < 2147483648 := by intros; omega) (k3 : (¬ (M 85 7) ≤ x2) → (¬ ((M 85 (75 + x2)) - 10000000) < 0) → (¬ (((M 85 (75 + x2)) - 10000000) % 1000) = x1) → bB 232 269 [uR 11 84, uI x1, uI (x2 + 1), uX 0] [] M Q) (s6 : (¬ (M 85 7) ≤ x2) → (¬ ((M 85 (75 + x2)) - 10000000) < 0) → ((((M 85 (75 + x2)) - 10000000) % 1000) = x1) → (0 ≤ ((M 85 (75 + x2)) - 10000000) ∧ ((M 85 (75 + x2)) - 10000000) < 2147483648) ∧ (0 : Int) < 1000 := by intros; omega) (s7 : (¬ (M 85 7) ≤ x2) → (¬ ((M 85 (75 + x2)) - 10000000) < 0) → ((((M 85 (75 + x2)) - 10000000) % 1000) = x1) → 0 ≤ (((M 85 (75 + x2)) - 10000000) / 1000) ∧ (0 : Int) < 100 := by intros; omega) (s8 : (¬ (M 85 7) ≤ x2) → (¬ ((M 85 (75 + x2)) - 10000000) < 0) → ((((M 85 (75 + x2)) - 10000000) % 1000) = x1) → (0 ≤ ((M 85 (75 + x2)) - 10000000) ∧ ((M 85 (75 + x2)) - 10000000) < 2147483648) ∧ (0 : Int) < 100000 := by intros; omega) (hA1 : (¬ (M 85 7) ≤ x2) → (¬ ((M 85 (75 + x2)) - 10000000) < 0) → ((((M 85 (75 + x2)) - 10000000) % 1000) = x1) → bCt 229 [uR 11 84, uI ((((M 85 (75 + x2)) - 10000000) / 1000) % 100), uI (((M 85 (75 + x2)) - 10000000) / 100000)] M (fun _ => []) R1) (s9 : (¬ (M 85 7) ≤ x2) → (¬ ((M 85 (75 + x2)) - 10000000) < 0) → ((((M 85 (75 + x2)) - 10000000) % 1000) = x1) → ∀ M1 : dsMem, R1 M1 → -2147483648 ≤ x2 + 1 ∧ x2 + 1 < 2147483648 := by intros; omega) (k4 : (¬ (M 85 7) ≤ x2) → (¬ ((M 85 (75 + x2)) - 10000000) < 0) → ((((M 85 (75 + x2)) - 10000000) % 1000) = x1) → ∀ M1 : dsMem, R1 M1 → bB 232 269 [uR 11 84, uI x1, uI (x2 + 1), uX 0] [] M1 Q) :
    bB 232 269 [uR 11 84, uI x1, uI x2, uX 0] [] M Q := by
  refine b_iload_n (d232 (j := 163) rfl) rfl ?_
  refine b_aload_n (d232 (j := 164) rfl) rfl ?_
  refine b_getR (d232 (j := 165) rfl) rfl rfl rfl rfl ?_
  refine b_stk [uR 38 85, uI x2] rfl ?_
  refine b_bipush (d232 (j := 166) rfl) (by decide) ?_
  refine b_iaload (d232 (j := 167) rfl) rfl (by decide) ?_
  refine b_icmp_ge (d232 (j := 168) rfl) (fun c1 => ?_) (fun c1 => ?_)
  ·
    refine b_iconst (d232 (j := 197) rfl) (by decide) ?_
    refine b_istore_n [uR 11 84, uI x1, uI 0, uX 0] (d232 (j := 198) rfl) (by decide) rfl ?_
    exact bB_le _ (bLe_s (bLe_x (bLe_s (bLe_s bLe_nil)))) (k1 c1)
  ·
    refine b_aload_n (d232 (j := 169) rfl) rfl ?_
    refine b_getR (d232 (j := 170) rfl) rfl rfl rfl rfl ?_
    refine b_stk [uR 38 85] rfl ?_
    refine b_bipush (d232 (j := 171) rfl) (by decide) ?_
    refine b_iload_n (d232 (j := 172) rfl) rfl ?_
    refine b_iadd (d232 (j := 173) rfl) rfl rfl ?_
    refine b_stk [uI (75 + x2), uR 38 85] (by rw [dsw_b (s1 c1) (by decide)]) ?_
    refine b_iaload (d232 (j := 174) rfl) rfl (s1 c1) ?_
    refine b_ldcw (d232 (j := 175) rfl) rfl ?_
    refine b_isub (d232 (j := 176) rfl) rfl rfl ?_
    refine b_stk [uI ((M 85 (75 + x2)) - 10000000)] (by rw [dsw_r (s2 c1)]) ?_
    refine b_istore_n [uR 11 84, uI x1, uI x2, uI ((M 85 (75 + x2)) - 10000000)] (d232 (j := 177) rfl) (by decide) rfl ?_
    refine b_iload_n (d232 (j := 178) rfl) rfl ?_
    refine b_if_lt (d232 (j := 179) rfl) (fun c2 => ?_) (fun c2 => ?_)
    ·
      refine b_iinc [uR 11 84, uI x1, uI (x2 + 1), uI ((M 85 (75 + x2)) - 10000000)] (d232 (j := 195) rfl) rfl (by decide) (s3 c1 c2) rfl ?_
      refine b_goto (d232 (j := 196) rfl) ?_
      exact bB_le _ (bLe_s (bLe_s (bLe_s (bLe_x bLe_nil)))) (k2 c1 c2)
    ·
      refine b_iload_n (d232 (j := 180) rfl) rfl ?_
      refine b_sipush (d232 (j := 181) rfl) (by decide) ?_
      refine b_iremP (d232 (j := 182) rfl) (s4 c1 c2) ?_
      refine b_iload_n (d232 (j := 183) rfl) rfl ?_
      refine b_icmp_ne (d232 (j := 184) rfl) (fun c3 => ?_) (fun c3 => ?_)
      ·
        refine b_iinc [uR 11 84, uI x1, uI (x2 + 1), uI ((M 85 (75 + x2)) - 10000000)] (d232 (j := 195) rfl) rfl (by decide) (s5 c1 c2 c3) rfl ?_
        refine b_goto (d232 (j := 196) rfl) ?_
        exact bB_le _ (bLe_s (bLe_s (bLe_s (bLe_x bLe_nil)))) (k3 c1 c2 c3)
      ·
        refine b_aload_n (d232 (j := 185) rfl) rfl ?_
        refine b_iload_n (d232 (j := 186) rfl) rfl ?_
        refine b_sipush (d232 (j := 187) rfl) (by decide) ?_
        refine b_idivP (d232 (j := 188) rfl) (s6 c1 c2 c3) ?_
        refine b_bipush (d232 (j := 189) rfl) (by decide) ?_
        refine b_iremP (d232 (j := 190) rfl) (s7 c1 c2 c3) ?_
        refine b_iload_n (d232 (j := 191) rfl) rfl ?_
        refine b_ldcw (d232 (j := 192) rfl) rfl ?_
        refine b_idivP (d232 (j := 193) rfl) (s8 c1 c2 c3) ?_
        refine b_callV (d232 (j := 194) rfl) rfl rfl (Or.inl rfl) rfl (bCk_mk (n := 0) (k := 3) (by decide +kernel) rfl rfl) ((hA1 c1 c2 c3) _ (fun M1 hR1 => ?_))
        refine b_stk [] rfl ?_
        refine b_iinc [uR 11 84, uI x1, uI (x2 + 1), uI ((M 85 (75 + x2)) - 10000000)] (d232 (j := 195) rfl) rfl (by decide) (s9 c1 c2 c3 M1 hR1) rfl ?_
        refine b_goto (d232 (j := 196) rfl) ?_
        exact bB_le _ (bLe_s (bLe_s (bLe_s (bLe_x bLe_nil)))) (k4 c1 c2 c3 M1 hR1)
set_option maxRecDepth 100000 in
set_option maxHeartbeats 4000000 in
theorem r232_332 {x2 : Int} {R1 : dsMem → Prop} {M : dsMem} {Q : bQT} (k1 : ((M 85 3) ≤ x2) → Q [] M) (hA1 : (¬ (M 85 3) ≤ x2) → bCt 231 [uR 11 84, uI x2, uX 0, uX 0] M (fun _ => []) R1) (s1 : (¬ (M 85 3) ≤ x2) → ∀ M1 : dsMem, R1 M1 → -2147483648 ≤ x2 + 1 ∧ x2 + 1 < 2147483648 := by intros; omega) (k2 : (¬ (M 85 3) ≤ x2) → ∀ M1 : dsMem, R1 M1 → bB 232 332 [uR 11 84, uX 0, uI (x2 + 1), uX 0] [] M1 Q) :
    bB 232 332 [uR 11 84, uX 0, uI x2, uX 0] [] M Q := by
  refine b_iload_n (d232 (j := 199) rfl) rfl ?_
  refine b_aload_n (d232 (j := 200) rfl) rfl ?_
  refine b_callV (d232 (j := 201) rfl) rfl rfl (Or.inl rfl) rfl (bCk_mk (n := 1) (k := 1) (by decide +kernel) rfl rfl) (pu184  ?_)
  refine b_stk [uI (M 85 3), uI x2] rfl ?_
  refine b_icmp_ge (d232 (j := 202) rfl) (fun c1 => ?_) (fun c1 => ?_)
  ·
    exact b_vret (d232 (j := 208) rfl) rfl (k1 c1)
  ·
    refine b_aload_n (d232 (j := 203) rfl) rfl ?_
    refine b_iload_n (d232 (j := 204) rfl) rfl ?_
    refine b_callV (d232 (j := 205) rfl) rfl rfl (Or.inl rfl) rfl (bCk_mk (n := 0) (k := 2) (by decide +kernel) rfl rfl) ((hA1 c1) _ (fun M1 hR1 => ?_))
    refine b_stk [] rfl ?_
    refine b_iinc [uR 11 84, uX 0, uI (x2 + 1), uX 0] (d232 (j := 206) rfl) rfl (by decide) (s1 c1 M1 hR1) rfl ?_
    refine b_goto (d232 (j := 207) rfl) ?_
    exact (k2 c1 M1 hR1)
def L233 : List (Nat × Instr × Nat × Nat) := [(0, .iconst 0, 1, 0), (1, .istore_n 2, 2, 0), (2, .iload_n 2, 3, 0), (3, .aload_n 0, 4, 0), (4, .invokevirtual 116, 7, 0), (7, .if_icmp .ge 108, 10, 115), (10, .bipush 6, 12, 0), (12, .iload_n 1, 13, 0), (13, .imul, 14, 0), (14, .iload_n 2, 15, 0), (15, .iadd, 16, 0), (16, .istore_n 3, 17, 0), (17, .aload_n 0, 18, 0), (18, .getfield 67, 21, 0), (21, .iload_n 3, 22, 0), (22, .aload_n 0, 23, 0), (23, .getfield 49, 26, 0), (26, .iload_n 2, 27, 0), (27, .iaload, 28, 0), (28, .iastore, 29, 0), (29, .aload_n 0, 30, 0), (30, .getfield 70, 33, 0), (33, .iload_n 3, 34, 0), (34, .aload_n 0, 35, 0), (35, .getfield 46, 38, 0), (38, .iload_n 2, 39, 0), (39, .iaload, 40, 0), (40, .iastore, 41, 0), (41, .iconst 0, 42, 0), (42, .istore 4, 44, 0), (44, .iload 4, 46, 0), (46, .aload_n 0, 47, 0), (47, .getfield 46, 50, 0), (50, .iload_n 2, 51, 0), (51, .iaload, 52, 0), (52, .if_icmp .ge 57, 55, 109), (55, .aload_n 0, 56, 0), (56, .getfield 73, 59, 0), (59, .bipush 60, 61, 0), (61, .iload_n 3, 62, 0), (62, .imul, 63, 0), (63, .iload 4, 65, 0), (65, .iadd, 66, 0), (66, .aload_n 0, 67, 0), (67, .getfield 40, 70, 0), (70, .bipush 60, 72, 0), (72, .iload_n 2, 73, 0), (73, .imul, 74, 0), (74, .iload 4, 76, 0), (76, .iadd, 77, 0), (77, .iaload, 78, 0), (78, .iastore, 79, 0), (79, .aload_n 0, 80, 0), (80, .getfield 76, 83, 0), (83, .bipush 60, 85, 0), (85, .iload_n 3, 86, 0), (86, .imul, 87, 0), (87, .iload 4, 89, 0), (89, .iadd, 90, 0), (90, .aload_n 0, 91, 0), (91, .getfield 43, 94, 0), (94, .bipush 60, 96, 0), (96, .iload_n 2, 97, 0), (97, .imul, 98, 0), (98, .iload 4, 100, 0), (100, .iadd, 101, 0), (101, .iaload, 102, 0), (102, .iastore, 103, 0), (103, .iinc 4 1, 106, 0), (106, .goto (-62), 109, 44), (109, .iinc 2 1, 112, 0), (112, .goto (-110), 115, 2), (115, .iconst 0, 116, 0), (116, .istore_n 2, 117, 0), (117, .iload_n 2, 118, 0), (118, .aload_n 0, 119, 0), (119, .invokevirtual 127, 122, 0), (122, .if_icmp .ge 25, 125, 147), (125, .aload_n 0, 126, 0), (126, .getfield 79, 129, 0), (129, .iconst 3, 130, 0), (130, .iload_n 1, 131, 0), (131, .imul, 132, 0), (132, .iload_n 2, 133, 0), (133, .iadd, 134, 0), (134, .aload_n 0, 135, 0), (135, .getfield 52, 138, 0), (138, .iload_n 2, 139, 0), (139, .iaload, 140, 0), (140, .iastore, 141, 0), (141, .iinc 2 1, 144, 0), (144, .goto (-27), 147, 117), (147, .aload_n 0, 148, 0), (148, .getfield 82, 151, 0), (151, .iload_n 1, 152, 0), (152, .aload_n 0, 153, 0), (153, .getfield 301, 156, 0), (156, .iastore, 157, 0), (157, .return_, 158, 0)]
set_option maxRecDepth 100000 in
theorem L233_ok : L233.all (dck 233) = true := by decide +kernel
theorem d233 {j pc nx tg : Nat} {ins : Instr} (hj : L233[j]? = some (pc, ins, nx, tg)) : dcd 233 pc ins nx tg := dcl_ok L233_ok hj
set_option maxRecDepth 100000 in
set_option maxHeartbeats 4000000 in
theorem r233_0 {x1 : Int}  {M : dsMem} {Q : bQT} (k1 : bB 233 2 [uR 11 84, uI x1, uI 0, uX 0, uX 0] [] M Q) :
    bB 233 0 [uR 11 84, uI x1, uX 0, uX 0, uX 0] [] M Q := by
  refine b_iconst (d233 (j := 0) rfl) (by decide) ?_
  refine b_istore_n [uR 11 84, uI x1, uI 0, uX 0, uX 0] (d233 (j := 1) rfl) (by decide) rfl ?_
  exact k1
set_option maxRecDepth 100000 in
set_option maxHeartbeats 4000000 in
theorem r233_2 {x1 x2 : Int}  {M : dsMem} {Q : bQT} (k1 : ((M 85 4) ≤ x2) → bB 233 117 [uR 11 84, uI x1, uI 0, uX 0, uX 0] [] M Q) (s1 : (¬ (M 85 4) ≤ x2) → -2147483648 ≤ ((6 * x1) + x2) ∧ ((6 * x1) + x2) < 2147483648 := by intros; omega) (s2 : (¬ (M 85 4) ≤ x2) → 0 ≤ x2 ∧ x2 < 6 := by intros; omega) (s3 : (¬ (M 85 4) ≤ x2) → 0 ≤ ((6 * x1) + x2) ∧ ((6 * x1) + x2) < 78 := by intros; omega) (k2 : (¬ (M 85 4) ≤ x2) → bB 233 44 [uR 11 84, uI x1, uI x2, uI ((6 * x1) + x2), uI 0] [] (dsSet (dsSet M 102 ((6 * x1) + x2) (M 96 x2)) 103 ((6 * x1) + x2) (M 95 x2)) Q) :
    bB 233 2 [uR 11 84, uI x1, uI x2, uX 0, uX 0] [] M Q := by
  refine b_iload_n (d233 (j := 2) rfl) rfl ?_
  refine b_aload_n (d233 (j := 3) rfl) rfl ?_
  refine b_callV (d233 (j := 4) rfl) rfl rfl (Or.inl rfl) rfl (bCk_mk (n := 1) (k := 1) (by decide +kernel) rfl rfl) (pu185  ?_)
  refine b_stk [uI (M 85 4), uI x2] rfl ?_
  refine b_icmp_ge (d233 (j := 5) rfl) (fun c1 => ?_) (fun c1 => ?_)
  ·
    refine b_iconst (d233 (j := 72) rfl) (by decide) ?_
    refine b_istore_n [uR 11 84, uI x1, uI 0, uX 0, uX 0] (d233 (j := 73) rfl) (by decide) rfl ?_
    exact (k1 c1)
  ·
    refine b_bipush (d233 (j := 6) rfl) (by decide) ?_
    refine b_iload_n (d233 (j := 7) rfl) rfl ?_
    refine b_imul (d233 (j := 8) rfl) rfl rfl ?_
    refine b_iload_n (d233 (j := 9) rfl) rfl ?_
    refine b_iadd (d233 (j := 10) rfl) (dsw_dsw _) rfl ?_
    refine b_stk [uI ((6 * x1) + x2)] (by rw [dsw_r (s1 c1)]) ?_
    refine b_istore_n [uR 11 84, uI x1, uI x2, uI ((6 * x1) + x2), uX 0] (d233 (j := 11) rfl) (by decide) rfl ?_
    refine b_aload_n (d233 (j := 12) rfl) rfl ?_
    refine b_getR (d233 (j := 13) rfl) rfl rfl rfl rfl ?_
    refine b_stk [uR 25 102] rfl ?_
    refine b_iload_n (d233 (j := 14) rfl) rfl ?_
    refine b_aload_n (d233 (j := 15) rfl) rfl ?_
    refine b_getR (d233 (j := 16) rfl) rfl rfl rfl rfl ?_
    refine b_stk [uR 21 96, uI ((6 * x1) + x2), uR 25 102] rfl ?_
    refine b_iload_n (d233 (j := 17) rfl) rfl ?_
    refine b_iaload (d233 (j := 18) rfl) rfl (s2 c1) ?_
    refine b_iastore (d233 (j := 19) rfl) rfl (s3 c1) ?_
    refine b_aload_n (d233 (j := 20) rfl) rfl ?_
    refine b_getR (d233 (j := 21) rfl) rfl rfl rfl rfl ?_
    refine b_stk [uR 25 103] rfl ?_
    refine b_iload_n (d233 (j := 22) rfl) rfl ?_
    refine b_aload_n (d233 (j := 23) rfl) rfl ?_
    refine b_getR (d233 (j := 24) rfl) rfl rfl rfl rfl ?_
    refine b_stk [uR 21 95, uI ((6 * x1) + x2), uR 25 103] rfl ?_
    refine b_iload_n (d233 (j := 25) rfl) rfl ?_
    refine b_iaload (d233 (j := 26) rfl) rfl (s2 c1) ?_
    refine b_stk [uI (M 95 x2), uI ((6 * x1) + x2), uR 25 103] (by rw [ds_get_ne (by omega)] <;> rfl) ?_
    refine b_iastore (d233 (j := 27) rfl) rfl (s3 c1) ?_
    refine b_iconst (d233 (j := 28) rfl) (by decide) ?_
    refine b_istore [uR 11 84, uI x1, uI x2, uI ((6 * x1) + x2), uI 0] (d233 (j := 29) rfl) (by decide) rfl ?_
    exact (k2 c1)
set_option maxRecDepth 100000 in
set_option maxHeartbeats 4000000 in
theorem r233_117 {x1 x2 : Int}  {M : dsMem} {Q : bQT} (s1 : ((M 85 3) ≤ x2) → 0 ≤ x1 ∧ x1 < 13 := by intros; omega) (k1 : ((M 85 3) ≤ x2) → Q [] (dsSet M 107 x1 (M 84 33))) (s2 : (¬ (M 85 3) ≤ x2) → 0 ≤ x2 ∧ x2 < 3 := by intros; omega) (s3 : (¬ (M 85 3) ≤ x2) → 0 ≤ ((3 * x1) + x2) ∧ ((3 * x1) + x2) < 39 := by intros; omega) (s4 : (¬ (M 85 3) ≤ x2) → -2147483648 ≤ x2 + 1 ∧ x2 + 1 < 2147483648 := by intros; omega) (k2 : (¬ (M 85 3) ≤ x2) → bB 233 117 [uR 11 84, uI x1, uI (x2 + 1), uX 0, uX 0] [] (dsSet M 106 ((3 * x1) + x2) (M 97 x2)) Q) :
    bB 233 117 [uR 11 84, uI x1, uI x2, uX 0, uX 0] [] M Q := by
  refine b_iload_n (d233 (j := 74) rfl) rfl ?_
  refine b_aload_n (d233 (j := 75) rfl) rfl ?_
  refine b_callV (d233 (j := 76) rfl) rfl rfl (Or.inl rfl) rfl (bCk_mk (n := 1) (k := 1) (by decide +kernel) rfl rfl) (pu184  ?_)
  refine b_stk [uI (M 85 3), uI x2] rfl ?_
  refine b_icmp_ge (d233 (j := 77) rfl) (fun c1 => ?_) (fun c1 => ?_)
  ·
    refine b_aload_n (d233 (j := 92) rfl) rfl ?_
    refine b_getR (d233 (j := 93) rfl) rfl rfl rfl rfl ?_
    refine b_stk [uR 27 107] rfl ?_
    refine b_iload_n (d233 (j := 94) rfl) rfl ?_
    refine b_aload_n (d233 (j := 95) rfl) rfl ?_
    refine b_getI (d233 (j := 96) rfl) rfl rfl rfl rfl (Or.inl rfl) ?_
    refine b_stk [uI (M 84 33), uI x1, uR 27 107] rfl ?_
    refine b_iastore (d233 (j := 97) rfl) rfl (s1 c1) ?_
    exact b_vret (d233 (j := 98) rfl) rfl (k1 c1)
  ·
    refine b_aload_n (d233 (j := 78) rfl) rfl ?_
    refine b_getR (d233 (j := 79) rfl) rfl rfl rfl rfl ?_
    refine b_stk [uR 26 106] rfl ?_
    refine b_iconst (d233 (j := 80) rfl) (by decide) ?_
    refine b_iload_n (d233 (j := 81) rfl) rfl ?_
    refine b_imul (d233 (j := 82) rfl) rfl rfl ?_
    refine b_iload_n (d233 (j := 83) rfl) rfl ?_
    refine b_iadd (d233 (j := 84) rfl) (dsw_dsw _) rfl ?_
    refine b_aload_n (d233 (j := 85) rfl) rfl ?_
    refine b_getR (d233 (j := 86) rfl) rfl rfl rfl rfl ?_
    refine b_stk [uR 23 97, uI (dsw (((3 * x1) + x2))), uR 26 106] rfl ?_
    refine b_iload_n (d233 (j := 87) rfl) rfl ?_
    refine b_iaload (d233 (j := 88) rfl) rfl (s2 c1) ?_
    refine b_stk [uI (M 97 x2), uI ((3 * x1) + x2), uR 26 106] (by rw [dsw_b (s3 c1) (by decide)]) ?_
    refine b_iastore (d233 (j := 89) rfl) rfl (s3 c1) ?_
    refine b_iinc [uR 11 84, uI x1, uI (x2 + 1), uX 0, uX 0] (d233 (j := 90) rfl) rfl (by decide) (s4 c1) rfl ?_
    refine b_goto (d233 (j := 91) rfl) ?_
    exact (k2 c1)
set_option maxRecDepth 100000 in
set_option maxHeartbeats 4000000 in
theorem r233_44 {x1 x2 x3 x4 : Int}  {M : dsMem} {Q : bQT} (s1 : 0 ≤ x2 ∧ x2 < 6 := by intros; omega) (s2 : ((M 95 x2) ≤ x4) → -2147483648 ≤ x2 + 1 ∧ x2 + 1 < 2147483648 := by intros; omega) (k1 : ((M 95 x2) ≤ x4) → bB 233 2 [uR 11 84, uI x1, uI (x2 + 1), uX 0, uX 0] [] M Q) (s3 : (¬ (M 95 x2) ≤ x4) → 0 ≤ ((60 * x2) + x4) ∧ ((60 * x2) + x4) < 360 := by intros; omega) (s4 : (¬ (M 95 x2) ≤ x4) → 0 ≤ ((60 * x3) + x4) ∧ ((60 * x3) + x4) < 4680 := by intros; omega) (s5 : (¬ (M 95 x2) ≤ x4) → -2147483648 ≤ x4 + 1 ∧ x4 + 1 < 2147483648 := by intros; omega) (k2 : (¬ (M 95 x2) ≤ x4) → bB 233 44 [uR 11 84, uI x1, uI x2, uI x3, uI (x4 + 1)] [] (dsSet (dsSet M 104 ((60 * x3) + x4) (M 93 ((60 * x2) + x4))) 105 ((60 * x3) + x4) (M 94 ((60 * x2) + x4))) Q) :
    bB 233 44 [uR 11 84, uI x1, uI x2, uI x3, uI x4] [] M Q := by
  refine b_iload (d233 (j := 30) rfl) rfl ?_
  refine b_aload_n (d233 (j := 31) rfl) rfl ?_
  refine b_getR (d233 (j := 32) rfl) rfl rfl rfl rfl ?_
  refine b_stk [uR 21 95, uI x4] rfl ?_
  refine b_iload_n (d233 (j := 33) rfl) rfl ?_
  refine b_iaload (d233 (j := 34) rfl) rfl s1 ?_
  refine b_icmp_ge (d233 (j := 35) rfl) (fun c1 => ?_) (fun c1 => ?_)
  ·
    refine b_iinc [uR 11 84, uI x1, uI (x2 + 1), uI x3, uI x4] (d233 (j := 70) rfl) rfl (by decide) (s2 c1) rfl ?_
    refine b_goto (d233 (j := 71) rfl) ?_
    exact bB_le _ (bLe_s (bLe_s (bLe_s (bLe_x (bLe_x bLe_nil))))) (k1 c1)
  ·
    refine b_aload_n (d233 (j := 36) rfl) rfl ?_
    refine b_getR (d233 (j := 37) rfl) rfl rfl rfl rfl ?_
    refine b_stk [uR 24 104] rfl ?_
    refine b_bipush (d233 (j := 38) rfl) (by decide) ?_
    refine b_iload_n (d233 (j := 39) rfl) rfl ?_
    refine b_imul (d233 (j := 40) rfl) rfl rfl ?_
    refine b_iload (d233 (j := 41) rfl) rfl ?_
    refine b_iadd (d233 (j := 42) rfl) (dsw_dsw _) rfl ?_
    refine b_aload_n (d233 (j := 43) rfl) rfl ?_
    refine b_getR (d233 (j := 44) rfl) rfl rfl rfl rfl ?_
    refine b_stk [uR 42 93, uI (dsw (((60 * x3) + x4))), uR 24 104] rfl ?_
    refine b_bipush (d233 (j := 45) rfl) (by decide) ?_
    refine b_iload_n (d233 (j := 46) rfl) rfl ?_
    refine b_imul (d233 (j := 47) rfl) rfl rfl ?_
    refine b_iload (d233 (j := 48) rfl) rfl ?_
    refine b_iadd (d233 (j := 49) rfl) (dsw_dsw _) rfl ?_
    refine b_stk [uI ((60 * x2) + x4), uR 42 93, uI (dsw (((60 * x3) + x4))), uR 24 104] (by rw [dsw_b (s3 c1) (by decide)]) ?_
    refine b_iaload (d233 (j := 50) rfl) rfl (s3 c1) ?_
    refine b_stk [uI (M 93 ((60 * x2) + x4)), uI ((60 * x3) + x4), uR 24 104] (by rw [dsw_b (s4 c1) (by decide)]) ?_
    refine b_iastore (d233 (j := 51) rfl) rfl (s4 c1) ?_
    refine b_aload_n (d233 (j := 52) rfl) rfl ?_
    refine b_getR (d233 (j := 53) rfl) rfl rfl rfl rfl ?_
    refine b_stk [uR 24 105] rfl ?_
    refine b_bipush (d233 (j := 54) rfl) (by decide) ?_
    refine b_iload_n (d233 (j := 55) rfl) rfl ?_
    refine b_imul (d233 (j := 56) rfl) rfl rfl ?_
    refine b_iload (d233 (j := 57) rfl) rfl ?_
    refine b_iadd (d233 (j := 58) rfl) (dsw_dsw _) rfl ?_
    refine b_aload_n (d233 (j := 59) rfl) rfl ?_
    refine b_getR (d233 (j := 60) rfl) rfl rfl rfl rfl ?_
    refine b_stk [uR 42 94, uI (dsw (((60 * x3) + x4))), uR 24 105] rfl ?_
    refine b_bipush (d233 (j := 61) rfl) (by decide) ?_
    refine b_iload_n (d233 (j := 62) rfl) rfl ?_
    refine b_imul (d233 (j := 63) rfl) rfl rfl ?_
    refine b_iload (d233 (j := 64) rfl) rfl ?_
    refine b_iadd (d233 (j := 65) rfl) (dsw_dsw _) rfl ?_
    refine b_stk [uI ((60 * x2) + x4), uR 42 94, uI (dsw (((60 * x3) + x4))), uR 24 105] (by rw [dsw_b (s3 c1) (by decide)]) ?_
    refine b_iaload (d233 (j := 66) rfl) rfl (s3 c1) ?_
    refine b_stk [uI (M 94 ((60 * x2) + x4)), uI (dsw (((60 * x3) + x4))), uR 24 105] (by rw [ds_get_ne (by omega)] <;> rfl) ?_
    refine b_stk [uI (M 94 ((60 * x2) + x4)), uI ((60 * x3) + x4), uR 24 105] (by rw [dsw_b (s4 c1) (by decide)]) ?_
    refine b_iastore (d233 (j := 67) rfl) rfl (s4 c1) ?_
    refine b_iinc [uR 11 84, uI x1, uI x2, uI x3, uI (x4 + 1)] (d233 (j := 68) rfl) rfl (by decide) (s5 c1) rfl ?_
    refine b_goto (d233 (j := 69) rfl) ?_
    exact (k2 c1)
def L234 : List (Nat × Instr × Nat × Nat) := [(0, .iconst 0, 1, 0), (1, .istore_n 1, 2, 0), (2, .iload_n 1, 3, 0), (3, .bipush 6, 5, 0), (5, .if_icmp .ge 30, 8, 35), (8, .aload_n 0, 9, 0), (9, .getfield 46, 12, 0), (12, .iload_n 1, 13, 0), (13, .iconst 0, 14, 0), (14, .iastore, 15, 0), (15, .aload_n 0, 16, 0), (16, .getfield 49, 19, 0), (19, .iload_n 1, 20, 0), (20, .iconst 0, 21, 0), (21, .iastore, 22, 0), (22, .aload_n 0, 23, 0), (23, .getfield 55, 26, 0), (26, .iload_n 1, 27, 0), (27, .iconst 0, 28, 0), (28, .iastore, 29, 0), (29, .iinc 1 1, 32, 0), (32, .goto (-30), 35, 2), (35, .iconst 0, 36, 0), (36, .istore_n 1, 37, 0), (37, .iload_n 1, 38, 0), (38, .bipush 36, 40, 0), (40, .if_icmp .ge 16, 43, 56), (43, .aload_n 0, 44, 0), (44, .getfield 58, 47, 0), (47, .iload_n 1, 48, 0), (48, .iconst 0, 49, 0), (49, .iastore, 50, 0), (50, .iinc 1 1, 53, 0), (53, .goto (-16), 56, 37), (56, .iconst 0, 57, 0), (57, .istore_n 1, 58, 0), (58, .iload_n 1, 59, 0), (59, .iconst 3, 60, 0), (60, .if_icmp .ge 16, 63, 76), (63, .aload_n 0, 64, 0), (64, .getfield 52, 67, 0), (67, .iload_n 1, 68, 0), (68, .iconst 0, 69, 0), (69, .iastore, 70, 0), (70, .iinc 1 1, 73, 0), (73, .goto (-15), 76, 58), (76, .aload_n 0, 77, 0), (77, .iconst 1, 78, 0), (78, .aload_n 0, 79, 0), (79, .invokevirtual 127, 82, 0), (82, .ishl, 83, 0), (83, .iconst 1, 84, 0), (84, .isub, 85, 0), (85, .putfield 301, 88, 0), (88, .iconst 0, 89, 0), (89, .istore_n 1, 90, 0), (90, .iload_n 1, 91, 0), (91, .aload_n 0, 92, 0), (92, .invokevirtual 124, 95, 0), (95, .if_icmp .ge 33, 98, 128), (98, .aload_n 0, 99, 0), (99, .getfield 61, 102, 0), (102, .iload_n 1, 103, 0), (103, .iconst 0, 104, 0), (104, .iastore, 105, 0), (105, .aload_n 0, 106, 0), (106, .getfield 64, 109, 0), (109, .iload_n 1, 110, 0), (110, .iconst 0, 111, 0), (111, .iastore, 112, 0), (112, .aload_n 0, 113, 0), (113, .iload_n 1, 114, 0), (114, .invokevirtual 352, 117, 0), (117, .aload_n 0, 118, 0), (118, .iload_n 1, 119, 0), (119, .invokevirtual 355, 122, 0), (122, .iinc 1 1, 125, 0), (125, .goto (-35), 128, 90), (128, .aload_n 0, 129, 0), (129, .aload_n 0, 130, 0), (130, .invokevirtual 124, 133, 0), (133, .invokevirtual 352, 136, 0), (136, .return_, 137, 0)]
set_option maxRecDepth 100000 in
theorem L234_ok : L234.all (dck 234) = true := by decide +kernel
theorem d234 {j pc nx tg : Nat} {ins : Instr} (hj : L234[j]? = some (pc, ins, nx, tg)) : dcd 234 pc ins nx tg := dcl_ok L234_ok hj
set_option maxRecDepth 100000 in
set_option maxHeartbeats 4000000 in
theorem r234_0   {M : dsMem} {Q : bQT} (k1 : bB 234 2 [uR 11 84, uI 0] [] M Q) :
    bB 234 0 [uR 11 84, uX 0] [] M Q := by
  refine b_iconst (d234 (j := 0) rfl) (by decide) ?_
  refine b_istore_n [uR 11 84, uI 0] (d234 (j := 1) rfl) (by decide) rfl ?_
  exact k1
set_option maxRecDepth 100000 in
set_option maxHeartbeats 4000000 in
theorem r234_2 {x1 : Int}  {M : dsMem} {Q : bQT} (k1 : (6 ≤ x1) → bB 234 37 [uR 11 84, uI 0] [] M Q) (s1 : (¬ 6 ≤ x1) → 0 ≤ x1 ∧ x1 < 6 := by intros; omega) (s2 : (¬ 6 ≤ x1) → -2147483648 ≤ x1 + 1 ∧ x1 + 1 < 2147483648 := by intros; omega) (k2 : (¬ 6 ≤ x1) → bB 234 2 [uR 11 84, uI (x1 + 1)] [] (dsSet (dsSet (dsSet M 95 x1 0) 96 x1 0) 98 x1 0) Q) :
    bB 234 2 [uR 11 84, uI x1] [] M Q := by
  refine b_iload_n (d234 (j := 2) rfl) rfl ?_
  refine b_bipush (d234 (j := 3) rfl) (by decide) ?_
  refine b_icmp_ge (d234 (j := 4) rfl) (fun c1 => ?_) (fun c1 => ?_)
  ·
    refine b_iconst (d234 (j := 22) rfl) (by decide) ?_
    refine b_istore_n [uR 11 84, uI 0] (d234 (j := 23) rfl) (by decide) rfl ?_
    exact (k1 c1)
  ·
    refine b_aload_n (d234 (j := 5) rfl) rfl ?_
    refine b_getR (d234 (j := 6) rfl) rfl rfl rfl rfl ?_
    refine b_stk [uR 21 95] rfl ?_
    refine b_iload_n (d234 (j := 7) rfl) rfl ?_
    refine b_iconst (d234 (j := 8) rfl) (by decide) ?_
    refine b_iastore (d234 (j := 9) rfl) rfl (s1 c1) ?_
    refine b_aload_n (d234 (j := 10) rfl) rfl ?_
    refine b_getR (d234 (j := 11) rfl) rfl rfl rfl rfl ?_
    refine b_stk [uR 21 96] rfl ?_
    refine b_iload_n (d234 (j := 12) rfl) rfl ?_
    refine b_iconst (d234 (j := 13) rfl) (by decide) ?_
    refine b_iastore (d234 (j := 14) rfl) rfl (s1 c1) ?_
    refine b_aload_n (d234 (j := 15) rfl) rfl ?_
    refine b_getR (d234 (j := 16) rfl) rfl rfl rfl rfl ?_
    refine b_stk [uR 21 98] rfl ?_
    refine b_iload_n (d234 (j := 17) rfl) rfl ?_
    refine b_iconst (d234 (j := 18) rfl) (by decide) ?_
    refine b_iastore (d234 (j := 19) rfl) rfl (s1 c1) ?_
    refine b_iinc [uR 11 84, uI (x1 + 1)] (d234 (j := 20) rfl) rfl (by decide) (s2 c1) rfl ?_
    refine b_goto (d234 (j := 21) rfl) ?_
    exact (k2 c1)
set_option maxRecDepth 100000 in
set_option maxHeartbeats 4000000 in
theorem r234_37 {x1 : Int}  {M : dsMem} {Q : bQT} (k1 : (36 ≤ x1) → bB 234 58 [uR 11 84, uI 0] [] M Q) (s1 : (¬ 36 ≤ x1) → 0 ≤ x1 ∧ x1 < 36 := by intros; omega) (s2 : (¬ 36 ≤ x1) → -2147483648 ≤ x1 + 1 ∧ x1 + 1 < 2147483648 := by intros; omega) (k2 : (¬ 36 ≤ x1) → bB 234 37 [uR 11 84, uI (x1 + 1)] [] (dsSet M 99 x1 0) Q) :
    bB 234 37 [uR 11 84, uI x1] [] M Q := by
  refine b_iload_n (d234 (j := 24) rfl) rfl ?_
  refine b_bipush (d234 (j := 25) rfl) (by decide) ?_
  refine b_icmp_ge (d234 (j := 26) rfl) (fun c1 => ?_) (fun c1 => ?_)
  ·
    refine b_iconst (d234 (j := 34) rfl) (by decide) ?_
    refine b_istore_n [uR 11 84, uI 0] (d234 (j := 35) rfl) (by decide) rfl ?_
    exact (k1 c1)
  ·
    refine b_aload_n (d234 (j := 27) rfl) rfl ?_
    refine b_getR (d234 (j := 28) rfl) rfl rfl rfl rfl ?_
    refine b_stk [uR 43 99] rfl ?_
    refine b_iload_n (d234 (j := 29) rfl) rfl ?_
    refine b_iconst (d234 (j := 30) rfl) (by decide) ?_
    refine b_iastore (d234 (j := 31) rfl) rfl (s1 c1) ?_
    refine b_iinc [uR 11 84, uI (x1 + 1)] (d234 (j := 32) rfl) rfl (by decide) (s2 c1) rfl ?_
    refine b_goto (d234 (j := 33) rfl) ?_
    exact (k2 c1)
set_option maxRecDepth 100000 in
set_option maxHeartbeats 4000000 in
theorem r234_58 {x1 : Int}  {M : dsMem} {Q : bQT} (s1 : (3 ≤ x1) → -2147483648 ≤ ((dsShl 1 (M 85 3)) - 1) ∧ ((dsShl 1 (M 85 3)) - 1) < 2147483648 := by intros; omega) (k1 : (3 ≤ x1) → bB 234 90 [uR 11 84, uI 0] [] (dsSet M 84 33 ((dsShl 1 (M 85 3)) - 1)) Q) (s2 : (¬ 3 ≤ x1) → 0 ≤ x1 ∧ x1 < 3 := by intros; omega) (s3 : (¬ 3 ≤ x1) → -2147483648 ≤ x1 + 1 ∧ x1 + 1 < 2147483648 := by intros; omega) (k2 : (¬ 3 ≤ x1) → bB 234 58 [uR 11 84, uI (x1 + 1)] [] (dsSet M 97 x1 0) Q) :
    bB 234 58 [uR 11 84, uI x1] [] M Q := by
  refine b_iload_n (d234 (j := 36) rfl) rfl ?_
  refine b_iconst (d234 (j := 37) rfl) (by decide) ?_
  refine b_icmp_ge (d234 (j := 38) rfl) (fun c1 => ?_) (fun c1 => ?_)
  ·
    refine b_aload_n (d234 (j := 46) rfl) rfl ?_
    refine b_iconst (d234 (j := 47) rfl) (by decide) ?_
    refine b_aload_n (d234 (j := 48) rfl) rfl ?_
    refine b_callV (d234 (j := 49) rfl) rfl rfl (Or.inl rfl) rfl (bCk_mk (n := 2) (k := 1) (by decide +kernel) rfl rfl) (pu184  ?_)
    refine b_stk [uI (M 85 3), uI 1, uR 11 84] rfl ?_
    refine b_ishl (d234 (j := 50) rfl) ?_
    refine b_iconst (d234 (j := 51) rfl) (by decide) ?_
    refine b_isub (d234 (j := 52) rfl) rfl rfl ?_
    refine b_stk [uI ((dsShl 1 (M 85 3)) - 1), uR 11 84] (by rw [dsw_r (s1 c1)]) ?_
    refine b_putI (d234 (j := 53) rfl) rfl ⟨rfl, rfl⟩ rfl rfl ?_
    refine b_iconst (d234 (j := 54) rfl) (by decide) ?_
    refine b_istore_n [uR 11 84, uI 0] (d234 (j := 55) rfl) (by decide) rfl ?_
    exact (k1 c1)
  ·
    refine b_aload_n (d234 (j := 39) rfl) rfl ?_
    refine b_getR (d234 (j := 40) rfl) rfl rfl rfl rfl ?_
    refine b_stk [uR 23 97] rfl ?_
    refine b_iload_n (d234 (j := 41) rfl) rfl ?_
    refine b_iconst (d234 (j := 42) rfl) (by decide) ?_
    refine b_iastore (d234 (j := 43) rfl) rfl (s2 c1) ?_
    refine b_iinc [uR 11 84, uI (x1 + 1)] (d234 (j := 44) rfl) rfl (by decide) (s3 c1) rfl ?_
    refine b_goto (d234 (j := 45) rfl) ?_
    exact (k2 c1)
set_option maxRecDepth 100000 in
set_option maxHeartbeats 4000000 in
theorem r234_90 {x1 : Int} {R1 : dsMem → Prop} {R2 : dsMem → Prop} {R3 : dsMem → dsMem → Prop} {M : dsMem} {Q : bQT} (hA1 : ((M 85 0) ≤ x1) → bCt 233 [uR 11 84, uI (M 85 0), uX 0, uX 0, uX 0] M (fun _ => []) R1) (k1 : ((M 85 0) ≤ x1) → ∀ M1 : dsMem, R1 M1 → Q [] M1) (s1 : (¬ (M 85 0) ≤ x1) → 0 ≤ x1 ∧ x1 < 12 := by intros; omega) (hA2 : (¬ (M 85 0) ≤ x1) → bCt 233 [uR 11 84, uI x1, uX 0, uX 0, uX 0] (dsSet (dsSet M 100 x1 0) 101 x1 0) (fun _ => []) R2) (hA3 : (¬ (M 85 0) ≤ x1) → ∀ M2 : dsMem, R2 M2 → bCt 232 [uR 11 84, uI x1, uX 0, uX 0] M2 (fun _ => []) (R3 M2)) (s2 : (¬ (M 85 0) ≤ x1) → ∀ M2 : dsMem, R2 M2 → ∀ M3 : dsMem, R3 M2 M3 → -2147483648 ≤ x1 + 1 ∧ x1 + 1 < 2147483648 := by intros; omega) (k2 : (¬ (M 85 0) ≤ x1) → ∀ M2 : dsMem, R2 M2 → ∀ M3 : dsMem, R3 M2 M3 → bB 234 90 [uR 11 84, uI (x1 + 1)] [] M3 Q) :
    bB 234 90 [uR 11 84, uI x1] [] M Q := by
  refine b_iload_n (d234 (j := 56) rfl) rfl ?_
  refine b_aload_n (d234 (j := 57) rfl) rfl ?_
  refine b_callV (d234 (j := 58) rfl) rfl rfl (Or.inl rfl) rfl (bCk_mk (n := 1) (k := 1) (by decide +kernel) rfl rfl) (pu183  ?_)
  refine b_stk [uI (M 85 0), uI x1] rfl ?_
  refine b_icmp_ge (d234 (j := 59) rfl) (fun c1 => ?_) (fun c1 => ?_)
  ·
    refine b_aload_n (d234 (j := 78) rfl) rfl ?_
    refine b_aload_n (d234 (j := 79) rfl) rfl ?_
    refine b_callV (d234 (j := 80) rfl) rfl rfl (Or.inl rfl) rfl (bCk_mk (n := 1) (k := 1) (by decide +kernel) rfl rfl) (pu183  ?_)
    refine b_stk [uI (M 85 0), uR 11 84] rfl ?_
    refine b_callV (d234 (j := 81) rfl) rfl rfl (Or.inl rfl) rfl (bCk_mk (n := 0) (k := 2) (by decide +kernel) rfl rfl) ((hA1 c1) _ (fun M1 hR1 => ?_))
    refine b_stk [] rfl ?_
    exact b_vret (d234 (j := 82) rfl) rfl (k1 c1 M1 hR1)
  ·
    refine b_aload_n (d234 (j := 60) rfl) rfl ?_
    refine b_getR (d234 (j := 61) rfl) rfl rfl rfl rfl ?_
    refine b_stk [uR 28 100] rfl ?_
    refine b_iload_n (d234 (j := 62) rfl) rfl ?_
    refine b_iconst (d234 (j := 63) rfl) (by decide) ?_
    refine b_iastore (d234 (j := 64) rfl) rfl (s1 c1) ?_
    refine b_aload_n (d234 (j := 65) rfl) rfl ?_
    refine b_getR (d234 (j := 66) rfl) rfl rfl rfl rfl ?_
    refine b_stk [uR 28 101] rfl ?_
    refine b_iload_n (d234 (j := 67) rfl) rfl ?_
    refine b_iconst (d234 (j := 68) rfl) (by decide) ?_
    refine b_iastore (d234 (j := 69) rfl) rfl (s1 c1) ?_
    refine b_aload_n (d234 (j := 70) rfl) rfl ?_
    refine b_iload_n (d234 (j := 71) rfl) rfl ?_
    refine b_callV (d234 (j := 72) rfl) rfl rfl (Or.inl rfl) rfl (bCk_mk (n := 0) (k := 2) (by decide +kernel) rfl rfl) ((hA2 c1) _ (fun M2 hR2 => ?_))
    refine b_stk [] rfl ?_
    refine b_aload_n (d234 (j := 73) rfl) rfl ?_
    refine b_iload_n (d234 (j := 74) rfl) rfl ?_
    refine b_callV (d234 (j := 75) rfl) rfl rfl (Or.inl rfl) rfl (bCk_mk (n := 0) (k := 2) (by decide +kernel) rfl rfl) ((hA3 c1 M2 hR2) _ (fun M3 hR3 => ?_))
    refine b_stk [] rfl ?_
    refine b_iinc [uR 11 84, uI (x1 + 1)] (d234 (j := 76) rfl) rfl (by decide) (s2 c1 M2 hR2 M3 hR3) rfl ?_
    refine b_goto (d234 (j := 77) rfl) ?_
    exact (k2 c1 M2 hR2 M3 hR3)
def L235 : List (Nat × Instr × Nat × Nat) := [(0, .aload_n 0, 1, 0), (1, .invokevirtual 358, 4, 0), (4, .aload_n 0, 5, 0), (5, .invokevirtual 361, 8, 0), (8, .aload_n 0, 9, 0), (9, .invokevirtual 120, 12, 0), (12, .ireturn, 13, 0)]
set_option maxRecDepth 100000 in
theorem L235_ok : L235.all (dck 235) = true := by decide +kernel
theorem d235 {j pc nx tg : Nat} {ins : Instr} (hj : L235[j]? = some (pc, ins, nx, tg)) : dcd 235 pc ins nx tg := dcl_ok L235_ok hj
set_option maxRecDepth 100000 in
set_option maxHeartbeats 4000000 in
theorem r235_0  {R1 : dsMem → Prop} {R2 : dsMem → dsMem → Prop} {M : dsMem} {Q : bQT} (hA1 : bCt 220 [uR 11 84, uX 0] M (fun _ => []) R1) (hA2 : ∀ M1 : dsMem, R1 M1 → bCt 234 [uR 11 84, uX 0] M1 (fun _ => []) (R2 M1)) (k1 : ∀ M1 : dsMem, R1 M1 → ∀ M2 : dsMem, R2 M1 M2 → Q [uI (if (0 < (M2 85 8)) then 1 else 0)] M2) :
    bB 235 0 [uR 11 84] [] M Q := by
  refine b_aload_n (d235 (j := 0) rfl) rfl ?_
  refine b_callV (d235 (j := 1) rfl) rfl rfl (Or.inl rfl) rfl (bCk_mk (n := 0) (k := 1) (by decide +kernel) rfl rfl) ((hA1) _ (fun M1 hR1 => ?_))
  refine b_stk [] rfl ?_
  refine b_aload_n (d235 (j := 2) rfl) rfl ?_
  refine b_callV (d235 (j := 3) rfl) rfl rfl (Or.inl rfl) rfl (bCk_mk (n := 0) (k := 1) (by decide +kernel) rfl rfl) ((hA2 M1 hR1) _ (fun M2 hR2 => ?_))
  refine b_stk [] rfl ?_
  refine b_aload_n (d235 (j := 4) rfl) rfl ?_
  refine b_callV (d235 (j := 5) rfl) rfl rfl (Or.inl rfl) rfl (bCk_mk (n := 0) (k := 1) (by decide +kernel) rfl rfl) (pu182  ?_)
  refine b_stk [uI (if (0 < (M2 85 8)) then 1 else 0)] rfl ?_
  exact b_zret (d235 (j := 6) rfl) rfl (b_01 _) (k1 M1 hR1 M2 hR2)
def L236 : List (Nat × Instr × Nat × Nat) := [(0, .aload_n 0, 1, 0), (1, .invokevirtual 364, 4, 0), (4, .pop, 5, 0), (5, .aload_n 0, 6, 0), (6, .iload_n 1, 7, 0), (7, .i2l, 8, 0), (8, .invokevirtual 367, 11, 0), (11, .ireturn, 12, 0)]
set_option maxRecDepth 100000 in
theorem L236_ok : L236.all (dck 236) = true := by decide +kernel
theorem d236 {j pc nx tg : Nat} {ins : Instr} (hj : L236[j]? = some (pc, ins, nx, tg)) : dcd 236 pc ins nx tg := dcl_ok L236_ok hj
set_option maxRecDepth 100000 in
set_option maxHeartbeats 4000000 in
theorem r236_0 {x1 : Int} {R1 : dsMem → Prop} {g1 : dsMem → Int} {M : dsMem} {Q : bQT} (hA1 : bCt 235 [uR 11 84] M (fun M1 => [uI (g1 M1)]) R1) (k1 : ∀ M1 : dsMem, R1 M1 → Q [uI (if (0 < (M1 85 8) ∧ 0 ≤ x1 ∧ x1 ≤ (M1 85 0)) then 1 else 0)] M1) :
    bB 236 0 [uR 11 84, uI x1] [] M Q := by
  refine b_aload_n (d236 (j := 0) rfl) rfl ?_
  refine b_callV (d236 (j := 1) rfl) rfl rfl (Or.inl rfl) rfl (bCk_mk (n := 0) (k := 1) (by decide +kernel) rfl rfl) ((hA1) _ (fun M1 hR1 => ?_))
  refine b_stk [uI (g1 M1)] rfl ?_
  refine b_pop (d236 (j := 2) rfl) rfl ?_
  refine b_aload_n (d236 (j := 3) rfl) rfl ?_
  refine b_iload_n (d236 (j := 4) rfl) rfl ?_
  refine b_i2l (d236 (j := 5) rfl) ?_
  refine b_callV (d236 (j := 6) rfl) rfl rfl (Or.inl rfl) rfl (bCk_mk (n := 0) (k := 3) (by decide +kernel) rfl rfl) (pu187  ?_)
  refine b_stk [uI (if (0 < (M1 85 8) ∧ 0 ≤ x1 ∧ x1 ≤ (M1 85 0)) then 1 else 0)] rfl ?_
  exact b_zret (d236 (j := 7) rfl) rfl (b_01 _) (k1 M1 hR1)
def L237 : List (Nat × Instr × Nat × Nat) := [(0, .aload_n 0, 1, 0), (1, .invokevirtual 364, 4, 0), (4, .pop, 5, 0), (5, .aload_n 0, 6, 0), (6, .iload_n 1, 7, 0), (7, .i2l, 8, 0), (8, .invokevirtual 370, 11, 0), (11, .ireturn, 12, 0)]
set_option maxRecDepth 100000 in
theorem L237_ok : L237.all (dck 237) = true := by decide +kernel
theorem d237 {j pc nx tg : Nat} {ins : Instr} (hj : L237[j]? = some (pc, ins, nx, tg)) : dcd 237 pc ins nx tg := dcl_ok L237_ok hj
set_option maxRecDepth 100000 in
set_option maxHeartbeats 4000000 in
theorem r237_0 {x1 : Int} {R1 : dsMem → Prop} {g1 : dsMem → Int} {M : dsMem} {Q : bQT} (hA1 : bCt 235 [uR 11 84] M (fun M1 => [uI (g1 M1)]) R1) (s1 : ∀ M1 : dsMem, R1 M1 → -2147483648 ≤ ((M1 85 0) - 1) ∧ ((M1 85 0) - 1) < 2147483648 := by intros; omega) (k1 : ∀ M1 : dsMem, R1 M1 → Q [uI (if (0 < (M1 85 8) ∧ 0 ≤ x1 ∧ x1 ≤ (M1 85 0) - 1) then 1 else 0)] M1) :
    bB 237 0 [uR 11 84, uI x1] [] M Q := by
  refine b_aload_n (d237 (j := 0) rfl) rfl ?_
  refine b_callV (d237 (j := 1) rfl) rfl rfl (Or.inl rfl) rfl (bCk_mk (n := 0) (k := 1) (by decide +kernel) rfl rfl) ((hA1) _ (fun M1 hR1 => ?_))
  refine b_stk [uI (g1 M1)] rfl ?_
  refine b_pop (d237 (j := 2) rfl) rfl ?_
  refine b_aload_n (d237 (j := 3) rfl) rfl ?_
  refine b_iload_n (d237 (j := 4) rfl) rfl ?_
  refine b_i2l (d237 (j := 5) rfl) ?_
  refine b_callV (d237 (j := 6) rfl) rfl rfl (Or.inl rfl) rfl (bCk_mk (n := 0) (k := 3) (by decide +kernel) rfl rfl) (pu188 (s1 M1 hR1) ?_)
  refine b_stk [uI (if (0 < (M1 85 8) ∧ 0 ≤ x1 ∧ x1 ≤ (M1 85 0) - 1) then 1 else 0)] rfl ?_
  exact b_zret (d237 (j := 7) rfl) rfl (b_01 _) (k1 M1 hR1)
def L238 : List (Nat × Instr × Nat × Nat) := [(0, .aload_n 0, 1, 0), (1, .invokevirtual 364, 4, 0), (4, .pop, 5, 0), (5, .aload_n 0, 6, 0), (6, .iload_n 1, 7, 0), (7, .i2l, 8, 0), (8, .invokevirtual 268, 11, 0), (11, .ireturn, 12, 0)]
set_option maxRecDepth 100000 in
theorem L238_ok : L238.all (dck 238) = true := by decide +kernel
theorem d238 {j pc nx tg : Nat} {ins : Instr} (hj : L238[j]? = some (pc, ins, nx, tg)) : dcd 238 pc ins nx tg := dcl_ok L238_ok hj
set_option maxRecDepth 100000 in
set_option maxHeartbeats 4000000 in
theorem r238_0 {x1 : Int} {R1 : dsMem → Prop} {g1 : dsMem → Int} {M : dsMem} {Q : bQT} (hA1 : bCt 235 [uR 11 84] M (fun M1 => [uI (g1 M1)]) R1) (s1 : ∀ M1 : dsMem, R1 M1 → -2147483648 ≤ ((M1 85 4) - 1) ∧ ((M1 85 4) - 1) < 2147483648 := by intros; omega) (k1 : ∀ M1 : dsMem, R1 M1 → Q [uI (if (0 ≤ x1 ∧ x1 ≤ (M1 85 4) - 1) then 1 else 0)] M1) :
    bB 238 0 [uR 11 84, uI x1] [] M Q := by
  refine b_aload_n (d238 (j := 0) rfl) rfl ?_
  refine b_callV (d238 (j := 1) rfl) rfl rfl (Or.inl rfl) rfl (bCk_mk (n := 0) (k := 1) (by decide +kernel) rfl rfl) ((hA1) _ (fun M1 hR1 => ?_))
  refine b_stk [uI (g1 M1)] rfl ?_
  refine b_pop (d238 (j := 2) rfl) rfl ?_
  refine b_aload_n (d238 (j := 3) rfl) rfl ?_
  refine b_iload_n (d238 (j := 4) rfl) rfl ?_
  refine b_i2l (d238 (j := 5) rfl) ?_
  refine b_callV (d238 (j := 6) rfl) rfl rfl (Or.inl rfl) rfl (bCk_mk (n := 0) (k := 3) (by decide +kernel) rfl rfl) (pu190 (s1 M1 hR1) ?_)
  refine b_stk [uI (if (0 ≤ x1 ∧ x1 ≤ (M1 85 4) - 1) then 1 else 0)] rfl ?_
  exact b_zret (d238 (j := 7) rfl) rfl (b_01 _) (k1 M1 hR1)
def L239 : List (Nat × Instr × Nat × Nat) := [(0, .aload_n 0, 1, 0), (1, .invokevirtual 364, 4, 0), (4, .pop, 5, 0), (5, .aload_n 0, 6, 0), (6, .iload_n 1, 7, 0), (7, .i2l, 8, 0), (8, .invokevirtual 264, 11, 0), (11, .ireturn, 12, 0)]
set_option maxRecDepth 100000 in
theorem L239_ok : L239.all (dck 239) = true := by decide +kernel
theorem d239 {j pc nx tg : Nat} {ins : Instr} (hj : L239[j]? = some (pc, ins, nx, tg)) : dcd 239 pc ins nx tg := dcl_ok L239_ok hj
set_option maxRecDepth 100000 in
set_option maxHeartbeats 4000000 in
theorem r239_0 {x1 : Int} {R1 : dsMem → Prop} {g1 : dsMem → Int} {M : dsMem} {Q : bQT} (hA1 : bCt 235 [uR 11 84] M (fun M1 => [uI (g1 M1)]) R1) (s1 : ∀ M1 : dsMem, R1 M1 → -2147483648 ≤ ((M1 85 3) - 1) ∧ ((M1 85 3) - 1) < 2147483648 := by intros; omega) (k1 : ∀ M1 : dsMem, R1 M1 → Q [uI (if (0 ≤ x1 ∧ x1 ≤ (M1 85 3) - 1) then 1 else 0)] M1) :
    bB 239 0 [uR 11 84, uI x1] [] M Q := by
  refine b_aload_n (d239 (j := 0) rfl) rfl ?_
  refine b_callV (d239 (j := 1) rfl) rfl rfl (Or.inl rfl) rfl (bCk_mk (n := 0) (k := 1) (by decide +kernel) rfl rfl) ((hA1) _ (fun M1 hR1 => ?_))
  refine b_stk [uI (g1 M1)] rfl ?_
  refine b_pop (d239 (j := 2) rfl) rfl ?_
  refine b_aload_n (d239 (j := 3) rfl) rfl ?_
  refine b_iload_n (d239 (j := 4) rfl) rfl ?_
  refine b_i2l (d239 (j := 5) rfl) ?_
  refine b_callV (d239 (j := 6) rfl) rfl rfl (Or.inl rfl) rfl (bCk_mk (n := 0) (k := 3) (by decide +kernel) rfl rfl) (pu189 (s1 M1 hR1) ?_)
  refine b_stk [uI (if (0 ≤ x1 ∧ x1 ≤ (M1 85 3) - 1) then 1 else 0)] rfl ?_
  exact b_zret (d239 (j := 7) rfl) rfl (b_01 _) (k1 M1 hR1)
def L245 : List (Nat × Instr × Nat × Nat) := [(0, .aload_n 0, 1, 0), (1, .iload_n 2, 2, 0), (2, .invokevirtual 382, 5, 0), (5, .ifCond .eq 21, 8, 26), (8, .aload_n 0, 9, 0), (9, .iload_n 1, 10, 0), (10, .i2l, 11, 0), (11, .invokevirtual 268, 14, 0), (14, .ifCond .eq 12, 17, 26), (17, .aload_n 0, 18, 0), (18, .iload_n 1, 19, 0), (19, .iload_n 2, 20, 0), (20, .invokevirtual 373, 23, 0), (23, .goto 5, 26, 28), (26, .bipush (-2), 28, 0), (28, .ireturn, 29, 0)]
set_option maxRecDepth 100000 in
theorem L245_ok : L245.all (dck 245) = true := by decide +kernel
theorem d245 {j pc nx tg : Nat} {ins : Instr} (hj : L245[j]? = some (pc, ins, nx, tg)) : dcd 245 pc ins nx tg := dcl_ok L245_ok hj
set_option maxRecDepth 100000 in
set_option maxHeartbeats 4000000 in
theorem r245_0 {x1 x2 : Int} {R1 : dsMem → Prop} {g1 : dsMem → Int} {M : dsMem} {Q : bQT} (hA1 : bCt 236 [uR 11 84, uI x2] M (fun M1 => [uI (g1 M1)]) R1) (k1 : ∀ M1 : dsMem, R1 M1 → ((g1 M1) = 0) → Q [uI (-2)] M1) (s1 : ∀ M1 : dsMem, R1 M1 → (¬ (g1 M1) = 0) → -2147483648 ≤ ((M1 85 4) - 1) ∧ ((M1 85 4) - 1) < 2147483648 := by intros; omega) (k2 : ∀ M1 : dsMem, R1 M1 → (¬ (g1 M1) = 0) → (¬ (0 ≤ x1 ∧ x1 ≤ (M1 85 4) - 1)) → Q [uI (-2)] M1) (s2 : ∀ M1 : dsMem, R1 M1 → (¬ (g1 M1) = 0) → ((0 ≤ x1 ∧ x1 ≤ (M1 85 4) - 1)) → 0 ≤ ((6 * x2) + x1) ∧ ((6 * x2) + x1) < 78 := by intros; omega) (k3 : ∀ M1 : dsMem, R1 M1 → (¬ (g1 M1) = 0) → ((0 ≤ x1 ∧ x1 ≤ (M1 85 4) - 1)) → Q [uI (M1 102 ((6 * x2) + x1))] M1) :
    bB 245 0 [uR 11 84, uI x1, uI x2] [] M Q := by
  refine b_aload_n (d245 (j := 0) rfl) rfl ?_
  refine b_iload_n (d245 (j := 1) rfl) rfl ?_
  refine b_callV (d245 (j := 2) rfl) rfl rfl (Or.inl rfl) rfl (bCk_mk (n := 0) (k := 2) (by decide +kernel) rfl rfl) ((hA1) _ (fun M1 hR1 => ?_))
  refine b_stk [uI (g1 M1)] rfl ?_
  refine b_if_eq (d245 (j := 3) rfl) (fun c1 => ?_) (fun c1 => ?_)
  ·
    refine b_bipush (d245 (j := 14) rfl) (by decide) ?_
    exact b_iret (d245 (j := 15) rfl) rfl (k1 M1 hR1 c1)
  ·
    refine b_aload_n (d245 (j := 4) rfl) rfl ?_
    refine b_iload_n (d245 (j := 5) rfl) rfl ?_
    refine b_i2l (d245 (j := 6) rfl) ?_
    refine b_callV (d245 (j := 7) rfl) rfl rfl (Or.inl rfl) rfl (bCk_mk (n := 0) (k := 3) (by decide +kernel) rfl rfl) (pu190 (s1 M1 hR1 c1) ?_)
    refine b_stk [uI (if (0 ≤ x1 ∧ x1 ≤ (M1 85 4) - 1) then 1 else 0)] rfl ?_
    refine b_ifeqP (d245 (j := 8) rfl) (fun c2 => ?_) (fun c2 => ?_)
    ·
      refine b_bipush (d245 (j := 14) rfl) (by decide) ?_
      exact b_iret (d245 (j := 15) rfl) rfl (k2 M1 hR1 c1 c2)
    ·
      refine b_aload_n (d245 (j := 9) rfl) rfl ?_
      refine b_iload_n (d245 (j := 10) rfl) rfl ?_
      refine b_iload_n (d245 (j := 11) rfl) rfl ?_
      refine b_callV (d245 (j := 12) rfl) rfl rfl (Or.inl rfl) rfl (bCk_mk (n := 0) (k := 3) (by decide +kernel) rfl rfl) (pu240 (s2 M1 hR1 c1 c2) ?_)
      refine b_stk [uI (M1 102 ((6 * x2) + x1))] rfl ?_
      refine b_goto (d245 (j := 13) rfl) ?_
      exact b_iret (d245 (j := 15) rfl) rfl (k3 M1 hR1 c1 c2)
def L246 : List (Nat × Instr × Nat × Nat) := [(0, .aload_n 0, 1, 0), (1, .iload_n 2, 2, 0), (2, .invokevirtual 382, 5, 0), (5, .ifCond .eq 26, 8, 31), (8, .aload_n 0, 9, 0), (9, .iload_n 1, 10, 0), (10, .i2l, 11, 0), (11, .invokevirtual 268, 14, 0), (14, .ifCond .eq 17, 17, 31), (17, .aload_n 0, 18, 0), (18, .getfield 70, 21, 0), (21, .bipush 6, 23, 0), (23, .iload_n 2, 24, 0), (24, .imul, 25, 0), (25, .iload_n 1, 26, 0), (26, .iadd, 27, 0), (27, .iaload, 28, 0), (28, .goto 5, 31, 33), (31, .bipush (-2), 33, 0), (33, .ireturn, 34, 0)]
set_option maxRecDepth 100000 in
theorem L246_ok : L246.all (dck 246) = true := by decide +kernel
theorem d246 {j pc nx tg : Nat} {ins : Instr} (hj : L246[j]? = some (pc, ins, nx, tg)) : dcd 246 pc ins nx tg := dcl_ok L246_ok hj
set_option maxRecDepth 100000 in
set_option maxHeartbeats 4000000 in
theorem r246_0 {x1 x2 : Int} {R1 : dsMem → Prop} {g1 : dsMem → Int} {M : dsMem} {Q : bQT} (hA1 : bCt 236 [uR 11 84, uI x2] M (fun M1 => [uI (g1 M1)]) R1) (k1 : ∀ M1 : dsMem, R1 M1 → ((g1 M1) = 0) → Q [uI (-2)] M1) (s1 : ∀ M1 : dsMem, R1 M1 → (¬ (g1 M1) = 0) → -2147483648 ≤ ((M1 85 4) - 1) ∧ ((M1 85 4) - 1) < 2147483648 := by intros; omega) (k2 : ∀ M1 : dsMem, R1 M1 → (¬ (g1 M1) = 0) → (¬ (0 ≤ x1 ∧ x1 ≤ (M1 85 4) - 1)) → Q [uI (-2)] M1) (s2 : ∀ M1 : dsMem, R1 M1 → (¬ (g1 M1) = 0) → ((0 ≤ x1 ∧ x1 ≤ (M1 85 4) - 1)) → 0 ≤ ((6 * x2) + x1) ∧ ((6 * x2) + x1) < 78 := by intros; omega) (k3 : ∀ M1 : dsMem, R1 M1 → (¬ (g1 M1) = 0) → ((0 ≤ x1 ∧ x1 ≤ (M1 85 4) - 1)) → Q [uI (M1 103 ((6 * x2) + x1))] M1) :
    bB 246 0 [uR 11 84, uI x1, uI x2] [] M Q := by
  refine b_aload_n (d246 (j := 0) rfl) rfl ?_
  refine b_iload_n (d246 (j := 1) rfl) rfl ?_
  refine b_callV (d246 (j := 2) rfl) rfl rfl (Or.inl rfl) rfl (bCk_mk (n := 0) (k := 2) (by decide +kernel) rfl rfl) ((hA1) _ (fun M1 hR1 => ?_))
  refine b_stk [uI (g1 M1)] rfl ?_
  refine b_if_eq (d246 (j := 3) rfl) (fun c1 => ?_) (fun c1 => ?_)
  ·
    refine b_bipush (d246 (j := 18) rfl) (by decide) ?_
    exact b_iret (d246 (j := 19) rfl) rfl (k1 M1 hR1 c1)
  ·
    refine b_aload_n (d246 (j := 4) rfl) rfl ?_
    refine b_iload_n (d246 (j := 5) rfl) rfl ?_
    refine b_i2l (d246 (j := 6) rfl) ?_
    refine b_callV (d246 (j := 7) rfl) rfl rfl (Or.inl rfl) rfl (bCk_mk (n := 0) (k := 3) (by decide +kernel) rfl rfl) (pu190 (s1 M1 hR1 c1) ?_)
    refine b_stk [uI (if (0 ≤ x1 ∧ x1 ≤ (M1 85 4) - 1) then 1 else 0)] rfl ?_
    refine b_ifeqP (d246 (j := 8) rfl) (fun c2 => ?_) (fun c2 => ?_)
    ·
      refine b_bipush (d246 (j := 18) rfl) (by decide) ?_
      exact b_iret (d246 (j := 19) rfl) rfl (k2 M1 hR1 c1 c2)
    ·
      refine b_aload_n (d246 (j := 9) rfl) rfl ?_
      refine b_getR (d246 (j := 10) rfl) rfl rfl rfl rfl ?_
      refine b_stk [uR 25 103] rfl ?_
      refine b_bipush (d246 (j := 11) rfl) (by decide) ?_
      refine b_iload_n (d246 (j := 12) rfl) rfl ?_
      refine b_imul (d246 (j := 13) rfl) rfl rfl ?_
      refine b_iload_n (d246 (j := 14) rfl) rfl ?_
      refine b_iadd (d246 (j := 15) rfl) (dsw_dsw _) rfl ?_
      refine b_stk [uI ((6 * x2) + x1), uR 25 103] (by rw [dsw_b (s2 M1 hR1 c1 c2) (by decide)]) ?_
      refine b_iaload (d246 (j := 16) rfl) rfl (s2 M1 hR1 c1 c2) ?_
      refine b_goto (d246 (j := 17) rfl) ?_
      exact b_iret (d246 (j := 19) rfl) rfl (k3 M1 hR1 c1 c2)
def L247 : List (Nat × Instr × Nat × Nat) := [(0, .aload_n 0, 1, 0), (1, .iload_n 2, 2, 0), (2, .invokevirtual 382, 5, 0), (5, .ifCond .eq 23, 8, 28), (8, .aload_n 0, 9, 0), (9, .iload_n 1, 10, 0), (10, .i2l, 11, 0), (11, .invokevirtual 268, 14, 0), (14, .ifCond .eq 14, 17, 28), (17, .iload 4, 19, 0), (19, .i2l, 20, 0), (20, .lconst 0, 21, 0), (21, .lconst 1, 22, 0), (22, .invokestatic 112, 25, 0), (25, .ifCond .ne 6, 28, 31), (28, .bipush (-2), 30, 0), (30, .ireturn, 31, 0), (31, .bipush 6, 33, 0), (33, .iload_n 2, 34, 0), (34, .imul, 35, 0), (35, .iload_n 1, 36, 0), (36, .iadd, 37, 0), (37, .istore 5, 39, 0), (39, .iload_n 3, 40, 0), (40, .i2l, 41, 0), (41, .lconst 0, 42, 0), (42, .aload_n 0, 43, 0), (43, .getfield 70, 46, 0), (46, .iload 5, 48, 0), (48, .iaload, 49, 0), (49, .iconst 1, 50, 0), (50, .isub, 51, 0), (51, .i2l, 52, 0), (52, .invokestatic 112, 55, 0), (55, .ifCond .ne 5, 58, 60), (58, .iconst (-1), 59, 0), (59, .ireturn, 60, 0), (60, .iload 4, 62, 0), (62, .ifCond .ne 18, 65, 80), (65, .aload_n 0, 66, 0), (66, .getfield 73, 69, 0), (69, .bipush 60, 71, 0), (71, .iload 5, 73, 0), (73, .imul, 74, 0), (74, .iload_n 3, 75, 0), (75, .iadd, 76, 0), (76, .iaload, 77, 0), (77, .goto 15, 80, 92), (80, .aload_n 0, 81, 0), (81, .getfield 76, 84, 0), (84, .bipush 60, 86, 0), (86, .iload 5, 88, 0), (88, .imul, 89, 0), (89, .iload_n 3, 90, 0), (90, .iadd, 91, 0), (91, .iaload, 92, 0), (92, .ireturn, 93, 0)]
set_option maxRecDepth 100000 in
theorem L247_ok : L247.all (dck 247) = true := by decide +kernel
theorem d247 {j pc nx tg : Nat} {ins : Instr} (hj : L247[j]? = some (pc, ins, nx, tg)) : dcd 247 pc ins nx tg := dcl_ok L247_ok hj
set_option maxRecDepth 100000 in
set_option maxHeartbeats 4000000 in
theorem r247_0 {x1 x2 x3 x4 : Int} {R1 : dsMem → Prop} {g1 : dsMem → Int} {M : dsMem} {Q : bQT} (hA1 : bCt 236 [uR 11 84, uI x2] M (fun M1 => [uI (g1 M1)]) R1) (k1 : ∀ M1 : dsMem, R1 M1 → ((g1 M1) = 0) → Q [uI (-2)] M1) (s1 : ∀ M1 : dsMem, R1 M1 → (¬ (g1 M1) = 0) → -2147483648 ≤ ((M1 85 4) - 1) ∧ ((M1 85 4) - 1) < 2147483648 := by intros; omega) (k2 : ∀ M1 : dsMem, R1 M1 → (¬ (g1 M1) = 0) → (¬ (0 ≤ x1 ∧ x1 ≤ (M1 85 4) - 1)) → Q [uI (-2)] M1) (s2 : ∀ M1 : dsMem, R1 M1 → (¬ (g1 M1) = 0) → ((0 ≤ x1 ∧ x1 ≤ (M1 85 4) - 1)) → ((0 ≤ x4 ∧ x4 ≤ 1)) → -2147483648 ≤ ((6 * x2) + x1) ∧ ((6 * x2) + x1) < 2147483648 := by intros; omega) (s3 : ∀ M1 : dsMem, R1 M1 → (¬ (g1 M1) = 0) → ((0 ≤ x1 ∧ x1 ≤ (M1 85 4) - 1)) → ((0 ≤ x4 ∧ x4 ≤ 1)) → 0 ≤ ((6 * x2) + x1) ∧ ((6 * x2) + x1) < 78 := by intros; omega) (s4 : ∀ M1 : dsMem, R1 M1 → (¬ (g1 M1) = 0) → ((0 ≤ x1 ∧ x1 ≤ (M1 85 4) - 1)) → ((0 ≤ x4 ∧ x4 ≤ 1)) → -2147483648 ≤ ((M1 103 ((6 * x2) + x1)) - 1) ∧ ((M1 103 ((6 * x2) + x1)) - 1) < 2147483648 := by intros; omega) (s5 : ∀ M1 : dsMem, R1 M1 → (¬ (g1 M1) = 0) → ((0 ≤ x1 ∧ x1 ≤ (M1 85 4) - 1)) → ((0 ≤ x4 ∧ x4 ≤ 1)) → ((0 ≤ x3 ∧ x3 ≤ ((M1 103 ((6 * x2) + x1)) - 1))) → (¬ x4 = 0) → 0 ≤ ((60 * ((6 * x2) + x1)) + x3) ∧ ((60 * ((6 * x2) + x1)) + x3) < 4680 := by intros; omega) (k3 : ∀ M1 : dsMem, R1 M1 → (¬ (g1 M1) = 0) → ((0 ≤ x1 ∧ x1 ≤ (M1 85 4) - 1)) → ((0 ≤ x4 ∧ x4 ≤ 1)) → ((0 ≤ x3 ∧ x3 ≤ ((M1 103 ((6 * x2) + x1)) - 1))) → (¬ x4 = 0) → Q [uI (M1 105 ((60 * ((6 * x2) + x1)) + x3))] M1) (s6 : ∀ M1 : dsMem, R1 M1 → (¬ (g1 M1) = 0) → ((0 ≤ x1 ∧ x1 ≤ (M1 85 4) - 1)) → ((0 ≤ x4 ∧ x4 ≤ 1)) → ((0 ≤ x3 ∧ x3 ≤ ((M1 103 ((6 * x2) + x1)) - 1))) → (x4 = 0) → 0 ≤ ((60 * ((6 * x2) + x1)) + x3) ∧ ((60 * ((6 * x2) + x1)) + x3) < 4680 := by intros; omega) (k4 : ∀ M1 : dsMem, R1 M1 → (¬ (g1 M1) = 0) → ((0 ≤ x1 ∧ x1 ≤ (M1 85 4) - 1)) → ((0 ≤ x4 ∧ x4 ≤ 1)) → ((0 ≤ x3 ∧ x3 ≤ ((M1 103 ((6 * x2) + x1)) - 1))) → (x4 = 0) → Q [uI (M1 104 ((60 * ((6 * x2) + x1)) + x3))] M1) (k5 : ∀ M1 : dsMem, R1 M1 → (¬ (g1 M1) = 0) → ((0 ≤ x1 ∧ x1 ≤ (M1 85 4) - 1)) → ((0 ≤ x4 ∧ x4 ≤ 1)) → (¬ (0 ≤ x3 ∧ x3 ≤ ((M1 103 ((6 * x2) + x1)) - 1))) → Q [uI (-1)] M1) (k6 : ∀ M1 : dsMem, R1 M1 → (¬ (g1 M1) = 0) → ((0 ≤ x1 ∧ x1 ≤ (M1 85 4) - 1)) → (¬ (0 ≤ x4 ∧ x4 ≤ 1)) → Q [uI (-2)] M1) :
    bB 247 0 [uR 11 84, uI x1, uI x2, uI x3, uI x4, uX 0] [] M Q := by
  refine b_aload_n (d247 (j := 0) rfl) rfl ?_
  refine b_iload_n (d247 (j := 1) rfl) rfl ?_
  refine b_callV (d247 (j := 2) rfl) rfl rfl (Or.inl rfl) rfl (bCk_mk (n := 0) (k := 2) (by decide +kernel) rfl rfl) ((hA1) _ (fun M1 hR1 => ?_))
  refine b_stk [uI (g1 M1)] rfl ?_
  refine b_if_eq (d247 (j := 3) rfl) (fun c1 => ?_) (fun c1 => ?_)
  ·
    refine b_bipush (d247 (j := 15) rfl) (by decide) ?_
    exact b_iret (d247 (j := 16) rfl) rfl (k1 M1 hR1 c1)
  ·
    refine b_aload_n (d247 (j := 4) rfl) rfl ?_
    refine b_iload_n (d247 (j := 5) rfl) rfl ?_
    refine b_i2l (d247 (j := 6) rfl) ?_
    refine b_callV (d247 (j := 7) rfl) rfl rfl (Or.inl rfl) rfl (bCk_mk (n := 0) (k := 3) (by decide +kernel) rfl rfl) (pu190 (s1 M1 hR1 c1) ?_)
    refine b_stk [uI (if (0 ≤ x1 ∧ x1 ≤ (M1 85 4) - 1) then 1 else 0)] rfl ?_
    refine b_ifeqP (d247 (j := 8) rfl) (fun c2 => ?_) (fun c2 => ?_)
    ·
      refine b_bipush (d247 (j := 15) rfl) (by decide) ?_
      exact b_iret (d247 (j := 16) rfl) rfl (k2 M1 hR1 c1 c2)
    ·
      refine b_iload (d247 (j := 9) rfl) rfl ?_
      refine b_i2l (d247 (j := 10) rfl) ?_
      refine b_lconst (d247 (j := 11) rfl) ?_
      refine b_stk [uJ 0, uJ x4] rfl ?_
      refine b_lconst (d247 (j := 12) rfl) ?_
      refine b_stk [uJ 1, uJ 0, uJ x4] rfl ?_
      refine b_callS (d247 (j := 13) rfl) (Or.inl rfl) rfl (bCk_mk (n := 0) (k := 6) (by decide +kernel) rfl rfl) (pu177  ?_)
      refine b_stk [uI (if (0 ≤ x4 ∧ x4 ≤ 1) then 1 else 0)] rfl ?_
      refine b_ifneP (d247 (j := 14) rfl) (fun c3 => ?_) (fun c3 => ?_)
      ·
        refine b_bipush (d247 (j := 17) rfl) (by decide) ?_
        refine b_iload_n (d247 (j := 18) rfl) rfl ?_
        refine b_imul (d247 (j := 19) rfl) rfl rfl ?_
        refine b_iload_n (d247 (j := 20) rfl) rfl ?_
        refine b_iadd (d247 (j := 21) rfl) (dsw_dsw _) rfl ?_
        refine b_stk [uI ((6 * x2) + x1)] (by rw [dsw_r (s2 M1 hR1 c1 c2 c3)]) ?_
        refine b_istore [uR 11 84, uI x1, uI x2, uI x3, uI x4, uI ((6 * x2) + x1)] (d247 (j := 22) rfl) (by decide) rfl ?_
        refine b_iload_n (d247 (j := 23) rfl) rfl ?_
        refine b_i2l (d247 (j := 24) rfl) ?_
        refine b_lconst (d247 (j := 25) rfl) ?_
        refine b_stk [uJ 0, uJ x3] rfl ?_
        refine b_aload_n (d247 (j := 26) rfl) rfl ?_
        refine b_getR (d247 (j := 27) rfl) rfl rfl rfl rfl ?_
        refine b_stk [uR 25 103, uJ 0, uJ x3] rfl ?_
        refine b_iload (d247 (j := 28) rfl) rfl ?_
        refine b_iaload (d247 (j := 29) rfl) rfl (s3 M1 hR1 c1 c2 c3) ?_
        refine b_iconst (d247 (j := 30) rfl) (by decide) ?_
        refine b_isub (d247 (j := 31) rfl) rfl rfl ?_
        refine b_stk [uI ((M1 103 ((6 * x2) + x1)) - 1), uJ 0, uJ x3] (by rw [dsw_r (s4 M1 hR1 c1 c2 c3)]) ?_
        refine b_i2l (d247 (j := 32) rfl) ?_
        refine b_callS (d247 (j := 33) rfl) (Or.inl rfl) rfl (bCk_mk (n := 0) (k := 6) (by decide +kernel) rfl rfl) (pu177  ?_)
        refine b_stk [uI (if (0 ≤ x3 ∧ x3 ≤ ((M1 103 ((6 * x2) + x1)) - 1)) then 1 else 0)] rfl ?_
        refine b_ifneP (d247 (j := 34) rfl) (fun c4 => ?_) (fun c4 => ?_)
        ·
          refine b_iload (d247 (j := 37) rfl) rfl ?_
          refine b_if_ne (d247 (j := 38) rfl) (fun c5 => ?_) (fun c5 => ?_)
          ·
            refine b_aload_n (d247 (j := 48) rfl) rfl ?_
            refine b_getR (d247 (j := 49) rfl) rfl rfl rfl rfl ?_
            refine b_stk [uR 24 105] rfl ?_
            refine b_bipush (d247 (j := 50) rfl) (by decide) ?_
            refine b_iload (d247 (j := 51) rfl) rfl ?_
            refine b_imul (d247 (j := 52) rfl) rfl rfl ?_
            refine b_iload_n (d247 (j := 53) rfl) rfl ?_
            refine b_iadd (d247 (j := 54) rfl) (dsw_dsw _) rfl ?_
            refine b_stk [uI ((60 * ((6 * x2) + x1)) + x3), uR 24 105] (by rw [dsw_b (s5 M1 hR1 c1 c2 c3 c4 c5) (by decide)]) ?_
            refine b_iaload (d247 (j := 55) rfl) rfl (s5 M1 hR1 c1 c2 c3 c4 c5) ?_
            exact b_iret (d247 (j := 56) rfl) rfl (k3 M1 hR1 c1 c2 c3 c4 c5)
          ·
            refine b_aload_n (d247 (j := 39) rfl) rfl ?_
            refine b_getR (d247 (j := 40) rfl) rfl rfl rfl rfl ?_
            refine b_stk [uR 24 104] rfl ?_
            refine b_bipush (d247 (j := 41) rfl) (by decide) ?_
            refine b_iload (d247 (j := 42) rfl) rfl ?_
            refine b_imul (d247 (j := 43) rfl) rfl rfl ?_
            refine b_iload_n (d247 (j := 44) rfl) rfl ?_
            refine b_iadd (d247 (j := 45) rfl) (dsw_dsw _) rfl ?_
            refine b_stk [uI ((60 * ((6 * x2) + x1)) + x3), uR 24 104] (by rw [dsw_b (s6 M1 hR1 c1 c2 c3 c4 c5) (by decide)]) ?_
            refine b_iaload (d247 (j := 46) rfl) rfl (s6 M1 hR1 c1 c2 c3 c4 c5) ?_
            refine b_goto (d247 (j := 47) rfl) ?_
            exact b_iret (d247 (j := 56) rfl) rfl (k4 M1 hR1 c1 c2 c3 c4 c5)
        ·
          refine b_iconst (d247 (j := 35) rfl) (by decide) ?_
          exact b_iret (d247 (j := 36) rfl) rfl (k5 M1 hR1 c1 c2 c3 c4)
      ·
        refine b_bipush (d247 (j := 15) rfl) (by decide) ?_
        exact b_iret (d247 (j := 16) rfl) rfl (k6 M1 hR1 c1 c2 c3)
