def L145 : List (Nat × Instr × Nat × Nat) := [(0, .iload_n 0, 1, 0), (1, .iload_n 1, 2, 0), (2, .ishr, 3, 0), (3, .iconst 1, 4, 0), (4, .iand, 5, 0), (5, .iconst 1, 6, 0), (6, .if_icmp .ne 7, 9, 13), (9, .iconst 1, 10, 0), (10, .goto 4, 13, 14), (13, .iconst 0, 14, 0), (14, .ireturn, 15, 0)]
set_option maxRecDepth 100000 in
theorem L145_ok : L145.all (dck 145) = true := by decide +kernel
theorem d145 {j pc nx tg : Nat} {ins : Instr} (hj : L145[j]? = some (pc, ins, nx, tg)) : dcd 145 pc ins nx tg := dcl_ok L145_ok hj
set_option maxRecDepth 100000 in
set_option maxHeartbeats 4000000 in
theorem r145_0 {x0 x1 : Int} {M : dsMem} {Q : bQT} (k1 : (¬ (dsAnd (dsShr x0 x1) 1) = 1) → Q [uI 0] M) (k2 : ((dsAnd (dsShr x0 x1) 1) = 1) → Q [uI 1] M) :
    bB 145 0 [uI x0, uI x1] [] M Q := by
  refine b_iload_n (d145 (j := 0) rfl) rfl ?_
  refine b_iload_n (d145 (j := 1) rfl) rfl ?_
  refine b_ishr (d145 (j := 2) rfl) ?_
  refine b_iconst (d145 (j := 3) rfl) (by decide) ?_
  refine b_iand (d145 (j := 4) rfl) ?_
  refine b_iconst (d145 (j := 5) rfl) (by decide) ?_
  refine b_icmp_ne (d145 (j := 6) rfl) (fun c1 => ?_) (fun c1 => ?_)
  ·
    refine b_iconst (d145 (j := 9) rfl) (by decide) ?_
    exact b_zret (d145 (j := 10) rfl) rfl (by decide) (k1 c1)
  ·
    refine b_iconst (d145 (j := 7) rfl) (by decide) ?_
    refine b_goto (d145 (j := 8) rfl) ?_
    exact b_zret (d145 (j := 10) rfl) rfl (by decide) (k2 c1)
def L146 : List (Nat × Instr × Nat × Nat) := [(0, .iload_n 1, 1, 0), (1, .bipush 6, 3, 0), (3, .imul, 4, 0), (4, .iload_n 0, 5, 0), (5, .iadd, 6, 0), (6, .ireturn, 7, 0)]
set_option maxRecDepth 100000 in
theorem L146_ok : L146.all (dck 146) = true := by decide +kernel
theorem d146 {j pc nx tg : Nat} {ins : Instr} (hj : L146[j]? = some (pc, ins, nx, tg)) : dcd 146 pc ins nx tg := dcl_ok L146_ok hj
set_option maxRecDepth 100000 in
set_option maxHeartbeats 4000000 in
theorem r146_0 {x0 x1 : Int} {M : dsMem} {Q : bQT} (s1 : -2147483648 ≤ ((x1 * 6) + x0) ∧ ((x1 * 6) + x0) < 2147483648 := by intros; omega) (k1 : Q [uI ((x1 * 6) + x0)] M) :
    bB 146 0 [uI x0, uI x1] [] M Q := by
  refine b_iload_n (d146 (j := 0) rfl) rfl ?_
  refine b_bipush (d146 (j := 1) rfl) (by decide) ?_
  refine b_imul (d146 (j := 2) rfl) rfl rfl ?_
  refine b_iload_n (d146 (j := 3) rfl) rfl ?_
  refine b_iadd (d146 (j := 4) rfl) (dsw_dsw _) rfl ?_
  refine b_stk [uI ((x1 * 6) + x0)] (by rw [dsw_r s1]) ?_
  exact b_iret (d146 (j := 5) rfl) rfl k1
def L144 : List (Nat × Instr × Nat × Nat) := [(0, .iload_n 0, 1, 0), (1, .iload_n 1, 2, 0), (2, .if_icmp .lt 12, 5, 14), (5, .iload_n 0, 6, 0), (6, .iload_n 2, 7, 0), (7, .if_icmp .gt 7, 10, 14), (10, .iconst 1, 11, 0), (11, .goto 4, 14, 15), (14, .iconst 0, 15, 0), (15, .ireturn, 16, 0)]
set_option maxRecDepth 100000 in
theorem L144_ok : L144.all (dck 144) = true := by decide +kernel
theorem d144 {j pc nx tg : Nat} {ins : Instr} (hj : L144[j]? = some (pc, ins, nx, tg)) : dcd 144 pc ins nx tg := dcl_ok L144_ok hj
set_option maxRecDepth 100000 in
set_option maxHeartbeats 4000000 in
theorem r144_0 {x0 x1 x2 : Int} {M : dsMem} {Q : bQT} (k1 : (x0 < x1) → Q [uI 0] M) (k2 : (¬ x0 < x1) → (x2 < x0) → Q [uI 0] M) (k3 : (¬ x0 < x1) → (¬ x2 < x0) → Q [uI 1] M) :
    bB 144 0 [uI x0, uI x1, uI x2] [] M Q := by
  refine b_iload_n (d144 (j := 0) rfl) rfl ?_
  refine b_iload_n (d144 (j := 1) rfl) rfl ?_
  refine b_icmp_lt (d144 (j := 2) rfl) (fun c1 => ?_) (fun c1 => ?_)
  ·
    refine b_iconst (d144 (j := 8) rfl) (by decide) ?_
    exact b_zret (d144 (j := 9) rfl) rfl (by decide) (k1 c1)
  ·
    refine b_iload_n (d144 (j := 3) rfl) rfl ?_
    refine b_iload_n (d144 (j := 4) rfl) rfl ?_
    refine b_icmp_gt (d144 (j := 5) rfl) (fun c2 => ?_) (fun c2 => ?_)
    ·
      refine b_iconst (d144 (j := 8) rfl) (by decide) ?_
      exact b_zret (d144 (j := 9) rfl) rfl (by decide) (k2 c1 c2)
    ·
      refine b_iconst (d144 (j := 6) rfl) (by decide) ?_
      refine b_goto (d144 (j := 7) rfl) ?_
      exact b_zret (d144 (j := 9) rfl) rfl (by decide) (k3 c1 c2)
def L25 : List (Nat × Instr × Nat × Nat) := [(0, .iconst 0, 1, 0), (1, .istore_n 3, 2, 0), (2, .iconst 0, 3, 0), (3, .istore 4, 5, 0), (5, .iload 4, 7, 0), (7, .aload_n 0, 8, 0), (8, .getfield 25, 11, 0), (11, .iload_n 1, 12, 0), (12, .iaload, 13, 0), (13, .if_icmp .ge 40, 16, 53), (16, .aload_n 0, 17, 0), (17, .getfield 18, 20, 0), (20, .iload_n 1, 21, 0), (21, .bipush 60, 23, 0), (23, .imul, 24, 0), (24, .iload 4, 26, 0), (26, .iadd, 27, 0), (27, .iaload, 28, 0), (28, .iload_n 2, 29, 0), (29, .if_icmp .ne 18, 32, 47), (32, .iload_n 3, 33, 0), (33, .aload_n 0, 34, 0), (34, .getfield 22, 37, 0), (37, .iload_n 1, 38, 0), (38, .bipush 60, 40, 0), (40, .imul, 41, 0), (41, .iload 4, 43, 0), (43, .iadd, 44, 0), (44, .iaload, 45, 0), (45, .iadd, 46, 0), (46, .istore_n 3, 47, 0), (47, .iinc 4 1, 50, 0), (50, .goto (-45), 53, 5), (53, .iload_n 3, 54, 0), (54, .ireturn, 55, 0)]
set_option maxRecDepth 100000 in
theorem L25_ok : L25.all (dck 25) = true := by decide +kernel
theorem d25 {j pc nx tg : Nat} {ins : Instr} (hj : L25[j]? = some (pc, ins, nx, tg)) : dcd 25 pc ins nx tg := dcl_ok L25_ok hj
set_option maxRecDepth 100000 in
set_option maxHeartbeats 4000000 in
theorem r25_0 {x0 x1 x2 : Int} {M : dsMem} {Q : bQT} (k1 : bB 25 5 [uR 5 x0, uI x1, uI x2, uI 0, uI 0] [] M Q) :
    bB 25 0 [uR 5 x0, uI x1, uI x2, uX 0, uX 0] [] M Q := by
  refine b_iconst (d25 (j := 0) rfl) (by decide) ?_
  refine b_istore_n [uR 5 x0, uI x1, uI x2, uI 0, uX 0] (d25 (j := 1) rfl) (by decide) rfl ?_
  refine b_iconst (d25 (j := 2) rfl) (by decide) ?_
  refine b_istore [uR 5 x0, uI x1, uI x2, uI 0, uI 0] (d25 (j := 3) rfl) (by decide) rfl ?_
  exact k1
set_option maxRecDepth 100000 in
set_option maxHeartbeats 4000000 in
theorem r25_5 {x0 x1 x2 x3 x4 : Int} {M : dsMem} {Q : bQT} (s1 : 0 ≤ x1 ∧ x1 < 78 := by intros; omega) (k1 : ((M (x0 + 4) x1) ≤ x4) → Q [uI x3] M) (s2 : (¬ (M (x0 + 4) x1) ≤ x4) → -2147483648 ≤ ((x1 * 60) + x4) ∧ ((x1 * 60) + x4) < 2147483648 := by intros; omega) (s3 : (¬ (M (x0 + 4) x1) ≤ x4) → 0 ≤ ((x1 * 60) + x4) ∧ ((x1 * 60) + x4) < 4680 := by intros; omega) (s4 : (¬ (M (x0 + 4) x1) ≤ x4) → (¬ (M (x0 + 2) ((x1 * 60) + x4)) = x2) → -2147483648 ≤ x4 + 1 ∧ x4 + 1 < 2147483648 := by intros; omega) (k2 : (¬ (M (x0 + 4) x1) ≤ x4) → (¬ (M (x0 + 2) ((x1 * 60) + x4)) = x2) → bB 25 5 [uR 5 x0, uI x1, uI x2, uI x3, uI (x4 + 1)] [] M Q) (s5 : (¬ (M (x0 + 4) x1) ≤ x4) → ((M (x0 + 2) ((x1 * 60) + x4)) = x2) → -2147483648 ≤ ((x1 * 60) + x4) ∧ ((x1 * 60) + x4) < 2147483648 := by intros; omega) (s6 : (¬ (M (x0 + 4) x1) ≤ x4) → ((M (x0 + 2) ((x1 * 60) + x4)) = x2) → 0 ≤ ((x1 * 60) + x4) ∧ ((x1 * 60) + x4) < 4680 := by intros; omega) (s7 : (¬ (M (x0 + 4) x1) ≤ x4) → ((M (x0 + 2) ((x1 * 60) + x4)) = x2) → -2147483648 ≤ (x3 + (M (x0 + 3) ((x1 * 60) + x4))) ∧ (x3 + (M (x0 + 3) ((x1 * 60) + x4))) < 2147483648 := by intros; omega) (s8 : (¬ (M (x0 + 4) x1) ≤ x4) → ((M (x0 + 2) ((x1 * 60) + x4)) = x2) → -2147483648 ≤ x4 + 1 ∧ x4 + 1 < 2147483648 := by intros; omega) (k3 : (¬ (M (x0 + 4) x1) ≤ x4) → ((M (x0 + 2) ((x1 * 60) + x4)) = x2) → bB 25 5 [uR 5 x0, uI x1, uI x2, uI (x3 + (M (x0 + 3) ((x1 * 60) + x4))), uI (x4 + 1)] [] M Q) :
    bB 25 5 [uR 5 x0, uI x1, uI x2, uI x3, uI x4] [] M Q := by
  refine b_iload (d25 (j := 4) rfl) rfl ?_
  refine b_aload_n (d25 (j := 5) rfl) rfl ?_
  refine b_getR (d25 (j := 6) rfl) rfl rfl rfl rfl ?_
  refine b_iload_n (d25 (j := 7) rfl) rfl ?_
  refine b_iaload (d25 (j := 8) rfl) rfl s1 ?_
  refine b_icmp_ge (d25 (j := 9) rfl) (fun c1 => ?_) (fun c1 => ?_)
  ·
    refine b_iload_n (d25 (j := 33) rfl) rfl ?_
    exact b_iret (d25 (j := 34) rfl) rfl (k1 c1)
  ·
    refine b_aload_n (d25 (j := 10) rfl) rfl ?_
    refine b_getR (d25 (j := 11) rfl) rfl rfl rfl rfl ?_
    refine b_iload_n (d25 (j := 12) rfl) rfl ?_
    refine b_bipush (d25 (j := 13) rfl) (by decide) ?_
    refine b_imul (d25 (j := 14) rfl) rfl rfl ?_
    refine b_iload (d25 (j := 15) rfl) rfl ?_
    refine b_iadd (d25 (j := 16) rfl) (dsw_dsw _) rfl ?_
    refine b_stk [uI ((x1 * 60) + x4), uR 24 (x0 + 2)] (by rw [dsw_r (s2 c1)]) ?_
    refine b_iaload (d25 (j := 17) rfl) rfl (s3 c1) ?_
    refine b_iload_n (d25 (j := 18) rfl) rfl ?_
    refine b_icmp_ne (d25 (j := 19) rfl) (fun c2 => ?_) (fun c2 => ?_)
    ·
      refine b_iinc [uR 5 x0, uI x1, uI x2, uI x3, uI (x4 + 1)] (d25 (j := 31) rfl) rfl (by decide) (s4 c1 c2) rfl ?_
      refine b_goto (d25 (j := 32) rfl) ?_
      exact (k2 c1 c2)
    ·
      refine b_iload_n (d25 (j := 20) rfl) rfl ?_
      refine b_aload_n (d25 (j := 21) rfl) rfl ?_
      refine b_getR (d25 (j := 22) rfl) rfl rfl rfl rfl ?_
      refine b_iload_n (d25 (j := 23) rfl) rfl ?_
      refine b_bipush (d25 (j := 24) rfl) (by decide) ?_
      refine b_imul (d25 (j := 25) rfl) rfl rfl ?_
      refine b_iload (d25 (j := 26) rfl) rfl ?_
      refine b_iadd (d25 (j := 27) rfl) (dsw_dsw _) rfl ?_
      refine b_stk [uI ((x1 * 60) + x4), uR 24 (x0 + 3), uI x3] (by rw [dsw_r (s5 c1 c2)]) ?_
      refine b_iaload (d25 (j := 28) rfl) rfl (s6 c1 c2) ?_
      refine b_iadd (d25 (j := 29) rfl) rfl rfl ?_
      refine b_stk [uI (x3 + (M (x0 + 3) ((x1 * 60) + x4)))] (by rw [dsw_r (s7 c1 c2)]) ?_
      refine b_istore_n [uR 5 x0, uI x1, uI x2, uI (x3 + (M (x0 + 3) ((x1 * 60) + x4))), uI x4] (d25 (j := 30) rfl) (by decide) rfl ?_
      refine b_iinc [uR 5 x0, uI x1, uI x2, uI (x3 + (M (x0 + 3) ((x1 * 60) + x4))), uI (x4 + 1)] (d25 (j := 31) rfl) rfl (by decide) (s8 c1 c2) rfl ?_
      refine b_goto (d25 (j := 32) rfl) ?_
      exact (k3 c1 c2)
def L18 : List (Nat × Instr × Nat × Nat) := [(0, .iconst 0, 1, 0), (1, .istore_n 3, 2, 0), (2, .iload_n 3, 3, 0), (3, .iconst 5, 4, 0), (4, .if_icmp .gt 16, 7, 20), (7, .aload_n 0, 8, 0), (8, .getfield 52, 11, 0), (11, .iload_n 3, 12, 0), (12, .iconst 0, 13, 0), (13, .iastore, 14, 0), (14, .iinc 3 1, 17, 0), (17, .goto (-15), 20, 2), (20, .iload_n 1, 21, 0), (21, .bipush 60, 23, 0), (23, .imul, 24, 0), (24, .istore_n 3, 25, 0), (25, .iload_n 2, 26, 0), (26, .istore 4, 28, 0), (28, .iconst 0, 29, 0), (29, .istore 5, 31, 0), (31, .iconst 0, 32, 0), (32, .istore 6, 34, 0), (34, .iload 6, 36, 0), (36, .aload_n 0, 37, 0), (37, .getfield 25, 40, 0), (40, .iload_n 1, 41, 0), (41, .iaload, 42, 0), (42, .if_icmp .ge 110, 45, 152), (45, .iload 4, 47, 0), (47, .ifCond .le 105, 50, 152), (50, .iload 4, 52, 0), (52, .aload_n 0, 53, 0), (53, .getfield 22, 56, 0), (56, .iload_n 3, 57, 0), (57, .iload 6, 59, 0), (59, .iadd, 60, 0), (60, .iaload, 61, 0), (61, .if_icmp .ge 8, 64, 69), (64, .iload 4, 66, 0), (66, .goto 12, 69, 78), (69, .aload_n 0, 70, 0), (70, .getfield 22, 73, 0), (73, .iload_n 3, 74, 0), (74, .iload 6, 76, 0), (76, .iadd, 77, 0), (77, .iaload, 78, 0), (78, .istore 7, 80, 0), (80, .aload_n 0, 81, 0), (81, .getfield 22, 84, 0), (84, .iload_n 3, 85, 0), (85, .iload 6, 87, 0), (87, .iadd, 88, 0), (88, .dup2, 89, 0), (89, .iaload, 90, 0), (90, .iload 7, 92, 0), (92, .isub, 93, 0), (93, .iastore, 94, 0), (94, .aload_n 0, 95, 0), (95, .getfield 52, 98, 0), (98, .aload_n 0, 99, 0), (99, .getfield 18, 102, 0), (102, .iload_n 3, 103, 0), (103, .iload 6, 105, 0), (105, .iadd, 106, 0), (106, .iaload, 107, 0), (107, .dup2, 108, 0), (108, .iaload, 109, 0), (109, .iload 7, 111, 0), (111, .iadd, 112, 0), (112, .iastore, 113, 0), (113, .aload_n 0, 114, 0), (114, .getfield 28, 117, 0), (117, .iload_n 1, 118, 0), (118, .dup2, 119, 0), (119, .iaload, 120, 0), (120, .iload 7, 122, 0), (122, .isub, 123, 0), (123, .iastore, 124, 0), (124, .iload 4, 126, 0), (126, .iload 7, 128, 0), (128, .isub, 129, 0), (129, .istore 4, 131, 0), (131, .aload_n 0, 132, 0), (132, .getfield 22, 135, 0), (135, .iload_n 3, 136, 0), (136, .iload 6, 138, 0), (138, .iadd, 139, 0), (139, .iaload, 140, 0), (140, .ifCond .ne 6, 143, 146), (143, .iinc 5 1, 146, 0), (146, .iinc 6 1, 149, 0), (149, .goto (-115), 152, 34), (152, .iload 5, 154, 0), (154, .istore 6, 156, 0), (156, .iload 5, 158, 0), (158, .ifCond .le 62, 161, 220), (161, .iload 6, 163, 0), (163, .aload_n 0, 164, 0), (164, .getfield 25, 167, 0), (167, .iload_n 1, 168, 0), (168, .iaload, 169, 0), (169, .if_icmp .ge 51, 172, 220), (172, .aload_n 0, 173, 0), (173, .getfield 18, 176, 0), (176, .iload_n 3, 177, 0), (177, .iload 6, 179, 0), (179, .iadd, 180, 0), (180, .iload 5, 182, 0), (182, .isub, 183, 0), (183, .aload_n 0, 184, 0), (184, .getfield 18, 187, 0), (187, .iload_n 3, 188, 0), (188, .iload 6, 190, 0), (190, .iadd, 191, 0), (191, .iaload, 192, 0), (192, .iastore, 193, 0), (193, .aload_n 0, 194, 0), (194, .getfield 22, 197, 0), (197, .iload_n 3, 198, 0), (198, .iload 6, 200, 0), (200, .iadd, 201, 0), (201, .iload 5, 203, 0), (203, .isub, 204, 0), (204, .aload_n 0, 205, 0), (205, .getfield 22, 208, 0), (208, .iload_n 3, 209, 0), (209, .iload 6, 211, 0), (211, .iadd, 212, 0), (212, .iaload, 213, 0), (213, .iastore, 214, 0), (214, .iinc 6 1, 217, 0), (217, .goto (-61), 220, 156), (220, .aload_n 0, 221, 0), (221, .getfield 25, 224, 0), (224, .iload_n 1, 225, 0), (225, .dup2, 226, 0), (226, .iaload, 227, 0), (227, .iload 5, 229, 0), (229, .isub, 230, 0), (230, .iastore, 231, 0), (231, .iload_n 2, 232, 0), (232, .iload 4, 234, 0), (234, .isub, 235, 0), (235, .ireturn, 236, 0)]
set_option maxRecDepth 100000 in
theorem L18_ok : L18.all (dck 18) = true := by decide +kernel
theorem d18 {j pc nx tg : Nat} {ins : Instr} (hj : L18[j]? = some (pc, ins, nx, tg)) : dcd 18 pc ins nx tg := dcl_ok L18_ok hj
set_option maxRecDepth 100000 in
set_option maxHeartbeats 4000000 in
theorem r18_0 {x0 x1 x2 : Int} {M : dsMem} {Q : bQT} (k1 : bB 18 2 [uR 5 x0, uI x1, uI x2, uI 0, uX 0, uX 0, uX 0, uX 0] [] M Q) :
    bB 18 0 [uR 5 x0, uI x1, uI x2, uX 0, uX 0, uX 0, uX 0, uX 0] [] M Q := by
  refine b_iconst (d18 (j := 0) rfl) (by decide) ?_
  refine b_istore_n [uR 5 x0, uI x1, uI x2, uI 0, uX 0, uX 0, uX 0, uX 0] (d18 (j := 1) rfl) (by decide) rfl ?_
  exact k1
set_option maxRecDepth 100000 in
set_option maxHeartbeats 4000000 in
theorem r18_2 {x0 x1 x2 x3 : Int} {M : dsMem} {Q : bQT} (s1 : (5 < x3) → -2147483648 ≤ (x1 * 60) ∧ (x1 * 60) < 2147483648 := by intros; omega) (k1 : (5 < x3) → bB 18 34 [uR 5 x0, uI x1, uI x2, uI (x1 * 60), uI x2, uI 0, uI 0, uX 0] [] M Q) (s2 : (¬ 5 < x3) → 0 ≤ x3 ∧ x3 < 6 := by intros; omega) (s3 : (¬ 5 < x3) → -2147483648 ≤ x3 + 1 ∧ x3 + 1 < 2147483648 := by intros; omega) (k2 : (¬ 5 < x3) → bB 18 2 [uR 5 x0, uI x1, uI x2, uI (x3 + 1), uX 0, uX 0, uX 0, uX 0] [] (dsSet M (x0 + 13) x3 0) Q) :
    bB 18 2 [uR 5 x0, uI x1, uI x2, uI x3, uX 0, uX 0, uX 0, uX 0] [] M Q := by
  refine b_iload_n (d18 (j := 2) rfl) rfl ?_
  refine b_iconst (d18 (j := 3) rfl) (by decide) ?_
  refine b_icmp_gt (d18 (j := 4) rfl) (fun c1 => ?_) (fun c1 => ?_)
  ·
    refine b_iload_n (d18 (j := 12) rfl) rfl ?_
    refine b_bipush (d18 (j := 13) rfl) (by decide) ?_
    refine b_imul (d18 (j := 14) rfl) rfl rfl ?_
    refine b_stk [uI (x1 * 60)] (by rw [dsw_r (s1 c1)]) ?_
    refine b_istore_n [uR 5 x0, uI x1, uI x2, uI (x1 * 60), uX 0, uX 0, uX 0, uX 0] (d18 (j := 15) rfl) (by decide) rfl ?_
    refine b_iload_n (d18 (j := 16) rfl) rfl ?_
    refine b_istore [uR 5 x0, uI x1, uI x2, uI (x1 * 60), uI x2, uX 0, uX 0, uX 0] (d18 (j := 17) rfl) (by decide) rfl ?_
    refine b_iconst (d18 (j := 18) rfl) (by decide) ?_
    refine b_istore [uR 5 x0, uI x1, uI x2, uI (x1 * 60), uI x2, uI 0, uX 0, uX 0] (d18 (j := 19) rfl) (by decide) rfl ?_
    refine b_iconst (d18 (j := 20) rfl) (by decide) ?_
    refine b_istore [uR 5 x0, uI x1, uI x2, uI (x1 * 60), uI x2, uI 0, uI 0, uX 0] (d18 (j := 21) rfl) (by decide) rfl ?_
    exact (k1 c1)
  ·
    refine b_aload_n (d18 (j := 5) rfl) rfl ?_
    refine b_getR (d18 (j := 6) rfl) rfl rfl rfl rfl ?_
    refine b_iload_n (d18 (j := 7) rfl) rfl ?_
    refine b_iconst (d18 (j := 8) rfl) (by decide) ?_
    refine b_iastore (d18 (j := 9) rfl) rfl (s2 c1) ?_
    refine b_iinc [uR 5 x0, uI x1, uI x2, uI (x3 + 1), uX 0, uX 0, uX 0, uX 0] (d18 (j := 10) rfl) rfl (by decide) (s3 c1) rfl ?_
    refine b_goto (d18 (j := 11) rfl) ?_
    exact (k2 c1)
set_option maxRecDepth 100000 in
set_option maxHeartbeats 4000000 in
theorem r18_34 {x0 x1 x2 x3 x4 x5 x6 : Int} {M : dsMem} {Q : bQT} (s1 : 0 ≤ x1 ∧ x1 < 78 := by intros; omega) (k1 : ((M (x0 + 4) x1) ≤ x6) → bB 18 156 [uR 5 x0, uI x1, uI x2, uI x3, uI x4, uI x5, uI x5, uX 0] [] M Q) (k2 : (¬ (M (x0 + 4) x1) ≤ x6) → (x4 ≤ 0) → bB 18 156 [uR 5 x0, uI x1, uI x2, uI x3, uI x4, uI x5, uI x5, uX 0] [] M Q) (s2 : (¬ (M (x0 + 4) x1) ≤ x6) → (¬ x4 ≤ 0) → -2147483648 ≤ (x3 + x6) ∧ (x3 + x6) < 2147483648 := by intros; omega) (s3 : (¬ (M (x0 + 4) x1) ≤ x6) → (¬ x4 ≤ 0) → 0 ≤ (x3 + x6) ∧ (x3 + x6) < 4680 := by intros; omega) (s4 : (¬ (M (x0 + 4) x1) ≤ x6) → (¬ x4 ≤ 0) → ((M (x0 + 3) (x3 + x6)) ≤ x4) → -2147483648 ≤ (x3 + x6) ∧ (x3 + x6) < 2147483648 := by intros; omega) (s5 : (¬ (M (x0 + 4) x1) ≤ x6) → (¬ x4 ≤ 0) → ((M (x0 + 3) (x3 + x6)) ≤ x4) → 0 ≤ (x3 + x6) ∧ (x3 + x6) < 4680 := by intros; omega) (s6 : (¬ (M (x0 + 4) x1) ≤ x6) → (¬ x4 ≤ 0) → ((M (x0 + 3) (x3 + x6)) ≤ x4) → -2147483648 ≤ (x3 + x6) ∧ (x3 + x6) < 2147483648 := by intros; omega) (s7 : (¬ (M (x0 + 4) x1) ≤ x6) → (¬ x4 ≤ 0) → ((M (x0 + 3) (x3 + x6)) ≤ x4) → 0 ≤ (x3 + x6) ∧ (x3 + x6) < 4680 := by intros; omega) (s8 : (¬ (M (x0 + 4) x1) ≤ x6) → (¬ x4 ≤ 0) → ((M (x0 + 3) (x3 + x6)) ≤ x4) → -2147483648 ≤ ((M (x0 + 3) (x3 + x6)) - (M (x0 + 3) (x3 + x6))) ∧ ((M (x0 + 3) (x3 + x6)) - (M (x0 + 3) (x3 + x6))) < 2147483648 := by intros; omega) (s9 : (¬ (M (x0 + 4) x1) ≤ x6) → (¬ x4 ≤ 0) → ((M (x0 + 3) (x3 + x6)) ≤ x4) → 0 ≤ (x3 + x6) ∧ (x3 + x6) < 4680 := by intros; omega) (s10 : (¬ (M (x0 + 4) x1) ≤ x6) → (¬ x4 ≤ 0) → ((M (x0 + 3) (x3 + x6)) ≤ x4) → -2147483648 ≤ (x3 + x6) ∧ (x3 + x6) < 2147483648 := by intros; omega) (s11 : (¬ (M (x0 + 4) x1) ≤ x6) → (¬ x4 ≤ 0) → ((M (x0 + 3) (x3 + x6)) ≤ x4) → 0 ≤ (x3 + x6) ∧ (x3 + x6) < 4680 := by intros; omega) (s12 : (¬ (M (x0 + 4) x1) ≤ x6) → (¬ x4 ≤ 0) → ((M (x0 + 3) (x3 + x6)) ≤ x4) → 0 ≤ ((dsSet M (x0 + 3) (x3 + x6) ((M (x0 + 3) (x3 + x6)) - (M (x0 + 3) (x3 + x6)))) (x0 + 2) (x3 + x6)) ∧ ((dsSet M (x0 + 3) (x3 + x6) ((M (x0 + 3) (x3 + x6)) - (M (x0 + 3) (x3 + x6)))) (x0 + 2) (x3 + x6)) < 6 := by intros; omega) (s13 : (¬ (M (x0 + 4) x1) ≤ x6) → (¬ x4 ≤ 0) → ((M (x0 + 3) (x3 + x6)) ≤ x4) → -2147483648 ≤ (((dsSet M (x0 + 3) (x3 + x6) ((M (x0 + 3) (x3 + x6)) - (M (x0 + 3) (x3 + x6)))) (x0 + 13) ((dsSet M (x0 + 3) (x3 + x6) ((M (x0 + 3) (x3 + x6)) - (M (x0 + 3) (x3 + x6)))) (x0 + 2) (x3 + x6))) + (M (x0 + 3) (x3 + x6))) ∧ (((dsSet M (x0 + 3) (x3 + x6) ((M (x0 + 3) (x3 + x6)) - (M (x0 + 3) (x3 + x6)))) (x0 + 13) ((dsSet M (x0 + 3) (x3 + x6) ((M (x0 + 3) (x3 + x6)) - (M (x0 + 3) (x3 + x6)))) (x0 + 2) (x3 + x6))) + (M (x0 + 3) (x3 + x6))) < 2147483648 := by intros; omega) (s14 : (¬ (M (x0 + 4) x1) ≤ x6) → (¬ x4 ≤ 0) → ((M (x0 + 3) (x3 + x6)) ≤ x4) → 0 ≤ ((dsSet M (x0 + 3) (x3 + x6) ((M (x0 + 3) (x3 + x6)) - (M (x0 + 3) (x3 + x6)))) (x0 + 2) (x3 + x6)) ∧ ((dsSet M (x0 + 3) (x3 + x6) ((M (x0 + 3) (x3 + x6)) - (M (x0 + 3) (x3 + x6)))) (x0 + 2) (x3 + x6)) < 6 := by intros; omega) (s15 : (¬ (M (x0 + 4) x1) ≤ x6) → (¬ x4 ≤ 0) → ((M (x0 + 3) (x3 + x6)) ≤ x4) → 0 ≤ x1 ∧ x1 < 78 := by intros; omega) (s16 : (¬ (M (x0 + 4) x1) ≤ x6) → (¬ x4 ≤ 0) → ((M (x0 + 3) (x3 + x6)) ≤ x4) → -2147483648 ≤ (((dsSet (dsSet M (x0 + 3) (x3 + x6) ((M (x0 + 3) (x3 + x6)) - (M (x0 + 3) (x3 + x6)))) (x0 + 13) ((dsSet M (x0 + 3) (x3 + x6) ((M (x0 + 3) (x3 + x6)) - (M (x0 + 3) (x3 + x6)))) (x0 + 2) (x3 + x6)) (((dsSet M (x0 + 3) (x3 + x6) ((M (x0 + 3) (x3 + x6)) - (M (x0 + 3) (x3 + x6)))) (x0 + 13) ((dsSet M (x0 + 3) (x3 + x6) ((M (x0 + 3) (x3 + x6)) - (M (x0 + 3) (x3 + x6)))) (x0 + 2) (x3 + x6))) + (M (x0 + 3) (x3 + x6)))) (x0 + 5) x1) - (M (x0 + 3) (x3 + x6))) ∧ (((dsSet (dsSet M (x0 + 3) (x3 + x6) ((M (x0 + 3) (x3 + x6)) - (M (x0 + 3) (x3 + x6)))) (x0 + 13) ((dsSet M (x0 + 3) (x3 + x6) ((M (x0 + 3) (x3 + x6)) - (M (x0 + 3) (x3 + x6)))) (x0 + 2) (x3 + x6)) (((dsSet M (x0 + 3) (x3 + x6) ((M (x0 + 3) (x3 + x6)) - (M (x0 + 3) (x3 + x6)))) (x0 + 13) ((dsSet M (x0 + 3) (x3 + x6) ((M (x0 + 3) (x3 + x6)) - (M (x0 + 3) (x3 + x6)))) (x0 + 2) (x3 + x6))) + (M (x0 + 3) (x3 + x6)))) (x0 + 5) x1) - (M (x0 + 3) (x3 + x6))) < 2147483648 := by intros; omega) (s17 : (¬ (M (x0 + 4) x1) ≤ x6) → (¬ x4 ≤ 0) → ((M (x0 + 3) (x3 + x6)) ≤ x4) → 0 ≤ x1 ∧ x1 < 78 := by intros; omega) (s18 : (¬ (M (x0 + 4) x1) ≤ x6) → (¬ x4 ≤ 0) → ((M (x0 + 3) (x3 + x6)) ≤ x4) → -2147483648 ≤ (x4 - (M (x0 + 3) (x3 + x6))) ∧ (x4 - (M (x0 + 3) (x3 + x6))) < 2147483648 := by intros; omega) (s19 : (¬ (M (x0 + 4) x1) ≤ x6) → (¬ x4 ≤ 0) → ((M (x0 + 3) (x3 + x6)) ≤ x4) → -2147483648 ≤ (x3 + x6) ∧ (x3 + x6) < 2147483648 := by intros; omega) (s20 : (¬ (M (x0 + 4) x1) ≤ x6) → (¬ x4 ≤ 0) → ((M (x0 + 3) (x3 + x6)) ≤ x4) → 0 ≤ (x3 + x6) ∧ (x3 + x6) < 4680 := by intros; omega) (s21 : (¬ (M (x0 + 4) x1) ≤ x6) → (¬ x4 ≤ 0) → ((M (x0 + 3) (x3 + x6)) ≤ x4) → (¬ ((dsSet (dsSet (dsSet M (x0 + 3) (x3 + x6) ((M (x0 + 3) (x3 + x6)) - (M (x0 + 3) (x3 + x6)))) (x0 + 13) ((dsSet M (x0 + 3) (x3 + x6) ((M (x0 + 3) (x3 + x6)) - (M (x0 + 3) (x3 + x6)))) (x0 + 2) (x3 + x6)) (((dsSet M (x0 + 3) (x3 + x6) ((M (x0 + 3) (x3 + x6)) - (M (x0 + 3) (x3 + x6)))) (x0 + 13) ((dsSet M (x0 + 3) (x3 + x6) ((M (x0 + 3) (x3 + x6)) - (M (x0 + 3) (x3 + x6)))) (x0 + 2) (x3 + x6))) + (M (x0 + 3) (x3 + x6)))) (x0 + 5) x1 (((dsSet (dsSet M (x0 + 3) (x3 + x6) ((M (x0 + 3) (x3 + x6)) - (M (x0 + 3) (x3 + x6)))) (x0 + 13) ((dsSet M (x0 + 3) (x3 + x6) ((M (x0 + 3) (x3 + x6)) - (M (x0 + 3) (x3 + x6)))) (x0 + 2) (x3 + x6)) (((dsSet M (x0 + 3) (x3 + x6) ((M (x0 + 3) (x3 + x6)) - (M (x0 + 3) (x3 + x6)))) (x0 + 13) ((dsSet M (x0 + 3) (x3 + x6) ((M (x0 + 3) (x3 + x6)) - (M (x0 + 3) (x3 + x6)))) (x0 + 2) (x3 + x6))) + (M (x0 + 3) (x3 + x6)))) (x0 + 5) x1) - (M (x0 + 3) (x3 + x6)))) (x0 + 3) (x3 + x6)) = 0) → -2147483648 ≤ x6 + 1 ∧ x6 + 1 < 2147483648 := by intros; omega) (k3 : (¬ (M (x0 + 4) x1) ≤ x6) → (¬ x4 ≤ 0) → ((M (x0 + 3) (x3 + x6)) ≤ x4) → (¬ ((dsSet (dsSet (dsSet M (x0 + 3) (x3 + x6) ((M (x0 + 3) (x3 + x6)) - (M (x0 + 3) (x3 + x6)))) (x0 + 13) ((dsSet M (x0 + 3) (x3 + x6) ((M (x0 + 3) (x3 + x6)) - (M (x0 + 3) (x3 + x6)))) (x0 + 2) (x3 + x6)) (((dsSet M (x0 + 3) (x3 + x6) ((M (x0 + 3) (x3 + x6)) - (M (x0 + 3) (x3 + x6)))) (x0 + 13) ((dsSet M (x0 + 3) (x3 + x6) ((M (x0 + 3) (x3 + x6)) - (M (x0 + 3) (x3 + x6)))) (x0 + 2) (x3 + x6))) + (M (x0 + 3) (x3 + x6)))) (x0 + 5) x1 (((dsSet (dsSet M (x0 + 3) (x3 + x6) ((M (x0 + 3) (x3 + x6)) - (M (x0 + 3) (x3 + x6)))) (x0 + 13) ((dsSet M (x0 + 3) (x3 + x6) ((M (x0 + 3) (x3 + x6)) - (M (x0 + 3) (x3 + x6)))) (x0 + 2) (x3 + x6)) (((dsSet M (x0 + 3) (x3 + x6) ((M (x0 + 3) (x3 + x6)) - (M (x0 + 3) (x3 + x6)))) (x0 + 13) ((dsSet M (x0 + 3) (x3 + x6) ((M (x0 + 3) (x3 + x6)) - (M (x0 + 3) (x3 + x6)))) (x0 + 2) (x3 + x6))) + (M (x0 + 3) (x3 + x6)))) (x0 + 5) x1) - (M (x0 + 3) (x3 + x6)))) (x0 + 3) (x3 + x6)) = 0) → bB 18 34 [uR 5 x0, uI x1, uI x2, uI x3, uI (x4 - (M (x0 + 3) (x3 + x6))), uI x5, uI (x6 + 1), uX 0] [] (dsSet (dsSet (dsSet M (x0 + 3) (x3 + x6) ((M (x0 + 3) (x3 + x6)) - (M (x0 + 3) (x3 + x6)))) (x0 + 13) ((dsSet M (x0 + 3) (x3 + x6) ((M (x0 + 3) (x3 + x6)) - (M (x0 + 3) (x3 + x6)))) (x0 + 2) (x3 + x6)) (((dsSet M (x0 + 3) (x3 + x6) ((M (x0 + 3) (x3 + x6)) - (M (x0 + 3) (x3 + x6)))) (x0 + 13) ((dsSet M (x0 + 3) (x3 + x6) ((M (x0 + 3) (x3 + x6)) - (M (x0 + 3) (x3 + x6)))) (x0 + 2) (x3 + x6))) + (M (x0 + 3) (x3 + x6)))) (x0 + 5) x1 (((dsSet (dsSet M (x0 + 3) (x3 + x6) ((M (x0 + 3) (x3 + x6)) - (M (x0 + 3) (x3 + x6)))) (x0 + 13) ((dsSet M (x0 + 3) (x3 + x6) ((M (x0 + 3) (x3 + x6)) - (M (x0 + 3) (x3 + x6)))) (x0 + 2) (x3 + x6)) (((dsSet M (x0 + 3) (x3 + x6) ((M (x0 + 3) (x3 + x6)) - (M (x0 + 3) (x3 + x6)))) (x0 + 13) ((dsSet M (x0 + 3) (x3 + x6) ((M (x0 + 3) (x3 + x6)) - (M (x0 + 3) (x3 + x6)))) (x0 + 2) (x3 + x6))) + (M (x0 + 3) (x3 + x6)))) (x0 + 5) x1) - (M (x0 + 3) (x3 + x6)))) Q) (s22 : (¬ (M (x0 + 4) x1) ≤ x6) → (¬ x4 ≤ 0) → ((M (x0 + 3) (x3 + x6)) ≤ x4) → (((dsSet (dsSet (dsSet M (x0 + 3) (x3 + x6) ((M (x0 + 3) (x3 + x6)) - (M (x0 + 3) (x3 + x6)))) (x0 + 13) ((dsSet M (x0 + 3) (x3 + x6) ((M (x0 + 3) (x3 + x6)) - (M (x0 + 3) (x3 + x6)))) (x0 + 2) (x3 + x6)) (((dsSet M (x0 + 3) (x3 + x6) ((M (x0 + 3) (x3 + x6)) - (M (x0 + 3) (x3 + x6)))) (x0 + 13) ((dsSet M (x0 + 3) (x3 + x6) ((M (x0 + 3) (x3 + x6)) - (M (x0 + 3) (x3 + x6)))) (x0 + 2) (x3 + x6))) + (M (x0 + 3) (x3 + x6)))) (x0 + 5) x1 (((dsSet (dsSet M (x0 + 3) (x3 + x6) ((M (x0 + 3) (x3 + x6)) - (M (x0 + 3) (x3 + x6)))) (x0 + 13) ((dsSet M (x0 + 3) (x3 + x6) ((M (x0 + 3) (x3 + x6)) - (M (x0 + 3) (x3 + x6)))) (x0 + 2) (x3 + x6)) (((dsSet M (x0 + 3) (x3 + x6) ((M (x0 + 3) (x3 + x6)) - (M (x0 + 3) (x3 + x6)))) (x0 + 13) ((dsSet M (x0 + 3) (x3 + x6) ((M (x0 + 3) (x3 + x6)) - (M (x0 + 3) (x3 + x6)))) (x0 + 2) (x3 + x6))) + (M (x0 + 3) (x3 + x6)))) (x0 + 5) x1) - (M (x0 + 3) (x3 + x6)))) (x0 + 3) (x3 + x6)) = 0) → -2147483648 ≤ x5 + 1 ∧ x5 + 1 < 2147483648 := by intros; omega) (s23 : (¬ (M (x0 + 4) x1) ≤ x6) → (¬ x4 ≤ 0) → ((M (x0 + 3) (x3 + x6)) ≤ x4) → (((dsSet (dsSet (dsSet M (x0 + 3) (x3 + x6) ((M (x0 + 3) (x3 + x6)) - (M (x0 + 3) (x3 + x6)))) (x0 + 13) ((dsSet M (x0 + 3) (x3 + x6) ((M (x0 + 3) (x3 + x6)) - (M (x0 + 3) (x3 + x6)))) (x0 + 2) (x3 + x6)) (((dsSet M (x0 + 3) (x3 + x6) ((M (x0 + 3) (x3 + x6)) - (M (x0 + 3) (x3 + x6)))) (x0 + 13) ((dsSet M (x0 + 3) (x3 + x6) ((M (x0 + 3) (x3 + x6)) - (M (x0 + 3) (x3 + x6)))) (x0 + 2) (x3 + x6))) + (M (x0 + 3) (x3 + x6)))) (x0 + 5) x1 (((dsSet (dsSet M (x0 + 3) (x3 + x6) ((M (x0 + 3) (x3 + x6)) - (M (x0 + 3) (x3 + x6)))) (x0 + 13) ((dsSet M (x0 + 3) (x3 + x6) ((M (x0 + 3) (x3 + x6)) - (M (x0 + 3) (x3 + x6)))) (x0 + 2) (x3 + x6)) (((dsSet M (x0 + 3) (x3 + x6) ((M (x0 + 3) (x3 + x6)) - (M (x0 + 3) (x3 + x6)))) (x0 + 13) ((dsSet M (x0 + 3) (x3 + x6) ((M (x0 + 3) (x3 + x6)) - (M (x0 + 3) (x3 + x6)))) (x0 + 2) (x3 + x6))) + (M (x0 + 3) (x3 + x6)))) (x0 + 5) x1) - (M (x0 + 3) (x3 + x6)))) (x0 + 3) (x3 + x6)) = 0) → -2147483648 ≤ x6 + 1 ∧ x6 + 1 < 2147483648 := by intros; omega) (k4 : (¬ (M (x0 + 4) x1) ≤ x6) → (¬ x4 ≤ 0) → ((M (x0 + 3) (x3 + x6)) ≤ x4) → (((dsSet (dsSet (dsSet M (x0 + 3) (x3 + x6) ((M (x0 + 3) (x3 + x6)) - (M (x0 + 3) (x3 + x6)))) (x0 + 13) ((dsSet M (x0 + 3) (x3 + x6) ((M (x0 + 3) (x3 + x6)) - (M (x0 + 3) (x3 + x6)))) (x0 + 2) (x3 + x6)) (((dsSet M (x0 + 3) (x3 + x6) ((M (x0 + 3) (x3 + x6)) - (M (x0 + 3) (x3 + x6)))) (x0 + 13) ((dsSet M (x0 + 3) (x3 + x6) ((M (x0 + 3) (x3 + x6)) - (M (x0 + 3) (x3 + x6)))) (x0 + 2) (x3 + x6))) + (M (x0 + 3) (x3 + x6)))) (x0 + 5) x1 (((dsSet (dsSet M (x0 + 3) (x3 + x6) ((M (x0 + 3) (x3 + x6)) - (M (x0 + 3) (x3 + x6)))) (x0 + 13) ((dsSet M (x0 + 3) (x3 + x6) ((M (x0 + 3) (x3 + x6)) - (M (x0 + 3) (x3 + x6)))) (x0 + 2) (x3 + x6)) (((dsSet M (x0 + 3) (x3 + x6) ((M (x0 + 3) (x3 + x6)) - (M (x0 + 3) (x3 + x6)))) (x0 + 13) ((dsSet M (x0 + 3) (x3 + x6) ((M (x0 + 3) (x3 + x6)) - (M (x0 + 3) (x3 + x6)))) (x0 + 2) (x3 + x6))) + (M (x0 + 3) (x3 + x6)))) (x0 + 5) x1) - (M (x0 + 3) (x3 + x6)))) (x0 + 3) (x3 + x6)) = 0) → bB 18 34 [uR 5 x0, uI x1, uI x2, uI x3, uI (x4 - (M (x0 + 3) (x3 + x6))), uI (x5 + 1), uI (x6 + 1), uX 0] [] (dsSet (dsSet (dsSet M (x0 + 3) (x3 + x6) ((M (x0 + 3) (x3 + x6)) - (M (x0 + 3) (x3 + x6)))) (x0 + 13) ((dsSet M (x0 + 3) (x3 + x6) ((M (x0 + 3) (x3 + x6)) - (M (x0 + 3) (x3 + x6)))) (x0 + 2) (x3 + x6)) (((dsSet M (x0 + 3) (x3 + x6) ((M (x0 + 3) (x3 + x6)) - (M (x0 + 3) (x3 + x6)))) (x0 + 13) ((dsSet M (x0 + 3) (x3 + x6) ((M (x0 + 3) (x3 + x6)) - (M (x0 + 3) (x3 + x6)))) (x0 + 2) (x3 + x6))) + (M (x0 + 3) (x3 + x6)))) (x0 + 5) x1 (((dsSet (dsSet M (x0 + 3) (x3 + x6) ((M (x0 + 3) (x3 + x6)) - (M (x0 + 3) (x3 + x6)))) (x0 + 13) ((dsSet M (x0 + 3) (x3 + x6) ((M (x0 + 3) (x3 + x6)) - (M (x0 + 3) (x3 + x6)))) (x0 + 2) (x3 + x6)) (((dsSet M (x0 + 3) (x3 + x6) ((M (x0 + 3) (x3 + x6)) - (M (x0 + 3) (x3 + x6)))) (x0 + 13) ((dsSet M (x0 + 3) (x3 + x6) ((M (x0 + 3) (x3 + x6)) - (M (x0 + 3) (x3 + x6)))) (x0 + 2) (x3 + x6))) + (M (x0 + 3) (x3 + x6)))) (x0 + 5) x1) - (M (x0 + 3) (x3 + x6)))) Q) (s24 : (¬ (M (x0 + 4) x1) ≤ x6) → (¬ x4 ≤ 0) → (¬ (M (x0 + 3) (x3 + x6)) ≤ x4) → -2147483648 ≤ (x3 + x6) ∧ (x3 + x6) < 2147483648 := by intros; omega) (s25 : (¬ (M (x0 + 4) x1) ≤ x6) → (¬ x4 ≤ 0) → (¬ (M (x0 + 3) (x3 + x6)) ≤ x4) → 0 ≤ (x3 + x6) ∧ (x3 + x6) < 4680 := by intros; omega) (s26 : (¬ (M (x0 + 4) x1) ≤ x6) → (¬ x4 ≤ 0) → (¬ (M (x0 + 3) (x3 + x6)) ≤ x4) → -2147483648 ≤ ((M (x0 + 3) (x3 + x6)) - x4) ∧ ((M (x0 + 3) (x3 + x6)) - x4) < 2147483648 := by intros; omega) (s27 : (¬ (M (x0 + 4) x1) ≤ x6) → (¬ x4 ≤ 0) → (¬ (M (x0 + 3) (x3 + x6)) ≤ x4) → 0 ≤ (x3 + x6) ∧ (x3 + x6) < 4680 := by intros; omega) (s28 : (¬ (M (x0 + 4) x1) ≤ x6) → (¬ x4 ≤ 0) → (¬ (M (x0 + 3) (x3 + x6)) ≤ x4) → -2147483648 ≤ (x3 + x6) ∧ (x3 + x6) < 2147483648 := by intros; omega) (s29 : (¬ (M (x0 + 4) x1) ≤ x6) → (¬ x4 ≤ 0) → (¬ (M (x0 + 3) (x3 + x6)) ≤ x4) → 0 ≤ (x3 + x6) ∧ (x3 + x6) < 4680 := by intros; omega) (s30 : (¬ (M (x0 + 4) x1) ≤ x6) → (¬ x4 ≤ 0) → (¬ (M (x0 + 3) (x3 + x6)) ≤ x4) → 0 ≤ ((dsSet M (x0 + 3) (x3 + x6) ((M (x0 + 3) (x3 + x6)) - x4)) (x0 + 2) (x3 + x6)) ∧ ((dsSet M (x0 + 3) (x3 + x6) ((M (x0 + 3) (x3 + x6)) - x4)) (x0 + 2) (x3 + x6)) < 6 := by intros; omega) (s31 : (¬ (M (x0 + 4) x1) ≤ x6) → (¬ x4 ≤ 0) → (¬ (M (x0 + 3) (x3 + x6)) ≤ x4) → -2147483648 ≤ (((dsSet M (x0 + 3) (x3 + x6) ((M (x0 + 3) (x3 + x6)) - x4)) (x0 + 13) ((dsSet M (x0 + 3) (x3 + x6) ((M (x0 + 3) (x3 + x6)) - x4)) (x0 + 2) (x3 + x6))) + x4) ∧ (((dsSet M (x0 + 3) (x3 + x6) ((M (x0 + 3) (x3 + x6)) - x4)) (x0 + 13) ((dsSet M (x0 + 3) (x3 + x6) ((M (x0 + 3) (x3 + x6)) - x4)) (x0 + 2) (x3 + x6))) + x4) < 2147483648 := by intros; omega) (s32 : (¬ (M (x0 + 4) x1) ≤ x6) → (¬ x4 ≤ 0) → (¬ (M (x0 + 3) (x3 + x6)) ≤ x4) → 0 ≤ ((dsSet M (x0 + 3) (x3 + x6) ((M (x0 + 3) (x3 + x6)) - x4)) (x0 + 2) (x3 + x6)) ∧ ((dsSet M (x0 + 3) (x3 + x6) ((M (x0 + 3) (x3 + x6)) - x4)) (x0 + 2) (x3 + x6)) < 6 := by intros; omega) (s33 : (¬ (M (x0 + 4) x1) ≤ x6) → (¬ x4 ≤ 0) → (¬ (M (x0 + 3) (x3 + x6)) ≤ x4) → 0 ≤ x1 ∧ x1 < 78 := by intros; omega) (s34 : (¬ (M (x0 + 4) x1) ≤ x6) → (¬ x4 ≤ 0) → (¬ (M (x0 + 3) (x3 + x6)) ≤ x4) → -2147483648 ≤ (((dsSet (dsSet M (x0 + 3) (x3 + x6) ((M (x0 + 3) (x3 + x6)) - x4)) (x0 + 13) ((dsSet M (x0 + 3) (x3 + x6) ((M (x0 + 3) (x3 + x6)) - x4)) (x0 + 2) (x3 + x6)) (((dsSet M (x0 + 3) (x3 + x6) ((M (x0 + 3) (x3 + x6)) - x4)) (x0 + 13) ((dsSet M (x0 + 3) (x3 + x6) ((M (x0 + 3) (x3 + x6)) - x4)) (x0 + 2) (x3 + x6))) + x4)) (x0 + 5) x1) - x4) ∧ (((dsSet (dsSet M (x0 + 3) (x3 + x6) ((M (x0 + 3) (x3 + x6)) - x4)) (x0 + 13) ((dsSet M (x0 + 3) (x3 + x6) ((M (x0 + 3) (x3 + x6)) - x4)) (x0 + 2) (x3 + x6)) (((dsSet M (x0 + 3) (x3 + x6) ((M (x0 + 3) (x3 + x6)) - x4)) (x0 + 13) ((dsSet M (x0 + 3) (x3 + x6) ((M (x0 + 3) (x3 + x6)) - x4)) (x0 + 2) (x3 + x6))) + x4)) (x0 + 5) x1) - x4) < 2147483648 := by intros; omega) (s35 : (¬ (M (x0 + 4) x1) ≤ x6) → (¬ x4 ≤ 0) → (¬ (M (x0 + 3) (x3 + x6)) ≤ x4) → 0 ≤ x1 ∧ x1 < 78 := by intros; omega) (s36 : (¬ (M (x0 + 4) x1) ≤ x6) → (¬ x4 ≤ 0) → (¬ (M (x0 + 3) (x3 + x6)) ≤ x4) → -2147483648 ≤ (x4 - x4) ∧ (x4 - x4) < 2147483648 := by intros; omega) (s37 : (¬ (M (x0 + 4) x1) ≤ x6) → (¬ x4 ≤ 0) → (¬ (M (x0 + 3) (x3 + x6)) ≤ x4) → -2147483648 ≤ (x3 + x6) ∧ (x3 + x6) < 2147483648 := by intros; omega) (s38 : (¬ (M (x0 + 4) x1) ≤ x6) → (¬ x4 ≤ 0) → (¬ (M (x0 + 3) (x3 + x6)) ≤ x4) → 0 ≤ (x3 + x6) ∧ (x3 + x6) < 4680 := by intros; omega) (s39 : (¬ (M (x0 + 4) x1) ≤ x6) → (¬ x4 ≤ 0) → (¬ (M (x0 + 3) (x3 + x6)) ≤ x4) → (¬ ((dsSet (dsSet (dsSet M (x0 + 3) (x3 + x6) ((M (x0 + 3) (x3 + x6)) - x4)) (x0 + 13) ((dsSet M (x0 + 3) (x3 + x6) ((M (x0 + 3) (x3 + x6)) - x4)) (x0 + 2) (x3 + x6)) (((dsSet M (x0 + 3) (x3 + x6) ((M (x0 + 3) (x3 + x6)) - x4)) (x0 + 13) ((dsSet M (x0 + 3) (x3 + x6) ((M (x0 + 3) (x3 + x6)) - x4)) (x0 + 2) (x3 + x6))) + x4)) (x0 + 5) x1 (((dsSet (dsSet M (x0 + 3) (x3 + x6) ((M (x0 + 3) (x3 + x6)) - x4)) (x0 + 13) ((dsSet M (x0 + 3) (x3 + x6) ((M (x0 + 3) (x3 + x6)) - x4)) (x0 + 2) (x3 + x6)) (((dsSet M (x0 + 3) (x3 + x6) ((M (x0 + 3) (x3 + x6)) - x4)) (x0 + 13) ((dsSet M (x0 + 3) (x3 + x6) ((M (x0 + 3) (x3 + x6)) - x4)) (x0 + 2) (x3 + x6))) + x4)) (x0 + 5) x1) - x4)) (x0 + 3) (x3 + x6)) = 0) → -2147483648 ≤ x6 + 1 ∧ x6 + 1 < 2147483648 := by intros; omega) (k5 : (¬ (M (x0 + 4) x1) ≤ x6) → (¬ x4 ≤ 0) → (¬ (M (x0 + 3) (x3 + x6)) ≤ x4) → (¬ ((dsSet (dsSet (dsSet M (x0 + 3) (x3 + x6) ((M (x0 + 3) (x3 + x6)) - x4)) (x0 + 13) ((dsSet M (x0 + 3) (x3 + x6) ((M (x0 + 3) (x3 + x6)) - x4)) (x0 + 2) (x3 + x6)) (((dsSet M (x0 + 3) (x3 + x6) ((M (x0 + 3) (x3 + x6)) - x4)) (x0 + 13) ((dsSet M (x0 + 3) (x3 + x6) ((M (x0 + 3) (x3 + x6)) - x4)) (x0 + 2) (x3 + x6))) + x4)) (x0 + 5) x1 (((dsSet (dsSet M (x0 + 3) (x3 + x6) ((M (x0 + 3) (x3 + x6)) - x4)) (x0 + 13) ((dsSet M (x0 + 3) (x3 + x6) ((M (x0 + 3) (x3 + x6)) - x4)) (x0 + 2) (x3 + x6)) (((dsSet M (x0 + 3) (x3 + x6) ((M (x0 + 3) (x3 + x6)) - x4)) (x0 + 13) ((dsSet M (x0 + 3) (x3 + x6) ((M (x0 + 3) (x3 + x6)) - x4)) (x0 + 2) (x3 + x6))) + x4)) (x0 + 5) x1) - x4)) (x0 + 3) (x3 + x6)) = 0) → bB 18 34 [uR 5 x0, uI x1, uI x2, uI x3, uI (x4 - x4), uI x5, uI (x6 + 1), uX 0] [] (dsSet (dsSet (dsSet M (x0 + 3) (x3 + x6) ((M (x0 + 3) (x3 + x6)) - x4)) (x0 + 13) ((dsSet M (x0 + 3) (x3 + x6) ((M (x0 + 3) (x3 + x6)) - x4)) (x0 + 2) (x3 + x6)) (((dsSet M (x0 + 3) (x3 + x6) ((M (x0 + 3) (x3 + x6)) - x4)) (x0 + 13) ((dsSet M (x0 + 3) (x3 + x6) ((M (x0 + 3) (x3 + x6)) - x4)) (x0 + 2) (x3 + x6))) + x4)) (x0 + 5) x1 (((dsSet (dsSet M (x0 + 3) (x3 + x6) ((M (x0 + 3) (x3 + x6)) - x4)) (x0 + 13) ((dsSet M (x0 + 3) (x3 + x6) ((M (x0 + 3) (x3 + x6)) - x4)) (x0 + 2) (x3 + x6)) (((dsSet M (x0 + 3) (x3 + x6) ((M (x0 + 3) (x3 + x6)) - x4)) (x0 + 13) ((dsSet M (x0 + 3) (x3 + x6) ((M (x0 + 3) (x3 + x6)) - x4)) (x0 + 2) (x3 + x6))) + x4)) (x0 + 5) x1) - x4)) Q) (s40 : (¬ (M (x0 + 4) x1) ≤ x6) → (¬ x4 ≤ 0) → (¬ (M (x0 + 3) (x3 + x6)) ≤ x4) → (((dsSet (dsSet (dsSet M (x0 + 3) (x3 + x6) ((M (x0 + 3) (x3 + x6)) - x4)) (x0 + 13) ((dsSet M (x0 + 3) (x3 + x6) ((M (x0 + 3) (x3 + x6)) - x4)) (x0 + 2) (x3 + x6)) (((dsSet M (x0 + 3) (x3 + x6) ((M (x0 + 3) (x3 + x6)) - x4)) (x0 + 13) ((dsSet M (x0 + 3) (x3 + x6) ((M (x0 + 3) (x3 + x6)) - x4)) (x0 + 2) (x3 + x6))) + x4)) (x0 + 5) x1 (((dsSet (dsSet M (x0 + 3) (x3 + x6) ((M (x0 + 3) (x3 + x6)) - x4)) (x0 + 13) ((dsSet M (x0 + 3) (x3 + x6) ((M (x0 + 3) (x3 + x6)) - x4)) (x0 + 2) (x3 + x6)) (((dsSet M (x0 + 3) (x3 + x6) ((M (x0 + 3) (x3 + x6)) - x4)) (x0 + 13) ((dsSet M (x0 + 3) (x3 + x6) ((M (x0 + 3) (x3 + x6)) - x4)) (x0 + 2) (x3 + x6))) + x4)) (x0 + 5) x1) - x4)) (x0 + 3) (x3 + x6)) = 0) → -2147483648 ≤ x5 + 1 ∧ x5 + 1 < 2147483648 := by intros; omega) (s41 : (¬ (M (x0 + 4) x1) ≤ x6) → (¬ x4 ≤ 0) → (¬ (M (x0 + 3) (x3 + x6)) ≤ x4) → (((dsSet (dsSet (dsSet M (x0 + 3) (x3 + x6) ((M (x0 + 3) (x3 + x6)) - x4)) (x0 + 13) ((dsSet M (x0 + 3) (x3 + x6) ((M (x0 + 3) (x3 + x6)) - x4)) (x0 + 2) (x3 + x6)) (((dsSet M (x0 + 3) (x3 + x6) ((M (x0 + 3) (x3 + x6)) - x4)) (x0 + 13) ((dsSet M (x0 + 3) (x3 + x6) ((M (x0 + 3) (x3 + x6)) - x4)) (x0 + 2) (x3 + x6))) + x4)) (x0 + 5) x1 (((dsSet (dsSet M (x0 + 3) (x3 + x6) ((M (x0 + 3) (x3 + x6)) - x4)) (x0 + 13) ((dsSet M (x0 + 3) (x3 + x6) ((M (x0 + 3) (x3 + x6)) - x4)) (x0 + 2) (x3 + x6)) (((dsSet M (x0 + 3) (x3 + x6) ((M (x0 + 3) (x3 + x6)) - x4)) (x0 + 13) ((dsSet M (x0 + 3) (x3 + x6) ((M (x0 + 3) (x3 + x6)) - x4)) (x0 + 2) (x3 + x6))) + x4)) (x0 + 5) x1) - x4)) (x0 + 3) (x3 + x6)) = 0) → -2147483648 ≤ x6 + 1 ∧ x6 + 1 < 2147483648 := by intros; omega) (k6 : (¬ (M (x0 + 4) x1) ≤ x6) → (¬ x4 ≤ 0) → (¬ (M (x0 + 3) (x3 + x6)) ≤ x4) → (((dsSet (dsSet (dsSet M (x0 + 3) (x3 + x6) ((M (x0 + 3) (x3 + x6)) - x4)) (x0 + 13) ((dsSet M (x0 + 3) (x3 + x6) ((M (x0 + 3) (x3 + x6)) - x4)) (x0 + 2) (x3 + x6)) (((dsSet M (x0 + 3) (x3 + x6) ((M (x0 + 3) (x3 + x6)) - x4)) (x0 + 13) ((dsSet M (x0 + 3) (x3 + x6) ((M (x0 + 3) (x3 + x6)) - x4)) (x0 + 2) (x3 + x6))) + x4)) (x0 + 5) x1 (((dsSet (dsSet M (x0 + 3) (x3 + x6) ((M (x0 + 3) (x3 + x6)) - x4)) (x0 + 13) ((dsSet M (x0 + 3) (x3 + x6) ((M (x0 + 3) (x3 + x6)) - x4)) (x0 + 2) (x3 + x6)) (((dsSet M (x0 + 3) (x3 + x6) ((M (x0 + 3) (x3 + x6)) - x4)) (x0 + 13) ((dsSet M (x0 + 3) (x3 + x6) ((M (x0 + 3) (x3 + x6)) - x4)) (x0 + 2) (x3 + x6))) + x4)) (x0 + 5) x1) - x4)) (x0 + 3) (x3 + x6)) = 0) → bB 18 34 [uR 5 x0, uI x1, uI x2, uI x3, uI (x4 - x4), uI (x5 + 1), uI (x6 + 1), uX 0] [] (dsSet (dsSet (dsSet M (x0 + 3) (x3 + x6) ((M (x0 + 3) (x3 + x6)) - x4)) (x0 + 13) ((dsSet M (x0 + 3) (x3 + x6) ((M (x0 + 3) (x3 + x6)) - x4)) (x0 + 2) (x3 + x6)) (((dsSet M (x0 + 3) (x3 + x6) ((M (x0 + 3) (x3 + x6)) - x4)) (x0 + 13) ((dsSet M (x0 + 3) (x3 + x6) ((M (x0 + 3) (x3 + x6)) - x4)) (x0 + 2) (x3 + x6))) + x4)) (x0 + 5) x1 (((dsSet (dsSet M (x0 + 3) (x3 + x6) ((M (x0 + 3) (x3 + x6)) - x4)) (x0 + 13) ((dsSet M (x0 + 3) (x3 + x6) ((M (x0 + 3) (x3 + x6)) - x4)) (x0 + 2) (x3 + x6)) (((dsSet M (x0 + 3) (x3 + x6) ((M (x0 + 3) (x3 + x6)) - x4)) (x0 + 13) ((dsSet M (x0 + 3) (x3 + x6) ((M (x0 + 3) (x3 + x6)) - x4)) (x0 + 2) (x3 + x6))) + x4)) (x0 + 5) x1) - x4)) Q) :
    bB 18 34 [uR 5 x0, uI x1, uI x2, uI x3, uI x4, uI x5, uI x6, uX 0] [] M Q := by
  refine b_iload (d18 (j := 22) rfl) rfl ?_
  refine b_aload_n (d18 (j := 23) rfl) rfl ?_
  refine b_getR (d18 (j := 24) rfl) rfl rfl rfl rfl ?_
  refine b_iload_n (d18 (j := 25) rfl) rfl ?_
  refine b_iaload (d18 (j := 26) rfl) rfl s1 ?_
  refine b_icmp_ge (d18 (j := 27) rfl) (fun c1 => ?_) (fun c1 => ?_)
  ·
    refine b_iload (d18 (j := 92) rfl) rfl ?_
    refine b_istore [uR 5 x0, uI x1, uI x2, uI x3, uI x4, uI x5, uI x5, uX 0] (d18 (j := 93) rfl) (by decide) rfl ?_
    exact (k1 c1)
  ·
    refine b_iload (d18 (j := 28) rfl) rfl ?_
    refine b_if_le (d18 (j := 29) rfl) (fun c2 => ?_) (fun c2 => ?_)
    ·
      refine b_iload (d18 (j := 92) rfl) rfl ?_
      refine b_istore [uR 5 x0, uI x1, uI x2, uI x3, uI x4, uI x5, uI x5, uX 0] (d18 (j := 93) rfl) (by decide) rfl ?_
      exact (k2 c1 c2)
    ·
      refine b_iload (d18 (j := 30) rfl) rfl ?_
      refine b_aload_n (d18 (j := 31) rfl) rfl ?_
      refine b_getR (d18 (j := 32) rfl) rfl rfl rfl rfl ?_
      refine b_iload_n (d18 (j := 33) rfl) rfl ?_
      refine b_iload (d18 (j := 34) rfl) rfl ?_
      refine b_iadd (d18 (j := 35) rfl) rfl rfl ?_
      refine b_stk [uI (x3 + x6), uR 24 (x0 + 3), uI x4] (by rw [dsw_r (s2 c1 c2)]) ?_
      refine b_iaload (d18 (j := 36) rfl) rfl (s3 c1 c2) ?_
      refine b_icmp_ge (d18 (j := 37) rfl) (fun c3 => ?_) (fun c3 => ?_)
      ·
        refine b_aload_n (d18 (j := 40) rfl) rfl ?_
        refine b_getR (d18 (j := 41) rfl) rfl rfl rfl rfl ?_
        refine b_iload_n (d18 (j := 42) rfl) rfl ?_
        refine b_iload (d18 (j := 43) rfl) rfl ?_
        refine b_iadd (d18 (j := 44) rfl) rfl rfl ?_
        refine b_stk [uI (x3 + x6), uR 24 (x0 + 3)] (by rw [dsw_r (s4 c1 c2 c3)]) ?_
        refine b_iaload (d18 (j := 45) rfl) rfl (s5 c1 c2 c3) ?_
        refine b_istore [uR 5 x0, uI x1, uI x2, uI x3, uI x4, uI x5, uI x6, uI (M (x0 + 3) (x3 + x6))] (d18 (j := 46) rfl) (by decide) rfl ?_
        refine b_aload_n (d18 (j := 47) rfl) rfl ?_
        refine b_getR (d18 (j := 48) rfl) rfl rfl rfl rfl ?_
        refine b_iload_n (d18 (j := 49) rfl) rfl ?_
        refine b_iload (d18 (j := 50) rfl) rfl ?_
        refine b_iadd (d18 (j := 51) rfl) rfl rfl ?_
        refine b_stk [uI (x3 + x6), uR 24 (x0 + 3)] (by rw [dsw_r (s6 c1 c2 c3)]) ?_
        refine b_dup2 (d18 (j := 52) rfl) ?_
        refine b_iaload (d18 (j := 53) rfl) rfl (s7 c1 c2 c3) ?_
        refine b_iload (d18 (j := 54) rfl) rfl ?_
        refine b_isub (d18 (j := 55) rfl) rfl rfl ?_
        refine b_stk [uI ((M (x0 + 3) (x3 + x6)) - (M (x0 + 3) (x3 + x6))), uI (x3 + x6), uR 24 (x0 + 3)] (by rw [dsw_r (s8 c1 c2 c3)]) ?_
        refine b_iastore (d18 (j := 56) rfl) rfl (s9 c1 c2 c3) ?_
        refine b_aload_n (d18 (j := 57) rfl) rfl ?_
        refine b_getR (d18 (j := 58) rfl) rfl rfl rfl rfl ?_
        refine b_aload_n (d18 (j := 59) rfl) rfl ?_
        refine b_getR (d18 (j := 60) rfl) rfl rfl rfl rfl ?_
        refine b_iload_n (d18 (j := 61) rfl) rfl ?_
        refine b_iload (d18 (j := 62) rfl) rfl ?_
        refine b_iadd (d18 (j := 63) rfl) rfl rfl ?_
        refine b_stk [uI (x3 + x6), uR 24 (x0 + 2), uR 21 (x0 + 13)] (by rw [dsw_r (s10 c1 c2 c3)]) ?_
        refine b_iaload (d18 (j := 64) rfl) rfl (s11 c1 c2 c3) ?_
        refine b_dup2 (d18 (j := 65) rfl) ?_
        refine b_iaload (d18 (j := 66) rfl) rfl (s12 c1 c2 c3) ?_
        refine b_iload (d18 (j := 67) rfl) rfl ?_
        refine b_iadd (d18 (j := 68) rfl) rfl rfl ?_
        refine b_stk [uI (((dsSet M (x0 + 3) (x3 + x6) ((M (x0 + 3) (x3 + x6)) - (M (x0 + 3) (x3 + x6)))) (x0 + 13) ((dsSet M (x0 + 3) (x3 + x6) ((M (x0 + 3) (x3 + x6)) - (M (x0 + 3) (x3 + x6)))) (x0 + 2) (x3 + x6))) + (M (x0 + 3) (x3 + x6))), uI ((dsSet M (x0 + 3) (x3 + x6) ((M (x0 + 3) (x3 + x6)) - (M (x0 + 3) (x3 + x6)))) (x0 + 2) (x3 + x6)), uR 21 (x0 + 13)] (by rw [dsw_r (s13 c1 c2 c3)]) ?_
        refine b_iastore (d18 (j := 69) rfl) rfl (s14 c1 c2 c3) ?_
        refine b_aload_n (d18 (j := 70) rfl) rfl ?_
        refine b_getR (d18 (j := 71) rfl) rfl rfl rfl rfl ?_
        refine b_iload_n (d18 (j := 72) rfl) rfl ?_
        refine b_dup2 (d18 (j := 73) rfl) ?_
        refine b_iaload (d18 (j := 74) rfl) rfl (s15 c1 c2 c3) ?_
        refine b_iload (d18 (j := 75) rfl) rfl ?_
        refine b_isub (d18 (j := 76) rfl) rfl rfl ?_
        refine b_stk [uI (((dsSet (dsSet M (x0 + 3) (x3 + x6) ((M (x0 + 3) (x3 + x6)) - (M (x0 + 3) (x3 + x6)))) (x0 + 13) ((dsSet M (x0 + 3) (x3 + x6) ((M (x0 + 3) (x3 + x6)) - (M (x0 + 3) (x3 + x6)))) (x0 + 2) (x3 + x6)) (((dsSet M (x0 + 3) (x3 + x6) ((M (x0 + 3) (x3 + x6)) - (M (x0 + 3) (x3 + x6)))) (x0 + 13) ((dsSet M (x0 + 3) (x3 + x6) ((M (x0 + 3) (x3 + x6)) - (M (x0 + 3) (x3 + x6)))) (x0 + 2) (x3 + x6))) + (M (x0 + 3) (x3 + x6)))) (x0 + 5) x1) - (M (x0 + 3) (x3 + x6))), uI x1, uR 25 (x0 + 5)] (by rw [dsw_r (s16 c1 c2 c3)]) ?_
        refine b_iastore (d18 (j := 77) rfl) rfl (s17 c1 c2 c3) ?_
        refine b_iload (d18 (j := 78) rfl) rfl ?_
        refine b_iload (d18 (j := 79) rfl) rfl ?_
        refine b_isub (d18 (j := 80) rfl) rfl rfl ?_
        refine b_stk [uI (x4 - (M (x0 + 3) (x3 + x6)))] (by rw [dsw_r (s18 c1 c2 c3)]) ?_
        refine b_istore [uR 5 x0, uI x1, uI x2, uI x3, uI (x4 - (M (x0 + 3) (x3 + x6))), uI x5, uI x6, uI (M (x0 + 3) (x3 + x6))] (d18 (j := 81) rfl) (by decide) rfl ?_
        refine b_aload_n (d18 (j := 82) rfl) rfl ?_
        refine b_getR (d18 (j := 83) rfl) rfl rfl rfl rfl ?_
        refine b_iload_n (d18 (j := 84) rfl) rfl ?_
        refine b_iload (d18 (j := 85) rfl) rfl ?_
        refine b_iadd (d18 (j := 86) rfl) rfl rfl ?_
        refine b_stk [uI (x3 + x6), uR 24 (x0 + 3)] (by rw [dsw_r (s19 c1 c2 c3)]) ?_
        refine b_iaload (d18 (j := 87) rfl) rfl (s20 c1 c2 c3) ?_
        refine b_if_ne (d18 (j := 88) rfl) (fun c4 => ?_) (fun c4 => ?_)
        ·
          refine b_iinc [uR 5 x0, uI x1, uI x2, uI x3, uI (x4 - (M (x0 + 3) (x3 + x6))), uI x5, uI (x6 + 1), uI (M (x0 + 3) (x3 + x6))] (d18 (j := 90) rfl) rfl (by decide) (s21 c1 c2 c3 c4) rfl ?_
          refine b_goto (d18 (j := 91) rfl) ?_
          exact bB_le _ (bLe_s (bLe_s (bLe_s (bLe_s (bLe_s (bLe_s (bLe_s (bLe_x bLe_nil)))))))) (k3 c1 c2 c3 c4)
        ·
          refine b_iinc [uR 5 x0, uI x1, uI x2, uI x3, uI (x4 - (M (x0 + 3) (x3 + x6))), uI (x5 + 1), uI x6, uI (M (x0 + 3) (x3 + x6))] (d18 (j := 89) rfl) rfl (by decide) (s22 c1 c2 c3 c4) rfl ?_
          refine b_iinc [uR 5 x0, uI x1, uI x2, uI x3, uI (x4 - (M (x0 + 3) (x3 + x6))), uI (x5 + 1), uI (x6 + 1), uI (M (x0 + 3) (x3 + x6))] (d18 (j := 90) rfl) rfl (by decide) (s23 c1 c2 c3 c4) rfl ?_
          refine b_goto (d18 (j := 91) rfl) ?_
          exact bB_le _ (bLe_s (bLe_s (bLe_s (bLe_s (bLe_s (bLe_s (bLe_s (bLe_x bLe_nil)))))))) (k4 c1 c2 c3 c4)
      ·
        refine b_iload (d18 (j := 38) rfl) rfl ?_
        refine b_goto (d18 (j := 39) rfl) ?_
        refine b_istore [uR 5 x0, uI x1, uI x2, uI x3, uI x4, uI x5, uI x6, uI x4] (d18 (j := 46) rfl) (by decide) rfl ?_
        refine b_aload_n (d18 (j := 47) rfl) rfl ?_
        refine b_getR (d18 (j := 48) rfl) rfl rfl rfl rfl ?_
        refine b_iload_n (d18 (j := 49) rfl) rfl ?_
        refine b_iload (d18 (j := 50) rfl) rfl ?_
        refine b_iadd (d18 (j := 51) rfl) rfl rfl ?_
        refine b_stk [uI (x3 + x6), uR 24 (x0 + 3)] (by rw [dsw_r (s24 c1 c2 c3)]) ?_
        refine b_dup2 (d18 (j := 52) rfl) ?_
        refine b_iaload (d18 (j := 53) rfl) rfl (s25 c1 c2 c3) ?_
        refine b_iload (d18 (j := 54) rfl) rfl ?_
        refine b_isub (d18 (j := 55) rfl) rfl rfl ?_
        refine b_stk [uI ((M (x0 + 3) (x3 + x6)) - x4), uI (x3 + x6), uR 24 (x0 + 3)] (by rw [dsw_r (s26 c1 c2 c3)]) ?_
        refine b_iastore (d18 (j := 56) rfl) rfl (s27 c1 c2 c3) ?_
        refine b_aload_n (d18 (j := 57) rfl) rfl ?_
        refine b_getR (d18 (j := 58) rfl) rfl rfl rfl rfl ?_
        refine b_aload_n (d18 (j := 59) rfl) rfl ?_
        refine b_getR (d18 (j := 60) rfl) rfl rfl rfl rfl ?_
        refine b_iload_n (d18 (j := 61) rfl) rfl ?_
        refine b_iload (d18 (j := 62) rfl) rfl ?_
        refine b_iadd (d18 (j := 63) rfl) rfl rfl ?_
        refine b_stk [uI (x3 + x6), uR 24 (x0 + 2), uR 21 (x0 + 13)] (by rw [dsw_r (s28 c1 c2 c3)]) ?_
        refine b_iaload (d18 (j := 64) rfl) rfl (s29 c1 c2 c3) ?_
        refine b_dup2 (d18 (j := 65) rfl) ?_
        refine b_iaload (d18 (j := 66) rfl) rfl (s30 c1 c2 c3) ?_
        refine b_iload (d18 (j := 67) rfl) rfl ?_
        refine b_iadd (d18 (j := 68) rfl) rfl rfl ?_
        refine b_stk [uI (((dsSet M (x0 + 3) (x3 + x6) ((M (x0 + 3) (x3 + x6)) - x4)) (x0 + 13) ((dsSet M (x0 + 3) (x3 + x6) ((M (x0 + 3) (x3 + x6)) - x4)) (x0 + 2) (x3 + x6))) + x4), uI ((dsSet M (x0 + 3) (x3 + x6) ((M (x0 + 3) (x3 + x6)) - x4)) (x0 + 2) (x3 + x6)), uR 21 (x0 + 13)] (by rw [dsw_r (s31 c1 c2 c3)]) ?_
        refine b_iastore (d18 (j := 69) rfl) rfl (s32 c1 c2 c3) ?_
        refine b_aload_n (d18 (j := 70) rfl) rfl ?_
        refine b_getR (d18 (j := 71) rfl) rfl rfl rfl rfl ?_
        refine b_iload_n (d18 (j := 72) rfl) rfl ?_
        refine b_dup2 (d18 (j := 73) rfl) ?_
        refine b_iaload (d18 (j := 74) rfl) rfl (s33 c1 c2 c3) ?_
        refine b_iload (d18 (j := 75) rfl) rfl ?_
        refine b_isub (d18 (j := 76) rfl) rfl rfl ?_
        refine b_stk [uI (((dsSet (dsSet M (x0 + 3) (x3 + x6) ((M (x0 + 3) (x3 + x6)) - x4)) (x0 + 13) ((dsSet M (x0 + 3) (x3 + x6) ((M (x0 + 3) (x3 + x6)) - x4)) (x0 + 2) (x3 + x6)) (((dsSet M (x0 + 3) (x3 + x6) ((M (x0 + 3) (x3 + x6)) - x4)) (x0 + 13) ((dsSet M (x0 + 3) (x3 + x6) ((M (x0 + 3) (x3 + x6)) - x4)) (x0 + 2) (x3 + x6))) + x4)) (x0 + 5) x1) - x4), uI x1, uR 25 (x0 + 5)] (by rw [dsw_r (s34 c1 c2 c3)]) ?_
        refine b_iastore (d18 (j := 77) rfl) rfl (s35 c1 c2 c3) ?_
        refine b_iload (d18 (j := 78) rfl) rfl ?_
        refine b_iload (d18 (j := 79) rfl) rfl ?_
        refine b_isub (d18 (j := 80) rfl) rfl rfl ?_
        refine b_stk [uI (x4 - x4)] (by rw [dsw_r (s36 c1 c2 c3)]) ?_
        refine b_istore [uR 5 x0, uI x1, uI x2, uI x3, uI (x4 - x4), uI x5, uI x6, uI x4] (d18 (j := 81) rfl) (by decide) rfl ?_
        refine b_aload_n (d18 (j := 82) rfl) rfl ?_
        refine b_getR (d18 (j := 83) rfl) rfl rfl rfl rfl ?_
        refine b_iload_n (d18 (j := 84) rfl) rfl ?_
        refine b_iload (d18 (j := 85) rfl) rfl ?_
        refine b_iadd (d18 (j := 86) rfl) rfl rfl ?_
        refine b_stk [uI (x3 + x6), uR 24 (x0 + 3)] (by rw [dsw_r (s37 c1 c2 c3)]) ?_
        refine b_iaload (d18 (j := 87) rfl) rfl (s38 c1 c2 c3) ?_
        refine b_if_ne (d18 (j := 88) rfl) (fun c5 => ?_) (fun c5 => ?_)
        ·
          refine b_iinc [uR 5 x0, uI x1, uI x2, uI x3, uI (x4 - x4), uI x5, uI (x6 + 1), uI x4] (d18 (j := 90) rfl) rfl (by decide) (s39 c1 c2 c3 c5) rfl ?_
          refine b_goto (d18 (j := 91) rfl) ?_
          exact bB_le _ (bLe_s (bLe_s (bLe_s (bLe_s (bLe_s (bLe_s (bLe_s (bLe_x bLe_nil)))))))) (k5 c1 c2 c3 c5)
        ·
          refine b_iinc [uR 5 x0, uI x1, uI x2, uI x3, uI (x4 - x4), uI (x5 + 1), uI x6, uI x4] (d18 (j := 89) rfl) rfl (by decide) (s40 c1 c2 c3 c5) rfl ?_
          refine b_iinc [uR 5 x0, uI x1, uI x2, uI x3, uI (x4 - x4), uI (x5 + 1), uI (x6 + 1), uI x4] (d18 (j := 90) rfl) rfl (by decide) (s41 c1 c2 c3 c5) rfl ?_
          refine b_goto (d18 (j := 91) rfl) ?_
          exact bB_le _ (bLe_s (bLe_s (bLe_s (bLe_s (bLe_s (bLe_s (bLe_s (bLe_x bLe_nil)))))))) (k6 c1 c2 c3 c5)
set_option maxRecDepth 100000 in
set_option maxHeartbeats 4000000 in
theorem r18_156 {x0 x1 x2 x3 x4 x5 x6 : Int} {M : dsMem} {Q : bQT} (s1 : (x5 ≤ 0) → 0 ≤ x1 ∧ x1 < 78 := by intros; omega) (s2 : (x5 ≤ 0) → -2147483648 ≤ ((M (x0 + 4) x1) - x5) ∧ ((M (x0 + 4) x1) - x5) < 2147483648 := by intros; omega) (s3 : (x5 ≤ 0) → 0 ≤ x1 ∧ x1 < 78 := by intros; omega) (s4 : (x5 ≤ 0) → -2147483648 ≤ (x2 - x4) ∧ (x2 - x4) < 2147483648 := by intros; omega) (k1 : (x5 ≤ 0) → Q [uI (x2 - x4)] (dsSet M (x0 + 4) x1 ((M (x0 + 4) x1) - x5))) (s5 : (¬ x5 ≤ 0) → 0 ≤ x1 ∧ x1 < 78 := by intros; omega) (s6 : (¬ x5 ≤ 0) → ((M (x0 + 4) x1) ≤ x6) → 0 ≤ x1 ∧ x1 < 78 := by intros; omega) (s7 : (¬ x5 ≤ 0) → ((M (x0 + 4) x1) ≤ x6) → -2147483648 ≤ ((M (x0 + 4) x1) - x5) ∧ ((M (x0 + 4) x1) - x5) < 2147483648 := by intros; omega) (s8 : (¬ x5 ≤ 0) → ((M (x0 + 4) x1) ≤ x6) → 0 ≤ x1 ∧ x1 < 78 := by intros; omega) (s9 : (¬ x5 ≤ 0) → ((M (x0 + 4) x1) ≤ x6) → -2147483648 ≤ (x2 - x4) ∧ (x2 - x4) < 2147483648 := by intros; omega) (k2 : (¬ x5 ≤ 0) → ((M (x0 + 4) x1) ≤ x6) → Q [uI (x2 - x4)] (dsSet M (x0 + 4) x1 ((M (x0 + 4) x1) - x5))) (s10 : (¬ x5 ≤ 0) → (¬ (M (x0 + 4) x1) ≤ x6) → -2147483648 ≤ (x3 + x6) ∧ (x3 + x6) < 2147483648 := by intros; omega) (s11 : (¬ x5 ≤ 0) → (¬ (M (x0 + 4) x1) ≤ x6) → 0 ≤ (x3 + x6) ∧ (x3 + x6) < 4680 := by intros; omega) (s12 : (¬ x5 ≤ 0) → (¬ (M (x0 + 4) x1) ≤ x6) → -2147483648 ≤ ((x3 + x6) - x5) ∧ ((x3 + x6) - x5) < 2147483648 := by intros; omega) (s13 : (¬ x5 ≤ 0) → (¬ (M (x0 + 4) x1) ≤ x6) → 0 ≤ ((x3 + x6) - x5) ∧ ((x3 + x6) - x5) < 4680 := by intros; omega) (s14 : (¬ x5 ≤ 0) → (¬ (M (x0 + 4) x1) ≤ x6) → -2147483648 ≤ (x3 + x6) ∧ (x3 + x6) < 2147483648 := by intros; omega) (s15 : (¬ x5 ≤ 0) → (¬ (M (x0 + 4) x1) ≤ x6) → 0 ≤ (x3 + x6) ∧ (x3 + x6) < 4680 := by intros; omega) (s16 : (¬ x5 ≤ 0) → (¬ (M (x0 + 4) x1) ≤ x6) → -2147483648 ≤ ((x3 + x6) - x5) ∧ ((x3 + x6) - x5) < 2147483648 := by intros; omega) (s17 : (¬ x5 ≤ 0) → (¬ (M (x0 + 4) x1) ≤ x6) → 0 ≤ ((x3 + x6) - x5) ∧ ((x3 + x6) - x5) < 4680 := by intros; omega) (s18 : (¬ x5 ≤ 0) → (¬ (M (x0 + 4) x1) ≤ x6) → -2147483648 ≤ x6 + 1 ∧ x6 + 1 < 2147483648 := by intros; omega) (k3 : (¬ x5 ≤ 0) → (¬ (M (x0 + 4) x1) ≤ x6) → bB 18 156 [uR 5 x0, uI x1, uI x2, uI x3, uI x4, uI x5, uI (x6 + 1), uX 0] [] (dsSet (dsSet M (x0 + 2) ((x3 + x6) - x5) (M (x0 + 2) (x3 + x6))) (x0 + 3) ((x3 + x6) - x5) ((dsSet M (x0 + 2) ((x3 + x6) - x5) (M (x0 + 2) (x3 + x6))) (x0 + 3) (x3 + x6))) Q) :
    bB 18 156 [uR 5 x0, uI x1, uI x2, uI x3, uI x4, uI x5, uI x6, uX 0] [] M Q := by
  refine b_iload (d18 (j := 94) rfl) rfl ?_
  refine b_if_le (d18 (j := 95) rfl) (fun c1 => ?_) (fun c1 => ?_)
  ·
    refine b_aload_n (d18 (j := 132) rfl) rfl ?_
    refine b_getR (d18 (j := 133) rfl) rfl rfl rfl rfl ?_
    refine b_iload_n (d18 (j := 134) rfl) rfl ?_
    refine b_dup2 (d18 (j := 135) rfl) ?_
    refine b_iaload (d18 (j := 136) rfl) rfl (s1 c1) ?_
    refine b_iload (d18 (j := 137) rfl) rfl ?_
    refine b_isub (d18 (j := 138) rfl) rfl rfl ?_
    refine b_stk [uI ((M (x0 + 4) x1) - x5), uI x1, uR 25 (x0 + 4)] (by rw [dsw_r (s2 c1)]) ?_
    refine b_iastore (d18 (j := 139) rfl) rfl (s3 c1) ?_
    refine b_iload_n (d18 (j := 140) rfl) rfl ?_
    refine b_iload (d18 (j := 141) rfl) rfl ?_
    refine b_isub (d18 (j := 142) rfl) rfl rfl ?_
    refine b_stk [uI (x2 - x4)] (by rw [dsw_r (s4 c1)]) ?_
    exact b_iret (d18 (j := 143) rfl) rfl (k1 c1)
  ·
    refine b_iload (d18 (j := 96) rfl) rfl ?_
    refine b_aload_n (d18 (j := 97) rfl) rfl ?_
    refine b_getR (d18 (j := 98) rfl) rfl rfl rfl rfl ?_
    refine b_iload_n (d18 (j := 99) rfl) rfl ?_
    refine b_iaload (d18 (j := 100) rfl) rfl (s5 c1) ?_
    refine b_icmp_ge (d18 (j := 101) rfl) (fun c2 => ?_) (fun c2 => ?_)
    ·
      refine b_aload_n (d18 (j := 132) rfl) rfl ?_
      refine b_getR (d18 (j := 133) rfl) rfl rfl rfl rfl ?_
      refine b_iload_n (d18 (j := 134) rfl) rfl ?_
      refine b_dup2 (d18 (j := 135) rfl) ?_
      refine b_iaload (d18 (j := 136) rfl) rfl (s6 c1 c2) ?_
      refine b_iload (d18 (j := 137) rfl) rfl ?_
      refine b_isub (d18 (j := 138) rfl) rfl rfl ?_
      refine b_stk [uI ((M (x0 + 4) x1) - x5), uI x1, uR 25 (x0 + 4)] (by rw [dsw_r (s7 c1 c2)]) ?_
      refine b_iastore (d18 (j := 139) rfl) rfl (s8 c1 c2) ?_
      refine b_iload_n (d18 (j := 140) rfl) rfl ?_
      refine b_iload (d18 (j := 141) rfl) rfl ?_
      refine b_isub (d18 (j := 142) rfl) rfl rfl ?_
      refine b_stk [uI (x2 - x4)] (by rw [dsw_r (s9 c1 c2)]) ?_
      exact b_iret (d18 (j := 143) rfl) rfl (k2 c1 c2)
    ·
      refine b_aload_n (d18 (j := 102) rfl) rfl ?_
      refine b_getR (d18 (j := 103) rfl) rfl rfl rfl rfl ?_
      refine b_iload_n (d18 (j := 104) rfl) rfl ?_
      refine b_iload (d18 (j := 105) rfl) rfl ?_
      refine b_iadd (d18 (j := 106) rfl) rfl rfl ?_
      refine b_iload (d18 (j := 107) rfl) rfl ?_
      refine b_isub (d18 (j := 108) rfl) (dsw_dsw _) rfl ?_
      refine b_aload_n (d18 (j := 109) rfl) rfl ?_
      refine b_getR (d18 (j := 110) rfl) rfl rfl rfl rfl ?_
      refine b_iload_n (d18 (j := 111) rfl) rfl ?_
      refine b_iload (d18 (j := 112) rfl) rfl ?_
      refine b_iadd (d18 (j := 113) rfl) rfl rfl ?_
      refine b_stk [uI (x3 + x6), uR 24 (x0 + 2), uI (dsw (((x3 + x6) - x5))), uR 24 (x0 + 2)] (by rw [dsw_r (s10 c1 c2)]) ?_
      refine b_iaload (d18 (j := 114) rfl) rfl (s11 c1 c2) ?_
      refine b_stk [uI (M (x0 + 2) (x3 + x6)), uI ((x3 + x6) - x5), uR 24 (x0 + 2)] (by rw [dsw_r (s12 c1 c2)]) ?_
      refine b_iastore (d18 (j := 115) rfl) rfl (s13 c1 c2) ?_
      refine b_aload_n (d18 (j := 116) rfl) rfl ?_
      refine b_getR (d18 (j := 117) rfl) rfl rfl rfl rfl ?_
      refine b_iload_n (d18 (j := 118) rfl) rfl ?_
      refine b_iload (d18 (j := 119) rfl) rfl ?_
      refine b_iadd (d18 (j := 120) rfl) rfl rfl ?_
      refine b_iload (d18 (j := 121) rfl) rfl ?_
      refine b_isub (d18 (j := 122) rfl) (dsw_dsw _) rfl ?_
      refine b_aload_n (d18 (j := 123) rfl) rfl ?_
      refine b_getR (d18 (j := 124) rfl) rfl rfl rfl rfl ?_
      refine b_iload_n (d18 (j := 125) rfl) rfl ?_
      refine b_iload (d18 (j := 126) rfl) rfl ?_
      refine b_iadd (d18 (j := 127) rfl) rfl rfl ?_
      refine b_stk [uI (x3 + x6), uR 24 (x0 + 3), uI (dsw (((x3 + x6) - x5))), uR 24 (x0 + 3)] (by rw [dsw_r (s14 c1 c2)]) ?_
      refine b_iaload (d18 (j := 128) rfl) rfl (s15 c1 c2) ?_
      refine b_stk [uI ((dsSet M (x0 + 2) ((x3 + x6) - x5) (M (x0 + 2) (x3 + x6))) (x0 + 3) (x3 + x6)), uI ((x3 + x6) - x5), uR 24 (x0 + 3)] (by rw [dsw_r (s16 c1 c2)]) ?_
      refine b_iastore (d18 (j := 129) rfl) rfl (s17 c1 c2) ?_
      refine b_iinc [uR 5 x0, uI x1, uI x2, uI x3, uI x4, uI x5, uI (x6 + 1), uX 0] (d18 (j := 130) rfl) rfl (by decide) (s18 c1 c2) rfl ?_
      refine b_goto (d18 (j := 131) rfl) ?_
      exact (k3 c1 c2)
def L17 : List (Nat × Instr × Nat × Nat) := [(0, .iload_n 1, 1, 0), (1, .bipush 60, 3, 0), (3, .imul, 4, 0), (4, .aload_n 0, 5, 0), (5, .getfield 25, 8, 0), (8, .iload_n 1, 9, 0), (9, .iaload, 10, 0), (10, .iadd, 11, 0), (11, .istore 4, 13, 0), (13, .aload_n 0, 14, 0), (14, .getfield 25, 17, 0), (17, .iload_n 1, 18, 0), (18, .iaload, 19, 0), (19, .ifCond .le 32, 22, 51), (22, .aload_n 0, 23, 0), (23, .getfield 18, 26, 0), (26, .iload 4, 28, 0), (28, .iconst 1, 29, 0), (29, .isub, 30, 0), (30, .iaload, 31, 0), (31, .iload_n 2, 32, 0), (32, .if_icmp .ne 19, 35, 51), (35, .aload_n 0, 36, 0), (36, .getfield 22, 39, 0), (39, .iload 4, 41, 0), (41, .iconst 1, 42, 0), (42, .isub, 43, 0), (43, .dup2, 44, 0), (44, .iaload, 45, 0), (45, .iload_n 3, 46, 0), (46, .iadd, 47, 0), (47, .iastore, 48, 0), (48, .goto 40, 51, 88), (51, .aload_n 0, 52, 0), (52, .getfield 25, 55, 0), (55, .iload_n 1, 56, 0), (56, .iaload, 57, 0), (57, .bipush 60, 59, 0), (59, .if_icmp .ge 29, 62, 88), (62, .aload_n 0, 63, 0), (63, .getfield 18, 66, 0), (66, .iload 4, 68, 0), (68, .iload_n 2, 69, 0), (69, .iastore, 70, 0), (70, .aload_n 0, 71, 0), (71, .getfield 22, 74, 0), (74, .iload 4, 76, 0), (76, .iload_n 3, 77, 0), (77, .iastore, 78, 0), (78, .aload_n 0, 79, 0), (79, .getfield 25, 82, 0), (82, .iload_n 1, 83, 0), (83, .dup2, 84, 0), (84, .iaload, 85, 0), (85, .iconst 1, 86, 0), (86, .iadd, 87, 0), (87, .iastore, 88, 0), (88, .aload_n 0, 89, 0), (89, .getfield 28, 92, 0), (92, .iload_n 1, 93, 0), (93, .dup2, 94, 0), (94, .iaload, 95, 0), (95, .iload_n 3, 96, 0), (96, .iadd, 97, 0), (97, .iastore, 98, 0), (98, .return_, 99, 0)]
set_option maxRecDepth 100000 in
theorem L17_ok : L17.all (dck 17) = true := by decide +kernel
theorem d17 {j pc nx tg : Nat} {ins : Instr} (hj : L17[j]? = some (pc, ins, nx, tg)) : dcd 17 pc ins nx tg := dcl_ok L17_ok hj
set_option maxRecDepth 100000 in
set_option maxHeartbeats 4000000 in
theorem r17_0 {x0 x1 x2 x3 : Int} {M : dsMem} {Q : bQT} (s1 : 0 ≤ x1 ∧ x1 < 78 := by intros; omega) (s2 : -2147483648 ≤ ((x1 * 60) + (M (x0 + 4) x1)) ∧ ((x1 * 60) + (M (x0 + 4) x1)) < 2147483648 := by intros; omega) (s3 : 0 ≤ x1 ∧ x1 < 78 := by intros; omega) (s4 : ((M (x0 + 4) x1) ≤ 0) → 0 ≤ x1 ∧ x1 < 78 := by intros; omega) (s5 : ((M (x0 + 4) x1) ≤ 0) → (60 ≤ (M (x0 + 4) x1)) → 0 ≤ x1 ∧ x1 < 78 := by intros; omega) (s6 : ((M (x0 + 4) x1) ≤ 0) → (60 ≤ (M (x0 + 4) x1)) → -2147483648 ≤ ((M (x0 + 5) x1) + x3) ∧ ((M (x0 + 5) x1) + x3) < 2147483648 := by intros; omega) (s7 : ((M (x0 + 4) x1) ≤ 0) → (60 ≤ (M (x0 + 4) x1)) → 0 ≤ x1 ∧ x1 < 78 := by intros; omega) (k1 : ((M (x0 + 4) x1) ≤ 0) → (60 ≤ (M (x0 + 4) x1)) → Q [] (dsSet M (x0 + 5) x1 ((M (x0 + 5) x1) + x3))) (s8 : ((M (x0 + 4) x1) ≤ 0) → (¬ 60 ≤ (M (x0 + 4) x1)) → 0 ≤ ((x1 * 60) + (M (x0 + 4) x1)) ∧ ((x1 * 60) + (M (x0 + 4) x1)) < 4680 := by intros; omega) (s9 : ((M (x0 + 4) x1) ≤ 0) → (¬ 60 ≤ (M (x0 + 4) x1)) → 0 ≤ ((x1 * 60) + (M (x0 + 4) x1)) ∧ ((x1 * 60) + (M (x0 + 4) x1)) < 4680 := by intros; omega) (s10 : ((M (x0 + 4) x1) ≤ 0) → (¬ 60 ≤ (M (x0 + 4) x1)) → 0 ≤ x1 ∧ x1 < 78 := by intros; omega) (s11 : ((M (x0 + 4) x1) ≤ 0) → (¬ 60 ≤ (M (x0 + 4) x1)) → -2147483648 ≤ (((dsSet (dsSet M (x0 + 2) ((x1 * 60) + (M (x0 + 4) x1)) x2) (x0 + 3) ((x1 * 60) + (M (x0 + 4) x1)) x3) (x0 + 4) x1) + 1) ∧ (((dsSet (dsSet M (x0 + 2) ((x1 * 60) + (M (x0 + 4) x1)) x2) (x0 + 3) ((x1 * 60) + (M (x0 + 4) x1)) x3) (x0 + 4) x1) + 1) < 2147483648 := by intros; omega) (s12 : ((M (x0 + 4) x1) ≤ 0) → (¬ 60 ≤ (M (x0 + 4) x1)) → 0 ≤ x1 ∧ x1 < 78 := by intros; omega) (s13 : ((M (x0 + 4) x1) ≤ 0) → (¬ 60 ≤ (M (x0 + 4) x1)) → 0 ≤ x1 ∧ x1 < 78 := by intros; omega) (s14 : ((M (x0 + 4) x1) ≤ 0) → (¬ 60 ≤ (M (x0 + 4) x1)) → -2147483648 ≤ (((dsSet (dsSet (dsSet M (x0 + 2) ((x1 * 60) + (M (x0 + 4) x1)) x2) (x0 + 3) ((x1 * 60) + (M (x0 + 4) x1)) x3) (x0 + 4) x1 (((dsSet (dsSet M (x0 + 2) ((x1 * 60) + (M (x0 + 4) x1)) x2) (x0 + 3) ((x1 * 60) + (M (x0 + 4) x1)) x3) (x0 + 4) x1) + 1)) (x0 + 5) x1) + x3) ∧ (((dsSet (dsSet (dsSet M (x0 + 2) ((x1 * 60) + (M (x0 + 4) x1)) x2) (x0 + 3) ((x1 * 60) + (M (x0 + 4) x1)) x3) (x0 + 4) x1 (((dsSet (dsSet M (x0 + 2) ((x1 * 60) + (M (x0 + 4) x1)) x2) (x0 + 3) ((x1 * 60) + (M (x0 + 4) x1)) x3) (x0 + 4) x1) + 1)) (x0 + 5) x1) + x3) < 2147483648 := by intros; omega) (s15 : ((M (x0 + 4) x1) ≤ 0) → (¬ 60 ≤ (M (x0 + 4) x1)) → 0 ≤ x1 ∧ x1 < 78 := by intros; omega) (k2 : ((M (x0 + 4) x1) ≤ 0) → (¬ 60 ≤ (M (x0 + 4) x1)) → Q [] (dsSet (dsSet (dsSet (dsSet M (x0 + 2) ((x1 * 60) + (M (x0 + 4) x1)) x2) (x0 + 3) ((x1 * 60) + (M (x0 + 4) x1)) x3) (x0 + 4) x1 (((dsSet (dsSet M (x0 + 2) ((x1 * 60) + (M (x0 + 4) x1)) x2) (x0 + 3) ((x1 * 60) + (M (x0 + 4) x1)) x3) (x0 + 4) x1) + 1)) (x0 + 5) x1 (((dsSet (dsSet (dsSet M (x0 + 2) ((x1 * 60) + (M (x0 + 4) x1)) x2) (x0 + 3) ((x1 * 60) + (M (x0 + 4) x1)) x3) (x0 + 4) x1 (((dsSet (dsSet M (x0 + 2) ((x1 * 60) + (M (x0 + 4) x1)) x2) (x0 + 3) ((x1 * 60) + (M (x0 + 4) x1)) x3) (x0 + 4) x1) + 1)) (x0 + 5) x1) + x3))) (s16 : (¬ (M (x0 + 4) x1) ≤ 0) → -2147483648 ≤ (((x1 * 60) + (M (x0 + 4) x1)) - 1) ∧ (((x1 * 60) + (M (x0 + 4) x1)) - 1) < 2147483648 := by intros; omega) (s17 : (¬ (M (x0 + 4) x1) ≤ 0) → 0 ≤ (((x1 * 60) + (M (x0 + 4) x1)) - 1) ∧ (((x1 * 60) + (M (x0 + 4) x1)) - 1) < 4680 := by intros; omega) (s18 : (¬ (M (x0 + 4) x1) ≤ 0) → (¬ (M (x0 + 2) (((x1 * 60) + (M (x0 + 4) x1)) - 1)) = x2) → 0 ≤ x1 ∧ x1 < 78 := by intros; omega) (s19 : (¬ (M (x0 + 4) x1) ≤ 0) → (¬ (M (x0 + 2) (((x1 * 60) + (M (x0 + 4) x1)) - 1)) = x2) → (60 ≤ (M (x0 + 4) x1)) → 0 ≤ x1 ∧ x1 < 78 := by intros; omega) (s20 : (¬ (M (x0 + 4) x1) ≤ 0) → (¬ (M (x0 + 2) (((x1 * 60) + (M (x0 + 4) x1)) - 1)) = x2) → (60 ≤ (M (x0 + 4) x1)) → -2147483648 ≤ ((M (x0 + 5) x1) + x3) ∧ ((M (x0 + 5) x1) + x3) < 2147483648 := by intros; omega) (s21 : (¬ (M (x0 + 4) x1) ≤ 0) → (¬ (M (x0 + 2) (((x1 * 60) + (M (x0 + 4) x1)) - 1)) = x2) → (60 ≤ (M (x0 + 4) x1)) → 0 ≤ x1 ∧ x1 < 78 := by intros; omega) (k3 : (¬ (M (x0 + 4) x1) ≤ 0) → (¬ (M (x0 + 2) (((x1 * 60) + (M (x0 + 4) x1)) - 1)) = x2) → (60 ≤ (M (x0 + 4) x1)) → Q [] (dsSet M (x0 + 5) x1 ((M (x0 + 5) x1) + x3))) (s22 : (¬ (M (x0 + 4) x1) ≤ 0) → (¬ (M (x0 + 2) (((x1 * 60) + (M (x0 + 4) x1)) - 1)) = x2) → (¬ 60 ≤ (M (x0 + 4) x1)) → 0 ≤ ((x1 * 60) + (M (x0 + 4) x1)) ∧ ((x1 * 60) + (M (x0 + 4) x1)) < 4680 := by intros; omega) (s23 : (¬ (M (x0 + 4) x1) ≤ 0) → (¬ (M (x0 + 2) (((x1 * 60) + (M (x0 + 4) x1)) - 1)) = x2) → (¬ 60 ≤ (M (x0 + 4) x1)) → 0 ≤ ((x1 * 60) + (M (x0 + 4) x1)) ∧ ((x1 * 60) + (M (x0 + 4) x1)) < 4680 := by intros; omega) (s24 : (¬ (M (x0 + 4) x1) ≤ 0) → (¬ (M (x0 + 2) (((x1 * 60) + (M (x0 + 4) x1)) - 1)) = x2) → (¬ 60 ≤ (M (x0 + 4) x1)) → 0 ≤ x1 ∧ x1 < 78 := by intros; omega) (s25 : (¬ (M (x0 + 4) x1) ≤ 0) → (¬ (M (x0 + 2) (((x1 * 60) + (M (x0 + 4) x1)) - 1)) = x2) → (¬ 60 ≤ (M (x0 + 4) x1)) → -2147483648 ≤ (((dsSet (dsSet M (x0 + 2) ((x1 * 60) + (M (x0 + 4) x1)) x2) (x0 + 3) ((x1 * 60) + (M (x0 + 4) x1)) x3) (x0 + 4) x1) + 1) ∧ (((dsSet (dsSet M (x0 + 2) ((x1 * 60) + (M (x0 + 4) x1)) x2) (x0 + 3) ((x1 * 60) + (M (x0 + 4) x1)) x3) (x0 + 4) x1) + 1) < 2147483648 := by intros; omega) (s26 : (¬ (M (x0 + 4) x1) ≤ 0) → (¬ (M (x0 + 2) (((x1 * 60) + (M (x0 + 4) x1)) - 1)) = x2) → (¬ 60 ≤ (M (x0 + 4) x1)) → 0 ≤ x1 ∧ x1 < 78 := by intros; omega) (s27 : (¬ (M (x0 + 4) x1) ≤ 0) → (¬ (M (x0 + 2) (((x1 * 60) + (M (x0 + 4) x1)) - 1)) = x2) → (¬ 60 ≤ (M (x0 + 4) x1)) → 0 ≤ x1 ∧ x1 < 78 := by intros; omega) (s28 : (¬ (M (x0 + 4) x1) ≤ 0) → (¬ (M (x0 + 2) (((x1 * 60) + (M (x0 + 4) x1)) - 1)) = x2) → (¬ 60 ≤ (M (x0 + 4) x1)) → -2147483648 ≤ (((dsSet (dsSet (dsSet M (x0 + 2) ((x1 * 60) + (M (x0 + 4) x1)) x2) (x0 + 3) ((x1 * 60) + (M (x0 + 4) x1)) x3) (x0 + 4) x1 (((dsSet (dsSet M (x0 + 2) ((x1 * 60) + (M (x0 + 4) x1)) x2) (x0 + 3) ((x1 * 60) + (M (x0 + 4) x1)) x3) (x0 + 4) x1) + 1)) (x0 + 5) x1) + x3) ∧ (((dsSet (dsSet (dsSet M (x0 + 2) ((x1 * 60) + (M (x0 + 4) x1)) x2) (x0 + 3) ((x1 * 60) + (M (x0 + 4) x1)) x3) (x0 + 4) x1 (((dsSet (dsSet M (x0 + 2) ((x1 * 60) + (M (x0 + 4) x1)) x2) (x0 + 3) ((x1 * 60) + (M (x0 + 4) x1)) x3) (x0 + 4) x1) + 1)) (x0 + 5) x1) + x3) < 2147483648 := by intros; omega) (s29 : (¬ (M (x0 + 4) x1) ≤ 0) → (¬ (M (x0 + 2) (((x1 * 60) + (M (x0 + 4) x1)) - 1)) = x2) → (¬ 60 ≤ (M (x0 + 4) x1)) → 0 ≤ x1 ∧ x1 < 78 := by intros; omega) (k4 : (¬ (M (x0 + 4) x1) ≤ 0) → (¬ (M (x0 + 2) (((x1 * 60) + (M (x0 + 4) x1)) - 1)) = x2) → (¬ 60 ≤ (M (x0 + 4) x1)) → Q [] (dsSet (dsSet (dsSet (dsSet M (x0 + 2) ((x1 * 60) + (M (x0 + 4) x1)) x2) (x0 + 3) ((x1 * 60) + (M (x0 + 4) x1)) x3) (x0 + 4) x1 (((dsSet (dsSet M (x0 + 2) ((x1 * 60) + (M (x0 + 4) x1)) x2) (x0 + 3) ((x1 * 60) + (M (x0 + 4) x1)) x3) (x0 + 4) x1) + 1)) (x0 + 5) x1 (((dsSet (dsSet (dsSet M (x0 + 2) ((x1 * 60) + (M (x0 + 4) x1)) x2) (x0 + 3) ((x1 * 60) + (M (x0 + 4) x1)) x3) (x0 + 4) x1 (((dsSet (dsSet M (x0 + 2) ((x1 * 60) + (M (x0 + 4) x1)) x2) (x0 + 3) ((x1 * 60) + (M (x0 + 4) x1)) x3) (x0 + 4) x1) + 1)) (x0 + 5) x1) + x3))) (s30 : (¬ (M (x0 + 4) x1) ≤ 0) → ((M (x0 + 2) (((x1 * 60) + (M (x0 + 4) x1)) - 1)) = x2) → -2147483648 ≤ (((x1 * 60) + (M (x0 + 4) x1)) - 1) ∧ (((x1 * 60) + (M (x0 + 4) x1)) - 1) < 2147483648 := by intros; omega) (s31 : (¬ (M (x0 + 4) x1) ≤ 0) → ((M (x0 + 2) (((x1 * 60) + (M (x0 + 4) x1)) - 1)) = x2) → 0 ≤ (((x1 * 60) + (M (x0 + 4) x1)) - 1) ∧ (((x1 * 60) + (M (x0 + 4) x1)) - 1) < 4680 := by intros; omega) (s32 : (¬ (M (x0 + 4) x1) ≤ 0) → ((M (x0 + 2) (((x1 * 60) + (M (x0 + 4) x1)) - 1)) = x2) → -2147483648 ≤ ((M (x0 + 3) (((x1 * 60) + (M (x0 + 4) x1)) - 1)) + x3) ∧ ((M (x0 + 3) (((x1 * 60) + (M (x0 + 4) x1)) - 1)) + x3) < 2147483648 := by intros; omega) (s33 : (¬ (M (x0 + 4) x1) ≤ 0) → ((M (x0 + 2) (((x1 * 60) + (M (x0 + 4) x1)) - 1)) = x2) → 0 ≤ (((x1 * 60) + (M (x0 + 4) x1)) - 1) ∧ (((x1 * 60) + (M (x0 + 4) x1)) - 1) < 4680 := by intros; omega) (s34 : (¬ (M (x0 + 4) x1) ≤ 0) → ((M (x0 + 2) (((x1 * 60) + (M (x0 + 4) x1)) - 1)) = x2) → 0 ≤ x1 ∧ x1 < 78 := by intros; omega) (s35 : (¬ (M (x0 + 4) x1) ≤ 0) → ((M (x0 + 2) (((x1 * 60) + (M (x0 + 4) x1)) - 1)) = x2) → -2147483648 ≤ (((dsSet M (x0 + 3) (((x1 * 60) + (M (x0 + 4) x1)) - 1) ((M (x0 + 3) (((x1 * 60) + (M (x0 + 4) x1)) - 1)) + x3)) (x0 + 5) x1) + x3) ∧ (((dsSet M (x0 + 3) (((x1 * 60) + (M (x0 + 4) x1)) - 1) ((M (x0 + 3) (((x1 * 60) + (M (x0 + 4) x1)) - 1)) + x3)) (x0 + 5) x1) + x3) < 2147483648 := by intros; omega) (s36 : (¬ (M (x0 + 4) x1) ≤ 0) → ((M (x0 + 2) (((x1 * 60) + (M (x0 + 4) x1)) - 1)) = x2) → 0 ≤ x1 ∧ x1 < 78 := by intros; omega) (k5 : (¬ (M (x0 + 4) x1) ≤ 0) → ((M (x0 + 2) (((x1 * 60) + (M (x0 + 4) x1)) - 1)) = x2) → Q [] (dsSet (dsSet M (x0 + 3) (((x1 * 60) + (M (x0 + 4) x1)) - 1) ((M (x0 + 3) (((x1 * 60) + (M (x0 + 4) x1)) - 1)) + x3)) (x0 + 5) x1 (((dsSet M (x0 + 3) (((x1 * 60) + (M (x0 + 4) x1)) - 1) ((M (x0 + 3) (((x1 * 60) + (M (x0 + 4) x1)) - 1)) + x3)) (x0 + 5) x1) + x3))) :
    bB 17 0 [uR 5 x0, uI x1, uI x2, uI x3, uX 0] [] M Q := by
  refine b_iload_n (d17 (j := 0) rfl) rfl ?_
  refine b_bipush (d17 (j := 1) rfl) (by decide) ?_
  refine b_imul (d17 (j := 2) rfl) rfl rfl ?_
  refine b_aload_n (d17 (j := 3) rfl) rfl ?_
  refine b_getR (d17 (j := 4) rfl) rfl rfl rfl rfl ?_
  refine b_iload_n (d17 (j := 5) rfl) rfl ?_
  refine b_iaload (d17 (j := 6) rfl) rfl s1 ?_
  refine b_iadd (d17 (j := 7) rfl) (dsw_dsw _) rfl ?_
  refine b_stk [uI ((x1 * 60) + (M (x0 + 4) x1))] (by rw [dsw_r s2]) ?_
  refine b_istore [uR 5 x0, uI x1, uI x2, uI x3, uI ((x1 * 60) + (M (x0 + 4) x1))] (d17 (j := 8) rfl) (by decide) rfl ?_
  refine b_aload_n (d17 (j := 9) rfl) rfl ?_
  refine b_getR (d17 (j := 10) rfl) rfl rfl rfl rfl ?_
  refine b_iload_n (d17 (j := 11) rfl) rfl ?_
  refine b_iaload (d17 (j := 12) rfl) rfl s3 ?_
  refine b_if_le (d17 (j := 13) rfl) (fun c1 => ?_) (fun c1 => ?_)
  ·
    refine b_aload_n (d17 (j := 33) rfl) rfl ?_
    refine b_getR (d17 (j := 34) rfl) rfl rfl rfl rfl ?_
    refine b_iload_n (d17 (j := 35) rfl) rfl ?_
    refine b_iaload (d17 (j := 36) rfl) rfl (s4 c1) ?_
    refine b_bipush (d17 (j := 37) rfl) (by decide) ?_
    refine b_icmp_ge (d17 (j := 38) rfl) (fun c2 => ?_) (fun c2 => ?_)
    ·
      refine b_aload_n (d17 (j := 57) rfl) rfl ?_
      refine b_getR (d17 (j := 58) rfl) rfl rfl rfl rfl ?_
      refine b_iload_n (d17 (j := 59) rfl) rfl ?_
      refine b_dup2 (d17 (j := 60) rfl) ?_
      refine b_iaload (d17 (j := 61) rfl) rfl (s5 c1 c2) ?_
      refine b_iload_n (d17 (j := 62) rfl) rfl ?_
      refine b_iadd (d17 (j := 63) rfl) rfl rfl ?_
      refine b_stk [uI ((M (x0 + 5) x1) + x3), uI x1, uR 25 (x0 + 5)] (by rw [dsw_r (s6 c1 c2)]) ?_
      refine b_iastore (d17 (j := 64) rfl) rfl (s7 c1 c2) ?_
      exact b_vret (d17 (j := 65) rfl) rfl (k1 c1 c2)
    ·
      refine b_aload_n (d17 (j := 39) rfl) rfl ?_
      refine b_getR (d17 (j := 40) rfl) rfl rfl rfl rfl ?_
      refine b_iload (d17 (j := 41) rfl) rfl ?_
      refine b_iload_n (d17 (j := 42) rfl) rfl ?_
      refine b_iastore (d17 (j := 43) rfl) rfl (s8 c1 c2) ?_
      refine b_aload_n (d17 (j := 44) rfl) rfl ?_
      refine b_getR (d17 (j := 45) rfl) rfl rfl rfl rfl ?_
      refine b_iload (d17 (j := 46) rfl) rfl ?_
      refine b_iload_n (d17 (j := 47) rfl) rfl ?_
      refine b_iastore (d17 (j := 48) rfl) rfl (s9 c1 c2) ?_
      refine b_aload_n (d17 (j := 49) rfl) rfl ?_
      refine b_getR (d17 (j := 50) rfl) rfl rfl rfl rfl ?_
      refine b_iload_n (d17 (j := 51) rfl) rfl ?_
      refine b_dup2 (d17 (j := 52) rfl) ?_
      refine b_iaload (d17 (j := 53) rfl) rfl (s10 c1 c2) ?_
      refine b_iconst (d17 (j := 54) rfl) (by decide) ?_
      refine b_iadd (d17 (j := 55) rfl) rfl rfl ?_
      refine b_stk [uI (((dsSet (dsSet M (x0 + 2) ((x1 * 60) + (M (x0 + 4) x1)) x2) (x0 + 3) ((x1 * 60) + (M (x0 + 4) x1)) x3) (x0 + 4) x1) + 1), uI x1, uR 25 (x0 + 4)] (by rw [dsw_r (s11 c1 c2)]) ?_
      refine b_iastore (d17 (j := 56) rfl) rfl (s12 c1 c2) ?_
      refine b_aload_n (d17 (j := 57) rfl) rfl ?_
      refine b_getR (d17 (j := 58) rfl) rfl rfl rfl rfl ?_
      refine b_iload_n (d17 (j := 59) rfl) rfl ?_
      refine b_dup2 (d17 (j := 60) rfl) ?_
      refine b_iaload (d17 (j := 61) rfl) rfl (s13 c1 c2) ?_
      refine b_iload_n (d17 (j := 62) rfl) rfl ?_
      refine b_iadd (d17 (j := 63) rfl) rfl rfl ?_
      refine b_stk [uI (((dsSet (dsSet (dsSet M (x0 + 2) ((x1 * 60) + (M (x0 + 4) x1)) x2) (x0 + 3) ((x1 * 60) + (M (x0 + 4) x1)) x3) (x0 + 4) x1 (((dsSet (dsSet M (x0 + 2) ((x1 * 60) + (M (x0 + 4) x1)) x2) (x0 + 3) ((x1 * 60) + (M (x0 + 4) x1)) x3) (x0 + 4) x1) + 1)) (x0 + 5) x1) + x3), uI x1, uR 25 (x0 + 5)] (by rw [dsw_r (s14 c1 c2)]) ?_
      refine b_iastore (d17 (j := 64) rfl) rfl (s15 c1 c2) ?_
      exact b_vret (d17 (j := 65) rfl) rfl (k2 c1 c2)
  ·
    refine b_aload_n (d17 (j := 14) rfl) rfl ?_
    refine b_getR (d17 (j := 15) rfl) rfl rfl rfl rfl ?_
    refine b_iload (d17 (j := 16) rfl) rfl ?_
    refine b_iconst (d17 (j := 17) rfl) (by decide) ?_
    refine b_isub (d17 (j := 18) rfl) rfl rfl ?_
    refine b_stk [uI (((x1 * 60) + (M (x0 + 4) x1)) - 1), uR 24 (x0 + 2)] (by rw [dsw_r (s16 c1)]) ?_
    refine b_iaload (d17 (j := 19) rfl) rfl (s17 c1) ?_
    refine b_iload_n (d17 (j := 20) rfl) rfl ?_
    refine b_icmp_ne (d17 (j := 21) rfl) (fun c3 => ?_) (fun c3 => ?_)
    ·
      refine b_aload_n (d17 (j := 33) rfl) rfl ?_
      refine b_getR (d17 (j := 34) rfl) rfl rfl rfl rfl ?_
      refine b_iload_n (d17 (j := 35) rfl) rfl ?_
      refine b_iaload (d17 (j := 36) rfl) rfl (s18 c1 c3) ?_
      refine b_bipush (d17 (j := 37) rfl) (by decide) ?_
      refine b_icmp_ge (d17 (j := 38) rfl) (fun c4 => ?_) (fun c4 => ?_)
      ·
        refine b_aload_n (d17 (j := 57) rfl) rfl ?_
        refine b_getR (d17 (j := 58) rfl) rfl rfl rfl rfl ?_
        refine b_iload_n (d17 (j := 59) rfl) rfl ?_
        refine b_dup2 (d17 (j := 60) rfl) ?_
        refine b_iaload (d17 (j := 61) rfl) rfl (s19 c1 c3 c4) ?_
        refine b_iload_n (d17 (j := 62) rfl) rfl ?_
        refine b_iadd (d17 (j := 63) rfl) rfl rfl ?_
        refine b_stk [uI ((M (x0 + 5) x1) + x3), uI x1, uR 25 (x0 + 5)] (by rw [dsw_r (s20 c1 c3 c4)]) ?_
        refine b_iastore (d17 (j := 64) rfl) rfl (s21 c1 c3 c4) ?_
        exact b_vret (d17 (j := 65) rfl) rfl (k3 c1 c3 c4)
      ·
        refine b_aload_n (d17 (j := 39) rfl) rfl ?_
        refine b_getR (d17 (j := 40) rfl) rfl rfl rfl rfl ?_
        refine b_iload (d17 (j := 41) rfl) rfl ?_
        refine b_iload_n (d17 (j := 42) rfl) rfl ?_
        refine b_iastore (d17 (j := 43) rfl) rfl (s22 c1 c3 c4) ?_
        refine b_aload_n (d17 (j := 44) rfl) rfl ?_
        refine b_getR (d17 (j := 45) rfl) rfl rfl rfl rfl ?_
        refine b_iload (d17 (j := 46) rfl) rfl ?_
        refine b_iload_n (d17 (j := 47) rfl) rfl ?_
        refine b_iastore (d17 (j := 48) rfl) rfl (s23 c1 c3 c4) ?_
        refine b_aload_n (d17 (j := 49) rfl) rfl ?_
        refine b_getR (d17 (j := 50) rfl) rfl rfl rfl rfl ?_
        refine b_iload_n (d17 (j := 51) rfl) rfl ?_
        refine b_dup2 (d17 (j := 52) rfl) ?_
        refine b_iaload (d17 (j := 53) rfl) rfl (s24 c1 c3 c4) ?_
        refine b_iconst (d17 (j := 54) rfl) (by decide) ?_
        refine b_iadd (d17 (j := 55) rfl) rfl rfl ?_
        refine b_stk [uI (((dsSet (dsSet M (x0 + 2) ((x1 * 60) + (M (x0 + 4) x1)) x2) (x0 + 3) ((x1 * 60) + (M (x0 + 4) x1)) x3) (x0 + 4) x1) + 1), uI x1, uR 25 (x0 + 4)] (by rw [dsw_r (s25 c1 c3 c4)]) ?_
        refine b_iastore (d17 (j := 56) rfl) rfl (s26 c1 c3 c4) ?_
        refine b_aload_n (d17 (j := 57) rfl) rfl ?_
        refine b_getR (d17 (j := 58) rfl) rfl rfl rfl rfl ?_
        refine b_iload_n (d17 (j := 59) rfl) rfl ?_
        refine b_dup2 (d17 (j := 60) rfl) ?_
        refine b_iaload (d17 (j := 61) rfl) rfl (s27 c1 c3 c4) ?_
        refine b_iload_n (d17 (j := 62) rfl) rfl ?_
        refine b_iadd (d17 (j := 63) rfl) rfl rfl ?_
        refine b_stk [uI (((dsSet (dsSet (dsSet M (x0 + 2) ((x1 * 60) + (M (x0 + 4) x1)) x2) (x0 + 3) ((x1 * 60) + (M (x0 + 4) x1)) x3) (x0 + 4) x1 (((dsSet (dsSet M (x0 + 2) ((x1 * 60) + (M (x0 + 4) x1)) x2) (x0 + 3) ((x1 * 60) + (M (x0 + 4) x1)) x3) (x0 + 4) x1) + 1)) (x0 + 5) x1) + x3), uI x1, uR 25 (x0 + 5)] (by rw [dsw_r (s28 c1 c3 c4)]) ?_
        refine b_iastore (d17 (j := 64) rfl) rfl (s29 c1 c3 c4) ?_
        exact b_vret (d17 (j := 65) rfl) rfl (k4 c1 c3 c4)
    ·
      refine b_aload_n (d17 (j := 22) rfl) rfl ?_
      refine b_getR (d17 (j := 23) rfl) rfl rfl rfl rfl ?_
      refine b_iload (d17 (j := 24) rfl) rfl ?_
      refine b_iconst (d17 (j := 25) rfl) (by decide) ?_
      refine b_isub (d17 (j := 26) rfl) rfl rfl ?_
      refine b_stk [uI (((x1 * 60) + (M (x0 + 4) x1)) - 1), uR 24 (x0 + 3)] (by rw [dsw_r (s30 c1 c3)]) ?_
      refine b_dup2 (d17 (j := 27) rfl) ?_
      refine b_iaload (d17 (j := 28) rfl) rfl (s31 c1 c3) ?_
      refine b_iload_n (d17 (j := 29) rfl) rfl ?_
      refine b_iadd (d17 (j := 30) rfl) rfl rfl ?_
      refine b_stk [uI ((M (x0 + 3) (((x1 * 60) + (M (x0 + 4) x1)) - 1)) + x3), uI (((x1 * 60) + (M (x0 + 4) x1)) - 1), uR 24 (x0 + 3)] (by rw [dsw_r (s32 c1 c3)]) ?_
      refine b_iastore (d17 (j := 31) rfl) rfl (s33 c1 c3) ?_
      refine b_goto (d17 (j := 32) rfl) ?_
      refine b_aload_n (d17 (j := 57) rfl) rfl ?_
      refine b_getR (d17 (j := 58) rfl) rfl rfl rfl rfl ?_
      refine b_iload_n (d17 (j := 59) rfl) rfl ?_
      refine b_dup2 (d17 (j := 60) rfl) ?_
      refine b_iaload (d17 (j := 61) rfl) rfl (s34 c1 c3) ?_
      refine b_iload_n (d17 (j := 62) rfl) rfl ?_
      refine b_iadd (d17 (j := 63) rfl) rfl rfl ?_
      refine b_stk [uI (((dsSet M (x0 + 3) (((x1 * 60) + (M (x0 + 4) x1)) - 1) ((M (x0 + 3) (((x1 * 60) + (M (x0 + 4) x1)) - 1)) + x3)) (x0 + 5) x1) + x3), uI x1, uR 25 (x0 + 5)] (by rw [dsw_r (s35 c1 c3)]) ?_
      refine b_iastore (d17 (j := 64) rfl) rfl (s36 c1 c3) ?_
      exact b_vret (d17 (j := 65) rfl) rfl (k5 c1 c3)
