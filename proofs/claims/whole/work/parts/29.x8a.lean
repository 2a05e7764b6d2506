def L69 : List (Nat × Instr × Nat × Nat) := [(0, .aload_n 0, 1, 0), (1, .getfield 10, 4, 0), (4, .getfield 73, 7, 0), (7, .bipush 20, 9, 0), (9, .iadd, 10, 0), (10, .sipush 600, 13, 0), (13, .if_icmp .le 5, 16, 18), (16, .iconst (-1), 17, 0), (17, .ireturn, 18, 0), (18, .aload_n 0, 19, 0), (19, .getfield 10, 22, 0), (22, .iload_n 1, 23, 0), (23, .invokevirtual 77, 26, 0), (26, .aload_n 0, 27, 0), (27, .getfield 10, 30, 0), (30, .iload_n 2, 31, 0), (31, .invokevirtual 77, 34, 0), (34, .aload_n 0, 35, 0), (35, .getfield 10, 38, 0), (38, .iload_n 3, 39, 0), (39, .invokevirtual 77, 42, 0), (42, .aload_n 0, 43, 0), (43, .getfield 10, 46, 0), (46, .iload 4, 48, 0), (48, .invokevirtual 77, 51, 0), (51, .aload_n 0, 52, 0), (52, .getfield 10, 55, 0), (55, .iload 5, 57, 0), (57, .invokevirtual 77, 60, 0), (60, .aload_n 0, 61, 0), (61, .getfield 10, 64, 0), (64, .getfield 73, 67, 0), (67, .ireturn, 68, 0)]
set_option maxRecDepth 100000 in
theorem L69_ok : L69.all (dck 69) = true := by decide +kernel
theorem d69 {j pc nx tg : Nat} {ins : Instr} (hj : L69[j]? = some (pc, ins, nx, tg)) : dcd 69 pc ins nx tg := dcl_ok L69_ok hj
set_option maxRecDepth 100000 in
set_option maxHeartbeats 4000000 in
theorem r69_0 {x1 x2 x3 x4 x5 : Int} {R1 : dsMem → Prop} {R2 : dsMem → dsMem → Prop} {R3 : dsMem → dsMem → dsMem → Prop} {R4 : dsMem → dsMem → dsMem → dsMem → Prop} {R5 : dsMem → dsMem → dsMem → dsMem → dsMem → Prop} {M : dsMem} {Q : bQT} (s1 : -2147483648 ≤ ((M 1 0) + 20) ∧ ((M 1 0) + 20) < 2147483648 := by intros; omega) (hA1 : (((M 1 0) + 20) ≤ 600) → bCt 44 [uR 6 1, uI x1, uX 0] M (fun _ => []) R1) (hA2 : (((M 1 0) + 20) ≤ 600) → ∀ M1 : dsMem, R1 M1 → bCt 44 [uR 6 1, uI x2, uX 0] M1 (fun _ => []) (R2 M1)) (hA3 : (((M 1 0) + 20) ≤ 600) → ∀ M1 : dsMem, R1 M1 → ∀ M2 : dsMem, R2 M1 M2 → bCt 44 [uR 6 1, uI x3, uX 0] M2 (fun _ => []) (R3 M1 M2)) (hA4 : (((M 1 0) + 20) ≤ 600) → ∀ M1 : dsMem, R1 M1 → ∀ M2 : dsMem, R2 M1 M2 → ∀ M3 : dsMem, R3 M1 M2 M3 → bCt 44 [uR 6 1, uI x4, uX 0] M3 (fun _ => []) (R4 M1 M2 M3)) (hA5 : (((M 1 0) + 20) ≤ 600) → ∀ M1 : dsMem, R1 M1 → ∀ M2 : dsMem, R2 M1 M2 → ∀ M3 : dsMem, R3 M1 M2 M3 → ∀ M4 : dsMem, R4 M1 M2 M3 M4 → bCt 44 [uR 6 1, uI x5, uX 0] M4 (fun _ => []) (R5 M1 M2 M3 M4)) (k1 : (((M 1 0) + 20) ≤ 600) → ∀ M1 : dsMem, R1 M1 → ∀ M2 : dsMem, R2 M1 M2 → ∀ M3 : dsMem, R3 M1 M2 M3 → ∀ M4 : dsMem, R4 M1 M2 M3 M4 → ∀ M5 : dsMem, R5 M1 M2 M3 M4 M5 → Q [uI (M5 1 0)] M5) (k2 : (¬ ((M 1 0) + 20) ≤ 600) → Q [uI (-1)] M) :
    bB 69 0 [uR 10 0, uI x1, uI x2, uI x3, uI x4, uI x5] [] M Q := by
  refine b_aload_n (d69 (j := 0) rfl) rfl ?_
  refine b_getR (d69 (j := 1) rfl) rfl rfl rfl rfl ?_
  refine b_stk [uR 6 1] rfl ?_
  refine b_getI (d69 (j := 2) rfl) rfl rfl rfl rfl (Or.inl rfl) ?_
  refine b_stk [uI (M 1 0)] rfl ?_
  refine b_bipush (d69 (j := 3) rfl) (by decide) ?_
  refine b_iadd (d69 (j := 4) rfl) rfl rfl ?_
  refine b_sipush (d69 (j := 5) rfl) (by decide) ?_
  refine b_stk [uI 600, uI ((M 1 0) + 20)] (by rw [dsw_r s1]) ?_
  refine b_icmp_le (d69 (j := 6) rfl) (fun c1 => ?_) (fun c1 => ?_)
  ·
    refine b_aload_n (d69 (j := 9) rfl) rfl ?_
    refine b_getR (d69 (j := 10) rfl) rfl rfl rfl rfl ?_
    refine b_stk [uR 6 1] rfl ?_
    refine b_iload_n (d69 (j := 11) rfl) rfl ?_
    refine b_callV (d69 (j := 12) rfl) rfl rfl (Or.inl rfl) rfl (bCk_mk (n := 0) (k := 2) (by decide +kernel) rfl rfl) ((hA1 c1) _ (fun M1 hR1 => ?_))
    refine b_stk [] rfl ?_
    refine b_aload_n (d69 (j := 13) rfl) rfl ?_
    refine b_getR (d69 (j := 14) rfl) rfl rfl rfl rfl ?_
    refine b_stk [uR 6 1] rfl ?_
    refine b_iload_n (d69 (j := 15) rfl) rfl ?_
    refine b_callV (d69 (j := 16) rfl) rfl rfl (Or.inl rfl) rfl (bCk_mk (n := 0) (k := 2) (by decide +kernel) rfl rfl) ((hA2 c1 M1 hR1) _ (fun M2 hR2 => ?_))
    refine b_stk [] rfl ?_
    refine b_aload_n (d69 (j := 17) rfl) rfl ?_
    refine b_getR (d69 (j := 18) rfl) rfl rfl rfl rfl ?_
    refine b_stk [uR 6 1] rfl ?_
    refine b_iload_n (d69 (j := 19) rfl) rfl ?_
    refine b_callV (d69 (j := 20) rfl) rfl rfl (Or.inl rfl) rfl (bCk_mk (n := 0) (k := 2) (by decide +kernel) rfl rfl) ((hA3 c1 M1 hR1 M2 hR2) _ (fun M3 hR3 => ?_))
    refine b_stk [] rfl ?_
    refine b_aload_n (d69 (j := 21) rfl) rfl ?_
    refine b_getR (d69 (j := 22) rfl) rfl rfl rfl rfl ?_
    refine b_stk [uR 6 1] rfl ?_
    refine b_iload (d69 (j := 23) rfl) rfl ?_
    refine b_callV (d69 (j := 24) rfl) rfl rfl (Or.inl rfl) rfl (bCk_mk (n := 0) (k := 2) (by decide +kernel) rfl rfl) ((hA4 c1 M1 hR1 M2 hR2 M3 hR3) _ (fun M4 hR4 => ?_))
    refine b_stk [] rfl ?_
    refine b_aload_n (d69 (j := 25) rfl) rfl ?_
    refine b_getR (d69 (j := 26) rfl) rfl rfl rfl rfl ?_
    refine b_stk [uR 6 1] rfl ?_
    refine b_iload (d69 (j := 27) rfl) rfl ?_
    refine b_callV (d69 (j := 28) rfl) rfl rfl (Or.inl rfl) rfl (bCk_mk (n := 0) (k := 2) (by decide +kernel) rfl rfl) ((hA5 c1 M1 hR1 M2 hR2 M3 hR3 M4 hR4) _ (fun M5 hR5 => ?_))
    refine b_stk [] rfl ?_
    refine b_aload_n (d69 (j := 29) rfl) rfl ?_
    refine b_getR (d69 (j := 30) rfl) rfl rfl rfl rfl ?_
    refine b_stk [uR 6 1] rfl ?_
    refine b_getI (d69 (j := 31) rfl) rfl rfl rfl rfl (Or.inl rfl) ?_
    refine b_stk [uI (M5 1 0)] rfl ?_
    exact b_iret (d69 (j := 32) rfl) rfl (k1 c1 M1 hR1 M2 hR2 M3 hR3 M4 hR4 M5 hR5)
  ·
    refine b_iconst (d69 (j := 7) rfl) (by decide) ?_
    exact b_iret (d69 (j := 8) rfl) rfl (k2 c1)
def L70 : List (Nat × Instr × Nat × Nat) := [(0, .iload_n 1, 1, 0), (1, .ifCond .lt 14, 4, 15), (4, .iload_n 1, 5, 0), (5, .aload_n 0, 6, 0), (6, .getfield 10, 9, 0), (9, .getfield 73, 12, 0), (12, .if_icmp .le 5, 15, 17), (15, .iconst (-1), 16, 0), (16, .ireturn, 17, 0), (17, .aload_n 0, 18, 0), (18, .getfield 10, 21, 0), (21, .iload_n 1, 22, 0), (22, .putfield 73, 25, 0), (25, .iload_n 1, 26, 0), (26, .ireturn, 27, 0)]
set_option maxRecDepth 100000 in
theorem L70_ok : L70.all (dck 70) = true := by decide +kernel
theorem d70 {j pc nx tg : Nat} {ins : Instr} (hj : L70[j]? = some (pc, ins, nx, tg)) : dcd 70 pc ins nx tg := dcl_ok L70_ok hj
set_option maxRecDepth 100000 in
set_option maxHeartbeats 4000000 in
theorem r70_0 {x1 : Int}  {M : dsMem} {Q : bQT} (k1 : (x1 < 0) → Q [uI (-1)] M) (k2 : (¬ x1 < 0) → (x1 ≤ (M 1 0)) → Q [uI x1] (dsSet M 1 0 x1)) (k3 : (¬ x1 < 0) → (¬ x1 ≤ (M 1 0)) → Q [uI (-1)] M) :
    bB 70 0 [uR 10 0, uI x1] [] M Q := by
  refine b_iload_n (d70 (j := 0) rfl) rfl ?_
  refine b_if_lt (d70 (j := 1) rfl) (fun c1 => ?_) (fun c1 => ?_)
  ·
    refine b_iconst (d70 (j := 7) rfl) (by decide) ?_
    exact b_iret (d70 (j := 8) rfl) rfl (k1 c1)
  ·
    refine b_iload_n (d70 (j := 2) rfl) rfl ?_
    refine b_aload_n (d70 (j := 3) rfl) rfl ?_
    refine b_getR (d70 (j := 4) rfl) rfl rfl rfl rfl ?_
    refine b_stk [uR 6 1, uI x1] rfl ?_
    refine b_getI (d70 (j := 5) rfl) rfl rfl rfl rfl (Or.inl rfl) ?_
    refine b_stk [uI (M 1 0), uI x1] rfl ?_
    refine b_icmp_le (d70 (j := 6) rfl) (fun c2 => ?_) (fun c2 => ?_)
    ·
      refine b_aload_n (d70 (j := 9) rfl) rfl ?_
      refine b_getR (d70 (j := 10) rfl) rfl rfl rfl rfl ?_
      refine b_stk [uR 6 1] rfl ?_
      refine b_iload_n (d70 (j := 11) rfl) rfl ?_
      refine b_putI (d70 (j := 12) rfl) rfl ⟨rfl, rfl⟩ rfl rfl ?_
      refine b_iload_n (d70 (j := 13) rfl) rfl ?_
      exact b_iret (d70 (j := 14) rfl) rfl (k2 c1 c2)
    ·
      refine b_iconst (d70 (j := 7) rfl) (by decide) ?_
      exact b_iret (d70 (j := 8) rfl) rfl (k3 c1 c2)
def L71 : List (Nat × Instr × Nat × Nat) := [(0, .aload_n 0, 1, 0), (1, .getfield 10, 4, 0), (4, .aload_n 0, 5, 0), (5, .getfield 19, 8, 0), (8, .invokevirtual 81, 11, 0), (11, .istore_n 1, 12, 0), (12, .aload_n 0, 13, 0), (13, .getfield 10, 16, 0), (16, .iconst 0, 17, 0), (17, .putfield 73, 20, 0), (20, .iload_n 1, 21, 0), (21, .ifCond .ne 6, 24, 27), (24, .bipush (-4), 26, 0), (26, .ireturn, 27, 0), (27, .aload_n 0, 28, 0), (28, .getfield 23, 31, 0), (31, .aload_n 0, 32, 0), (32, .getfield 19, 35, 0), (35, .invokevirtual 85, 38, 0), (38, .aload_n 0, 39, 0), (39, .invokevirtual 88, 42, 0), (42, .aload_n 0, 43, 0), (43, .getfield 23, 46, 0), (46, .getfield 91, 49, 0), (49, .ireturn, 50, 0)]
set_option maxRecDepth 100000 in
theorem L71_ok : L71.all (dck 71) = true := by decide +kernel
theorem d71 {j pc nx tg : Nat} {ins : Instr} (hj : L71[j]? = some (pc, ins, nx, tg)) : dcd 71 pc ins nx tg := dcl_ok L71_ok hj
set_option maxRecDepth 100000 in
set_option maxHeartbeats 4000000 in
theorem r71_0  {R1 : dsMem → Prop} {g1 : dsMem → Int} {R2 : dsMem → dsMem → Prop} {R3 : dsMem → dsMem → dsMem → Prop} {M : dsMem} {Q : bQT} (hA1 : bCt 45 [uR 6 1, uR 4 3, uX 0] M (fun M1 => [uI (g1 M1)]) R1) (hA2 : ∀ M1 : dsMem, R1 M1 → (¬ (g1 M1) = 0) → bCt 62 [uR 4 24, uR 4 3] (dsSet M1 1 0 0) (fun _ => []) (R2 M1)) (hA3 : ∀ M1 : dsMem, R1 M1 → (¬ (g1 M1) = 0) → ∀ M2 : dsMem, R2 M1 M2 → bCt 156 [uR 10 0] M2 (fun _ => []) (R3 M1 M2)) (k1 : ∀ M1 : dsMem, R1 M1 → (¬ (g1 M1) = 0) → ∀ M2 : dsMem, R2 M1 M2 → ∀ M3 : dsMem, R3 M1 M2 M3 → Q [uI (M3 24 0)] M3) (k2 : ∀ M1 : dsMem, R1 M1 → ((g1 M1) = 0) → Q [uI (-4)] (dsSet M1 1 0 0)) :
    bB 71 0 [uR 10 0, uX 0] [] M Q := by
  refine b_aload_n (d71 (j := 0) rfl) rfl ?_
  refine b_getR (d71 (j := 1) rfl) rfl rfl rfl rfl ?_
  refine b_stk [uR 6 1] rfl ?_
  refine b_aload_n (d71 (j := 2) rfl) rfl ?_
  refine b_getR (d71 (j := 3) rfl) rfl rfl rfl rfl ?_
  refine b_stk [uR 4 3, uR 6 1] rfl ?_
  refine b_callV (d71 (j := 4) rfl) rfl rfl (Or.inl rfl) rfl (bCk_mk (n := 0) (k := 2) (by decide +kernel) rfl rfl) ((hA1) _ (fun M1 hR1 => ?_))
  refine b_stk [uI (g1 M1)] rfl ?_
  refine b_istore_n [uR 10 0, uI (g1 M1)] (d71 (j := 5) rfl) (by decide) rfl ?_
  refine b_aload_n (d71 (j := 6) rfl) rfl ?_
  refine b_getR (d71 (j := 7) rfl) rfl rfl rfl rfl ?_
  refine b_stk [uR 6 1] rfl ?_
  refine b_iconst (d71 (j := 8) rfl) (by decide) ?_
  refine b_putI (d71 (j := 9) rfl) rfl ⟨rfl, rfl⟩ rfl rfl ?_
  refine b_iload_n (d71 (j := 10) rfl) rfl ?_
  refine b_if_ne (d71 (j := 11) rfl) (fun c1 => ?_) (fun c1 => ?_)
  ·
    refine b_aload_n (d71 (j := 14) rfl) rfl ?_
    refine b_getR (d71 (j := 15) rfl) rfl rfl rfl rfl ?_
    refine b_stk [uR 4 24] rfl ?_
    refine b_aload_n (d71 (j := 16) rfl) rfl ?_
    refine b_getR (d71 (j := 17) rfl) rfl rfl rfl rfl ?_
    refine b_stk [uR 4 3, uR 4 24] rfl ?_
    refine b_callV (d71 (j := 18) rfl) rfl rfl (Or.inl rfl) rfl (bCk_mk (n := 0) (k := 2) (by decide +kernel) rfl rfl) ((hA2 M1 hR1 c1) _ (fun M2 hR2 => ?_))
    refine b_stk [] rfl ?_
    refine b_aload_n (d71 (j := 19) rfl) rfl ?_
    refine b_callV (d71 (j := 20) rfl) rfl rfl (Or.inl rfl) rfl (bCk_mk (n := 0) (k := 1) (by decide +kernel) rfl rfl) ((hA3 M1 hR1 c1 M2 hR2) _ (fun M3 hR3 => ?_))
    refine b_stk [] rfl ?_
    refine b_aload_n (d71 (j := 21) rfl) rfl ?_
    refine b_getR (d71 (j := 22) rfl) rfl rfl rfl rfl ?_
    refine b_stk [uR 4 24] rfl ?_
    refine b_getI (d71 (j := 23) rfl) rfl rfl rfl rfl (Or.inl rfl) ?_
    refine b_stk [uI (M3 24 0)] rfl ?_
    exact b_iret (d71 (j := 24) rfl) rfl (k1 M1 hR1 c1 M2 hR2 M3 hR3)
  ·
    refine b_bipush (d71 (j := 12) rfl) (by decide) ?_
    exact b_iret (d71 (j := 13) rfl) rfl (k2 M1 hR1 c1)
def L72 : List (Nat × Instr × Nat × Nat) := [(0, .iload_n 1, 1, 0), (1, .ifCond .ne 11, 4, 12), (4, .aload_n 0, 5, 0), (5, .getfield 10, 8, 0), (8, .getfield 94, 11, 0), (11, .ireturn, 12, 0), (12, .iload_n 1, 13, 0), (13, .iconst 1, 14, 0), (14, .if_icmp .ne 13, 17, 27), (17, .aload_n 0, 18, 0), (18, .getfield 10, 21, 0), (21, .getfield 97, 24, 0), (24, .goto 4, 27, 28), (27, .iconst (-1), 28, 0), (28, .ireturn, 29, 0)]
set_option maxRecDepth 100000 in
theorem L72_ok : L72.all (dck 72) = true := by decide +kernel
theorem d72 {j pc nx tg : Nat} {ins : Instr} (hj : L72[j]? = some (pc, ins, nx, tg)) : dcd 72 pc ins nx tg := dcl_ok L72_ok hj
set_option maxRecDepth 100000 in
set_option maxHeartbeats 4000000 in
theorem r72_0 {x1 : Int}  {M : dsMem} {Q : bQT} (k1 : (¬ x1 = 0) → (¬ x1 = 1) → Q [uI (-1)] M) (k2 : (¬ x1 = 0) → (x1 = 1) → Q [uI (M 1 2)] M) (k3 : (x1 = 0) → Q [uI (M 1 1)] M) :
    bB 72 0 [uR 10 0, uI x1] [] M Q := by
  refine b_iload_n (d72 (j := 0) rfl) rfl ?_
  refine b_if_ne (d72 (j := 1) rfl) (fun c1 => ?_) (fun c1 => ?_)
  ·
    refine b_iload_n (d72 (j := 6) rfl) rfl ?_
    refine b_iconst (d72 (j := 7) rfl) (by decide) ?_
    refine b_icmp_ne (d72 (j := 8) rfl) (fun c2 => ?_) (fun c2 => ?_)
    ·
      refine b_iconst (d72 (j := 13) rfl) (by decide) ?_
      exact b_iret (d72 (j := 14) rfl) rfl (k1 c1 c2)
    ·
      refine b_aload_n (d72 (j := 9) rfl) rfl ?_
      refine b_getR (d72 (j := 10) rfl) rfl rfl rfl rfl ?_
      refine b_stk [uR 6 1] rfl ?_
      refine b_getI (d72 (j := 11) rfl) rfl rfl rfl rfl (Or.inl rfl) ?_
      refine b_stk [uI (M 1 2)] rfl ?_
      refine b_goto (d72 (j := 12) rfl) ?_
      exact b_iret (d72 (j := 14) rfl) rfl (k2 c1 c2)
  ·
    refine b_aload_n (d72 (j := 2) rfl) rfl ?_
    refine b_getR (d72 (j := 3) rfl) rfl rfl rfl rfl ?_
    refine b_stk [uR 6 1] rfl ?_
    refine b_getI (d72 (j := 4) rfl) rfl rfl rfl rfl (Or.inl rfl) ?_
    refine b_stk [uI (M 1 1)] rfl ?_
    exact b_iret (d72 (j := 5) rfl) rfl (k3 c1)
def L73 : List (Nat × Instr × Nat × Nat) := [(0, .aload_n 0, 1, 0), (1, .iload_n 1, 2, 0), (2, .invokevirtual 100, 5, 0), (5, .ifCond .eq 12, 8, 17), (8, .iload_n 2, 9, 0), (9, .iconst 0, 10, 0), (10, .iconst 1, 11, 0), (11, .invokestatic 104, 14, 0), (14, .ifCond .ne 6, 17, 20), (17, .bipush (-2), 19, 0), (19, .ireturn, 20, 0), (20, .iload_n 2, 21, 0), (21, .ifCond .ne 15, 24, 36), (24, .aload_n 0, 25, 0), (25, .getfield 23, 28, 0), (28, .getfield 108, 31, 0), (31, .iload_n 1, 32, 0), (32, .iaload, 33, 0), (33, .goto 12, 36, 45), (36, .aload_n 0, 37, 0), (37, .getfield 23, 40, 0), (40, .getfield 111, 43, 0), (43, .iload_n 1, 44, 0), (44, .iaload, 45, 0), (45, .ireturn, 46, 0)]
set_option maxRecDepth 100000 in
theorem L73_ok : L73.all (dck 73) = true := by decide +kernel
theorem d73 {j pc nx tg : Nat} {ins : Instr} (hj : L73[j]? = some (pc, ins, nx, tg)) : dcd 73 pc ins nx tg := dcl_ok L73_ok hj
set_option maxRecDepth 100000 in
set_option maxHeartbeats 4000000 in
theorem r73_0 {x1 x2 : Int}  {M : dsMem} {Q : bQT} (s1 : -2147483648 ≤ ((M 24 4) - 1) ∧ ((M 24 4) - 1) < 2147483648 := by intros; omega) (k1 : (¬ (0 ≤ x1 ∧ x1 ≤ (M 24 4) - 1)) → Q [uI (-2)] M) (s2 : ((0 ≤ x1 ∧ x1 ≤ (M 24 4) - 1)) → ((0 ≤ x2 ∧ x2 ≤ 1)) → (¬ x2 = 0) → 0 ≤ x1 ∧ x1 < 3 := by intros; omega) (k2 : ((0 ≤ x1 ∧ x1 ≤ (M 24 4) - 1)) → ((0 ≤ x2 ∧ x2 ≤ 1)) → (¬ x2 = 0) → Q [uI (M 26 x1)] M) (s3 : ((0 ≤ x1 ∧ x1 ≤ (M 24 4) - 1)) → ((0 ≤ x2 ∧ x2 ≤ 1)) → (x2 = 0) → 0 ≤ x1 ∧ x1 < 3 := by intros; omega) (k3 : ((0 ≤ x1 ∧ x1 ≤ (M 24 4) - 1)) → ((0 ≤ x2 ∧ x2 ≤ 1)) → (x2 = 0) → Q [uI (M 25 x1)] M) (k4 : ((0 ≤ x1 ∧ x1 ≤ (M 24 4) - 1)) → (¬ (0 ≤ x2 ∧ x2 ≤ 1)) → Q [uI (-2)] M) :
    bB 73 0 [uR 10 0, uI x1, uI x2] [] M Q := by
  refine b_aload_n (d73 (j := 0) rfl) rfl ?_
  refine b_iload_n (d73 (j := 1) rfl) rfl ?_
  refine b_callV (d73 (j := 2) rfl) rfl rfl (Or.inl rfl) rfl (bCk_mk (n := 0) (k := 2) (by decide +kernel) rfl rfl) (pu150 s1 ?_)
  refine b_stk [uI (if (0 ≤ x1 ∧ x1 ≤ (M 24 4) - 1) then 1 else 0)] rfl ?_
  refine b_ifeqP (d73 (j := 3) rfl) (fun c1 => ?_) (fun c1 => ?_)
  ·
    refine b_bipush (d73 (j := 9) rfl) (by decide) ?_
    exact b_iret (d73 (j := 10) rfl) rfl (k1 c1)
  ·
    refine b_iload_n (d73 (j := 4) rfl) rfl ?_
    refine b_iconst (d73 (j := 5) rfl) (by decide) ?_
    refine b_iconst (d73 (j := 6) rfl) (by decide) ?_
    refine b_callS (d73 (j := 7) rfl) (Or.inl rfl) rfl (bCk_mk (n := 0) (k := 3) (by decide +kernel) rfl rfl) (pu144  ?_)
    refine b_stk [uI (if (0 ≤ x2 ∧ x2 ≤ 1) then 1 else 0)] rfl ?_
    refine b_ifneP (d73 (j := 8) rfl) (fun c2 => ?_) (fun c2 => ?_)
    ·
      refine b_iload_n (d73 (j := 11) rfl) rfl ?_
      refine b_if_ne (d73 (j := 12) rfl) (fun c3 => ?_) (fun c3 => ?_)
      ·
        refine b_aload_n (d73 (j := 19) rfl) rfl ?_
        refine b_getR (d73 (j := 20) rfl) rfl rfl rfl rfl ?_
        refine b_stk [uR 4 24] rfl ?_
        refine b_getR (d73 (j := 21) rfl) rfl rfl rfl rfl ?_
        refine b_stk [uR 23 26] rfl ?_
        refine b_iload_n (d73 (j := 22) rfl) rfl ?_
        refine b_iaload (d73 (j := 23) rfl) rfl (s2 c1 c2 c3) ?_
        exact b_iret (d73 (j := 24) rfl) rfl (k2 c1 c2 c3)
      ·
        refine b_aload_n (d73 (j := 13) rfl) rfl ?_
        refine b_getR (d73 (j := 14) rfl) rfl rfl rfl rfl ?_
        refine b_stk [uR 4 24] rfl ?_
        refine b_getR (d73 (j := 15) rfl) rfl rfl rfl rfl ?_
        refine b_stk [uR 23 25] rfl ?_
        refine b_iload_n (d73 (j := 16) rfl) rfl ?_
        refine b_iaload (d73 (j := 17) rfl) rfl (s3 c1 c2 c3) ?_
        refine b_goto (d73 (j := 18) rfl) ?_
        exact b_iret (d73 (j := 24) rfl) rfl (k3 c1 c2 c3)
    ·
      refine b_bipush (d73 (j := 9) rfl) (by decide) ?_
      exact b_iret (d73 (j := 10) rfl) rfl (k4 c1 c2)
def L74 : List (Nat × Instr × Nat × Nat) := [(0, .aload_n 0, 1, 0), (1, .iload_n 1, 2, 0), (2, .invokevirtual 114, 5, 0), (5, .ifCond .eq 12, 8, 17), (8, .iload_n 2, 9, 0), (9, .iconst 0, 10, 0), (10, .iconst 2, 11, 0), (11, .invokestatic 104, 14, 0), (14, .ifCond .ne 6, 17, 20), (17, .bipush (-2), 19, 0), (19, .ireturn, 20, 0), (20, .iload_n 2, 21, 0), (21, .ifCond .ne 13, 24, 34), (24, .aload_n 0, 25, 0), (25, .getfield 23, 28, 0), (28, .getfield 117, 31, 0), (31, .iload_n 1, 32, 0), (32, .iaload, 33, 0), (33, .ireturn, 34, 0), (34, .iload_n 2, 35, 0), (35, .iconst 1, 36, 0), (36, .if_icmp .ne 15, 39, 51), (39, .aload_n 0, 40, 0), (40, .getfield 23, 43, 0), (43, .getfield 120, 46, 0), (46, .iload_n 1, 47, 0), (47, .iaload, 48, 0), (48, .goto 12, 51, 60), (51, .aload_n 0, 52, 0), (52, .getfield 23, 55, 0), (55, .getfield 123, 58, 0), (58, .iload_n 1, 59, 0), (59, .iaload, 60, 0), (60, .ireturn, 61, 0)]
set_option maxRecDepth 100000 in
theorem L74_ok : L74.all (dck 74) = true := by decide +kernel
theorem d74 {j pc nx tg : Nat} {ins : Instr} (hj : L74[j]? = some (pc, ins, nx, tg)) : dcd 74 pc ins nx tg := dcl_ok L74_ok hj
set_option maxRecDepth 100000 in
set_option maxHeartbeats 4000000 in
theorem r74_0 {x1 x2 : Int}  {M : dsMem} {Q : bQT} (s1 : -2147483648 ≤ ((M 24 5) - 1) ∧ ((M 24 5) - 1) < 2147483648 := by intros; omega) (k1 : (¬ (0 ≤ x1 ∧ x1 ≤ (M 24 5) - 1)) → Q [uI (-2)] M) (s2 : ((0 ≤ x1 ∧ x1 ≤ (M 24 5) - 1)) → ((0 ≤ x2 ∧ x2 ≤ 2)) → (¬ x2 = 0) → (¬ x2 = 1) → 0 ≤ x1 ∧ x1 < 6 := by intros; omega) (k2 : ((0 ≤ x1 ∧ x1 ≤ (M 24 5) - 1)) → ((0 ≤ x2 ∧ x2 ≤ 2)) → (¬ x2 = 0) → (¬ x2 = 1) → Q [uI (M 29 x1)] M) (s3 : ((0 ≤ x1 ∧ x1 ≤ (M 24 5) - 1)) → ((0 ≤ x2 ∧ x2 ≤ 2)) → (¬ x2 = 0) → (x2 = 1) → 0 ≤ x1 ∧ x1 < 6 := by intros; omega) (k3 : ((0 ≤ x1 ∧ x1 ≤ (M 24 5) - 1)) → ((0 ≤ x2 ∧ x2 ≤ 2)) → (¬ x2 = 0) → (x2 = 1) → Q [uI (M 28 x1)] M) (s4 : ((0 ≤ x1 ∧ x1 ≤ (M 24 5) - 1)) → ((0 ≤ x2 ∧ x2 ≤ 2)) → (x2 = 0) → 0 ≤ x1 ∧ x1 < 6 := by intros; omega) (k4 : ((0 ≤ x1 ∧ x1 ≤ (M 24 5) - 1)) → ((0 ≤ x2 ∧ x2 ≤ 2)) → (x2 = 0) → Q [uI (M 27 x1)] M) (k5 : ((0 ≤ x1 ∧ x1 ≤ (M 24 5) - 1)) → (¬ (0 ≤ x2 ∧ x2 ≤ 2)) → Q [uI (-2)] M) :
    bB 74 0 [uR 10 0, uI x1, uI x2] [] M Q := by
  refine b_aload_n (d74 (j := 0) rfl) rfl ?_
  refine b_iload_n (d74 (j := 1) rfl) rfl ?_
  refine b_callV (d74 (j := 2) rfl) rfl rfl (Or.inl rfl) rfl (bCk_mk (n := 0) (k := 2) (by decide +kernel) rfl rfl) (pu151 s1 ?_)
  refine b_stk [uI (if (0 ≤ x1 ∧ x1 ≤ (M 24 5) - 1) then 1 else 0)] rfl ?_
  refine b_ifeqP (d74 (j := 3) rfl) (fun c1 => ?_) (fun c1 => ?_)
  ·
    refine b_bipush (d74 (j := 9) rfl) (by decide) ?_
    exact b_iret (d74 (j := 10) rfl) rfl (k1 c1)
  ·
    refine b_iload_n (d74 (j := 4) rfl) rfl ?_
    refine b_iconst (d74 (j := 5) rfl) (by decide) ?_
    refine b_iconst (d74 (j := 6) rfl) (by decide) ?_
    refine b_callS (d74 (j := 7) rfl) (Or.inl rfl) rfl (bCk_mk (n := 0) (k := 3) (by decide +kernel) rfl rfl) (pu144  ?_)
    refine b_stk [uI (if (0 ≤ x2 ∧ x2 ≤ 2) then 1 else 0)] rfl ?_
    refine b_ifneP (d74 (j := 8) rfl) (fun c2 => ?_) (fun c2 => ?_)
    ·
      refine b_iload_n (d74 (j := 11) rfl) rfl ?_
      refine b_if_ne (d74 (j := 12) rfl) (fun c3 => ?_) (fun c3 => ?_)
      ·
        refine b_iload_n (d74 (j := 19) rfl) rfl ?_
        refine b_iconst (d74 (j := 20) rfl) (by decide) ?_
        refine b_icmp_ne (d74 (j := 21) rfl) (fun c4 => ?_) (fun c4 => ?_)
        ·
          refine b_aload_n (d74 (j := 28) rfl) rfl ?_
          refine b_getR (d74 (j := 29) rfl) rfl rfl rfl rfl ?_
          refine b_stk [uR 4 24] rfl ?_
          refine b_getR (d74 (j := 30) rfl) rfl rfl rfl rfl ?_
          refine b_stk [uR 21 29] rfl ?_
          refine b_iload_n (d74 (j := 31) rfl) rfl ?_
          refine b_iaload (d74 (j := 32) rfl) rfl (s2 c1 c2 c3 c4) ?_
          exact b_iret (d74 (j := 33) rfl) rfl (k2 c1 c2 c3 c4)
        ·
          refine b_aload_n (d74 (j := 22) rfl) rfl ?_
          refine b_getR (d74 (j := 23) rfl) rfl rfl rfl rfl ?_
          refine b_stk [uR 4 24] rfl ?_
          refine b_getR (d74 (j := 24) rfl) rfl rfl rfl rfl ?_
          refine b_stk [uR 21 28] rfl ?_
          refine b_iload_n (d74 (j := 25) rfl) rfl ?_
          refine b_iaload (d74 (j := 26) rfl) rfl (s3 c1 c2 c3 c4) ?_
          refine b_goto (d74 (j := 27) rfl) ?_
          exact b_iret (d74 (j := 33) rfl) rfl (k3 c1 c2 c3 c4)
      ·
        refine b_aload_n (d74 (j := 13) rfl) rfl ?_
        refine b_getR (d74 (j := 14) rfl) rfl rfl rfl rfl ?_
        refine b_stk [uR 4 24] rfl ?_
        refine b_getR (d74 (j := 15) rfl) rfl rfl rfl rfl ?_
        refine b_stk [uR 21 27] rfl ?_
        refine b_iload_n (d74 (j := 16) rfl) rfl ?_
        refine b_iaload (d74 (j := 17) rfl) rfl (s4 c1 c2 c3) ?_
        exact b_iret (d74 (j := 18) rfl) rfl (k4 c1 c2 c3)
    ·
      refine b_bipush (d74 (j := 9) rfl) (by decide) ?_
      exact b_iret (d74 (j := 10) rfl) rfl (k5 c1 c2)
def L75 : List (Nat × Instr × Nat × Nat) := [(0, .iload_n 1, 1, 0), (1, .iconst 0, 2, 0), (2, .aload_n 0, 3, 0), (3, .getfield 23, 6, 0), (6, .getfield 126, 9, 0), (9, .getfield 130, 12, 0), (12, .iconst 1, 13, 0), (13, .isub, 14, 0), (14, .invokestatic 104, 17, 0), (17, .ifCond .eq 12, 20, 29), (20, .iload_n 2, 21, 0), (21, .iconst 0, 22, 0), (22, .iconst 2, 23, 0), (23, .invokestatic 104, 26, 0), (26, .ifCond .ne 6, 29, 32), (29, .bipush (-2), 31, 0), (31, .ireturn, 32, 0), (32, .iload_n 2, 33, 0), (33, .ifCond .ne 16, 36, 49), (36, .aload_n 0, 37, 0), (37, .getfield 23, 40, 0), (40, .getfield 126, 43, 0), (43, .getfield 133, 46, 0), (46, .iload_n 1, 47, 0), (47, .iaload, 48, 0), (48, .ireturn, 49, 0), (49, .iload_n 2, 50, 0), (50, .iconst 1, 51, 0), (51, .if_icmp .ne 18, 54, 69), (54, .aload_n 0, 55, 0), (55, .getfield 23, 58, 0), (58, .getfield 126, 61, 0), (61, .getfield 136, 64, 0), (64, .iload_n 1, 65, 0), (65, .iaload, 66, 0), (66, .goto 15, 69, 81), (69, .aload_n 0, 70, 0), (70, .getfield 23, 73, 0), (73, .getfield 126, 76, 0), (76, .getfield 139, 79, 0), (79, .iload_n 1, 80, 0), (80, .iaload, 81, 0), (81, .ireturn, 82, 0)]
set_option maxRecDepth 100000 in
theorem L75_ok : L75.all (dck 75) = true := by decide +kernel
theorem d75 {j pc nx tg : Nat} {ins : Instr} (hj : L75[j]? = some (pc, ins, nx, tg)) : dcd 75 pc ins nx tg := dcl_ok L75_ok hj
set_option maxRecDepth 100000 in
set_option maxHeartbeats 4000000 in
theorem r75_0 {x1 x2 : Int}  {M : dsMem} {Q : bQT} (s1 : -2147483648 ≤ ((M 30 0) - 1) ∧ ((M 30 0) - 1) < 2147483648 := by intros; omega) (k1 : (¬ (0 ≤ x1 ∧ x1 ≤ ((M 30 0) - 1))) → Q [uI (-2)] M) (s2 : ((0 ≤ x1 ∧ x1 ≤ ((M 30 0) - 1))) → ((0 ≤ x2 ∧ x2 ≤ 2)) → (¬ x2 = 0) → (¬ x2 = 1) → 0 ≤ x1 ∧ x1 < 8 := by intros; omega) (k2 : ((0 ≤ x1 ∧ x1 ≤ ((M 30 0) - 1))) → ((0 ≤ x2 ∧ x2 ≤ 2)) → (¬ x2 = 0) → (¬ x2 = 1) → Q [uI (M 34 x1)] M) (s3 : ((0 ≤ x1 ∧ x1 ≤ ((M 30 0) - 1))) → ((0 ≤ x2 ∧ x2 ≤ 2)) → (¬ x2 = 0) → (x2 = 1) → 0 ≤ x1 ∧ x1 < 8 := by intros; omega) (k3 : ((0 ≤ x1 ∧ x1 ≤ ((M 30 0) - 1))) → ((0 ≤ x2 ∧ x2 ≤ 2)) → (¬ x2 = 0) → (x2 = 1) → Q [uI (M 32 x1)] M) (s4 : ((0 ≤ x1 ∧ x1 ≤ ((M 30 0) - 1))) → ((0 ≤ x2 ∧ x2 ≤ 2)) → (x2 = 0) → 0 ≤ x1 ∧ x1 < 8 := by intros; omega) (k4 : ((0 ≤ x1 ∧ x1 ≤ ((M 30 0) - 1))) → ((0 ≤ x2 ∧ x2 ≤ 2)) → (x2 = 0) → Q [uI (M 33 x1)] M) (k5 : ((0 ≤ x1 ∧ x1 ≤ ((M 30 0) - 1))) → (¬ (0 ≤ x2 ∧ x2 ≤ 2)) → Q [uI (-2)] M) :
    bB 75 0 [uR 10 0, uI x1, uI x2] [] M Q := by
  refine b_iload_n (d75 (j := 0) rfl) rfl ?_
  refine b_iconst (d75 (j := 1) rfl) (by decide) ?_
  refine b_aload_n (d75 (j := 2) rfl) rfl ?_
  refine b_getR (d75 (j := 3) rfl) rfl rfl rfl rfl ?_
  refine b_stk [uR 4 24, uI 0, uI x1] rfl ?_
  refine b_getR (d75 (j := 4) rfl) rfl rfl rfl rfl ?_
  refine b_stk [uR 1 30, uI 0, uI x1] rfl ?_
  refine b_getI (d75 (j := 5) rfl) rfl rfl rfl rfl (Or.inl rfl) ?_
  refine b_stk [uI (M 30 0), uI 0, uI x1] rfl ?_
  refine b_iconst (d75 (j := 6) rfl) (by decide) ?_
  refine b_isub (d75 (j := 7) rfl) rfl rfl ?_
  refine b_stk [uI ((M 30 0) - 1), uI 0, uI x1] (by rw [dsw_r s1]) ?_
  refine b_callS (d75 (j := 8) rfl) (Or.inl rfl) rfl (bCk_mk (n := 0) (k := 3) (by decide +kernel) rfl rfl) (pu144  ?_)
  refine b_stk [uI (if (0 ≤ x1 ∧ x1 ≤ ((M 30 0) - 1)) then 1 else 0)] rfl ?_
  refine b_ifeqP (d75 (j := 9) rfl) (fun c1 => ?_) (fun c1 => ?_)
  ·
    refine b_bipush (d75 (j := 15) rfl) (by decide) ?_
    exact b_iret (d75 (j := 16) rfl) rfl (k1 c1)
  ·
    refine b_iload_n (d75 (j := 10) rfl) rfl ?_
    refine b_iconst (d75 (j := 11) rfl) (by decide) ?_
    refine b_iconst (d75 (j := 12) rfl) (by decide) ?_
    refine b_callS (d75 (j := 13) rfl) (Or.inl rfl) rfl (bCk_mk (n := 0) (k := 3) (by decide +kernel) rfl rfl) (pu144  ?_)
    refine b_stk [uI (if (0 ≤ x2 ∧ x2 ≤ 2) then 1 else 0)] rfl ?_
    refine b_ifneP (d75 (j := 14) rfl) (fun c2 => ?_) (fun c2 => ?_)
    ·
      refine b_iload_n (d75 (j := 17) rfl) rfl ?_
      refine b_if_ne (d75 (j := 18) rfl) (fun c3 => ?_) (fun c3 => ?_)
      ·
        refine b_iload_n (d75 (j := 26) rfl) rfl ?_
        refine b_iconst (d75 (j := 27) rfl) (by decide) ?_
        refine b_icmp_ne (d75 (j := 28) rfl) (fun c4 => ?_) (fun c4 => ?_)
        ·
          refine b_aload_n (d75 (j := 36) rfl) rfl ?_
          refine b_getR (d75 (j := 37) rfl) rfl rfl rfl rfl ?_
          refine b_stk [uR 4 24] rfl ?_
          refine b_getR (d75 (j := 38) rfl) rfl rfl rfl rfl ?_
          refine b_stk [uR 1 30] rfl ?_
          refine b_getR (d75 (j := 39) rfl) rfl rfl rfl rfl ?_
          refine b_stk [uR 20 34] rfl ?_
          refine b_iload_n (d75 (j := 40) rfl) rfl ?_
          refine b_iaload (d75 (j := 41) rfl) rfl (s2 c1 c2 c3 c4) ?_
          exact b_iret (d75 (j := 42) rfl) rfl (k2 c1 c2 c3 c4)
        ·
          refine b_aload_n (d75 (j := 29) rfl) rfl ?_
          refine b_getR (d75 (j := 30) rfl) rfl rfl rfl rfl ?_
          refine b_stk [uR 4 24] rfl ?_
          refine b_getR (d75 (j := 31) rfl) rfl rfl rfl rfl ?_
          refine b_stk [uR 1 30] rfl ?_
          refine b_getR (d75 (j := 32) rfl) rfl rfl rfl rfl ?_
          refine b_stk [uR 20 32] rfl ?_
          refine b_iload_n (d75 (j := 33) rfl) rfl ?_
          refine b_iaload (d75 (j := 34) rfl) rfl (s3 c1 c2 c3 c4) ?_
          refine b_goto (d75 (j := 35) rfl) ?_
          exact b_iret (d75 (j := 42) rfl) rfl (k3 c1 c2 c3 c4)
      ·
        refine b_aload_n (d75 (j := 19) rfl) rfl ?_
        refine b_getR (d75 (j := 20) rfl) rfl rfl rfl rfl ?_
        refine b_stk [uR 4 24] rfl ?_
        refine b_getR (d75 (j := 21) rfl) rfl rfl rfl rfl ?_
        refine b_stk [uR 1 30] rfl ?_
        refine b_getR (d75 (j := 22) rfl) rfl rfl rfl rfl ?_
        refine b_stk [uR 20 33] rfl ?_
        refine b_iload_n (d75 (j := 23) rfl) rfl ?_
        refine b_iaload (d75 (j := 24) rfl) rfl (s4 c1 c2 c3) ?_
        exact b_iret (d75 (j := 25) rfl) rfl (k4 c1 c2 c3)
    ·
      refine b_bipush (d75 (j := 15) rfl) (by decide) ?_
      exact b_iret (d75 (j := 16) rfl) rfl (k5 c1 c2)
def L76 : List (Nat × Instr × Nat × Nat) := [(0, .aload_n 0, 1, 0), (1, .iload_n 1, 2, 0), (2, .invokevirtual 100, 5, 0), (5, .ifCond .ne 6, 8, 11), (8, .bipush (-2), 10, 0), (10, .ireturn, 11, 0), (11, .iconst 0, 12, 0), (12, .istore_n 2, 13, 0), (13, .iconst 0, 14, 0), (14, .istore_n 3, 15, 0), (15, .iload_n 3, 16, 0), (16, .aload_n 0, 17, 0), (17, .getfield 23, 20, 0), (20, .getfield 142, 23, 0), (23, .if_icmp .ge 28, 26, 51), (26, .aload_n 0, 27, 0), (27, .getfield 23, 30, 0), (30, .getfield 123, 33, 0), (33, .iload_n 3, 34, 0), (34, .iaload, 35, 0), (35, .iload_n 1, 36, 0), (36, .if_icmp .ne 9, 39, 45), (39, .iload_n 2, 40, 0), (40, .iconst 1, 41, 0), (41, .iload_n 3, 42, 0), (42, .ishl, 43, 0), (43, .ior, 44, 0), (44, .istore_n 2, 45, 0), (45, .iinc 3 1, 48, 0), (48, .goto (-33), 51, 15), (51, .iload_n 2, 52, 0), (52, .ireturn, 53, 0)]
set_option maxRecDepth 100000 in
theorem L76_ok : L76.all (dck 76) = true := by decide +kernel
theorem d76 {j pc nx tg : Nat} {ins : Instr} (hj : L76[j]? = some (pc, ins, nx, tg)) : dcd 76 pc ins nx tg := dcl_ok L76_ok hj
set_option maxRecDepth 100000 in
set_option maxHeartbeats 4000000 in
theorem r76_0 {x1 : Int}  {M : dsMem} {Q : bQT} (s1 : -2147483648 ≤ ((M 24 4) - 1) ∧ ((M 24 4) - 1) < 2147483648 := by intros; omega) (s2 : ((0 ≤ x1 ∧ x1 ≤ (M 24 4) - 1)) → ∀ i76_1 : Int, ∀ a76_1 : Int, 0 ≤ i76_1 → i76_1 < (M 24 5) → 0 ≤ i76_1 ∧ i76_1 < 6 := by intros; omega) (s3 : ((0 ≤ x1 ∧ x1 ≤ (M 24 4) - 1)) → ∀ i76_1 : Int, ∀ a76_1 : Int, 0 ≤ i76_1 → i76_1 < (M 24 5) → -2147483648 ≤ i76_1 + 1 ∧ i76_1 + 1 < 2147483648 := by intros; omega) (k1 : ((0 ≤ x1 ∧ x1 ≤ (M 24 4) - 1)) → Q [uI (dsIter (fun (i76_1 : Int) (a76_1 : Int) => (if (M 29 i76_1) = x1 then (dsOr a76_1 (dsShl 1 i76_1)) else a76_1)) 0 (M 24 5) 0)] M) (k2 : (¬ (0 ≤ x1 ∧ x1 ≤ (M 24 4) - 1)) → Q [uI (-2)] M) :
    bB 76 0 [uR 10 0, uI x1, uX 0, uX 0] [] M Q := by
  refine b_aload_n (d76 (j := 0) rfl) rfl ?_
  refine b_iload_n (d76 (j := 1) rfl) rfl ?_
  refine b_callV (d76 (j := 2) rfl) rfl rfl (Or.inl rfl) rfl (bCk_mk (n := 0) (k := 2) (by decide +kernel) rfl rfl) (pu150 s1 ?_)
  refine b_stk [uI (if (0 ≤ x1 ∧ x1 ≤ (M 24 4) - 1) then 1 else 0)] rfl ?_
  refine b_ifneP (d76 (j := 3) rfl) (fun c1 => ?_) (fun c1 => ?_)
  ·
    refine b_iconst (d76 (j := 6) rfl) (by decide) ?_
    refine b_istore_n [uR 10 0, uI x1, uI 0, uX 0] (d76 (j := 7) rfl) (by decide) rfl ?_
    refine b_iconst (d76 (j := 8) rfl) (by decide) ?_
    refine b_istore_n [uR 10 0, uI x1, uI 0, uI 0] (d76 (j := 9) rfl) (by decide) rfl ?_
    refine b_for (fun (i76_1 : Int) (a76_1 : Int) => [uR 10 0, uI x1, uI a76_1, uI i76_1]) (fun (i76_1 : Int) (a76_1 : Int) => (if (M 29 i76_1) = x1 then (dsOr a76_1 (dsShl 1 i76_1)) else a76_1)) 0 (M 24 5) 0 (fun i76_1 a76_1 h76_1l h76_1r hk76_1 => ?_) (fun i76_1 h76_1l h76_1r => ?_)
    ·
      refine b_iload_n (d76 (j := 10) rfl) rfl ?_
      refine b_aload_n (d76 (j := 11) rfl) rfl ?_
      refine b_getR (d76 (j := 12) rfl) rfl rfl rfl rfl ?_
      refine b_stk [uR 4 24, uI i76_1] rfl ?_
      refine b_getI (d76 (j := 13) rfl) rfl rfl rfl rfl (Or.inl rfl) ?_
      refine b_stk [uI (M 24 5), uI i76_1] rfl ?_
      refine b_icmp_ge (d76 (j := 14) rfl) (fun c2 => ?_) (fun c2 => ?_)
      · exfalso; omega
      ·
        refine b_aload_n (d76 (j := 15) rfl) rfl ?_
        refine b_getR (d76 (j := 16) rfl) rfl rfl rfl rfl ?_
        refine b_stk [uR 4 24] rfl ?_
        refine b_getR (d76 (j := 17) rfl) rfl rfl rfl rfl ?_
        refine b_stk [uR 21 29] rfl ?_
        refine b_iload_n (d76 (j := 18) rfl) rfl ?_
        refine b_iaload (d76 (j := 19) rfl) rfl (s2 c1 i76_1 a76_1 h76_1l h76_1r) ?_
        refine b_iload_n (d76 (j := 20) rfl) rfl ?_
        refine b_icmp_ne (d76 (j := 21) rfl) (fun c3 => ?_) (fun c3 => ?_)
        ·
          rw [if_neg c3] at hk76_1
          refine b_iinc [uR 10 0, uI x1, uI a76_1, uI (i76_1 + 1)] (d76 (j := 28) rfl) rfl (by decide) (s3 c1 i76_1 a76_1 h76_1l h76_1r) rfl ?_
          refine b_goto (d76 (j := 29) rfl) ?_
          exact hk76_1
        ·
          rw [if_pos c3] at hk76_1
          refine b_iload_n (d76 (j := 22) rfl) rfl ?_
          refine b_iconst (d76 (j := 23) rfl) (by decide) ?_
          refine b_iload_n (d76 (j := 24) rfl) rfl ?_
          refine b_ishl (d76 (j := 25) rfl) ?_
          refine b_ior (d76 (j := 26) rfl) ?_
          refine b_istore_n [uR 10 0, uI x1, uI (dsOr a76_1 (dsShl 1 i76_1)), uI i76_1] (d76 (j := 27) rfl) (by decide) rfl ?_
          refine b_iinc [uR 10 0, uI x1, uI (dsOr a76_1 (dsShl 1 i76_1)), uI (i76_1 + 1)] (d76 (j := 28) rfl) rfl (by decide) (s3 c1 i76_1 a76_1 h76_1l h76_1r) rfl ?_
          refine b_goto (d76 (j := 29) rfl) ?_
          exact hk76_1
    ·
      refine b_iload_n (d76 (j := 10) rfl) rfl ?_
      refine b_aload_n (d76 (j := 11) rfl) rfl ?_
      refine b_getR (d76 (j := 12) rfl) rfl rfl rfl rfl ?_
      refine b_stk [uR 4 24, uI i76_1] rfl ?_
      refine b_getI (d76 (j := 13) rfl) rfl rfl rfl rfl (Or.inl rfl) ?_
      refine b_stk [uI (M 24 5), uI i76_1] rfl ?_
      refine b_icmp_ge (d76 (j := 14) rfl) (fun c4 => ?_) (fun c4 => ?_)
      rotate_left
      · exfalso; omega
      ·
        refine b_iload_n (d76 (j := 30) rfl) rfl ?_
        exact b_iret (d76 (j := 31) rfl) rfl (k1 c1)
  ·
    refine b_bipush (d76 (j := 4) rfl) (by decide) ?_
    exact b_iret (d76 (j := 5) rfl) rfl (k2 c1)
def L77 : List (Nat × Instr × Nat × Nat) := [(0, .aload_n 0, 1, 0), (1, .iload_n 1, 2, 0), (2, .iload_n 2, 3, 0), (3, .invokevirtual 145, 6, 0), (6, .ifCond .eq 19, 9, 25), (9, .aload_n 0, 10, 0), (10, .invokevirtual 149, 13, 0), (13, .getfield 153, 16, 0), (16, .iload_n 1, 17, 0), (17, .iload_n 2, 18, 0), (18, .invokestatic 156, 21, 0), (21, .iaload, 22, 0), (22, .goto 5, 25, 27), (25, .bipush (-2), 27, 0), (27, .ireturn, 28, 0)]
set_option maxRecDepth 100000 in
theorem L77_ok : L77.all (dck 77) = true := by decide +kernel
theorem d77 {j pc nx tg : Nat} {ins : Instr} (hj : L77[j]? = some (pc, ins, nx, tg)) : dcd 77 pc ins nx tg := dcl_ok L77_ok hj
set_option maxRecDepth 100000 in
set_option maxHeartbeats 4000000 in
theorem r77_0 {x1 x2 : Int} {R1 : dsMem → Prop} {M : dsMem} {Q : bQT} (s1 : -2147483648 ≤ ((M 24 5) - 1) ∧ ((M 24 5) - 1) < 2147483648 := by intros; omega) (k1 : (¬ ((0 ≤ x1 ∧ x1 ≤ (M 24 5) - 1) ∧ 0 < (M 24 0) ∧ 0 ≤ x2 ∧ x2 ≤ (M 24 1))) → Q [uI (-2)] M) (hA1 : (((0 ≤ x1 ∧ x1 ≤ (M 24 5) - 1) ∧ 0 < (M 24 0) ∧ 0 ≤ x2 ∧ x2 ≤ (M 24 1))) → bCt 157 [uR 10 0] M (fun _ => [uR 5 47]) R1) (s2 : (((0 ≤ x1 ∧ x1 ≤ (M 24 5) - 1) ∧ 0 < (M 24 0) ∧ 0 ≤ x2 ∧ x2 ≤ (M 24 1))) → ∀ M1 : dsMem, R1 M1 → -2147483648 ≤ ((x2 * 6) + x1) ∧ ((x2 * 6) + x1) < 2147483648 := by intros; omega) (s3 : (((0 ≤ x1 ∧ x1 ≤ (M 24 5) - 1) ∧ 0 < (M 24 0) ∧ 0 ≤ x2 ∧ x2 ≤ (M 24 1))) → ∀ M1 : dsMem, R1 M1 → 0 ≤ ((x2 * 6) + x1) ∧ ((x2 * 6) + x1) < 78 := by intros; omega) (k2 : (((0 ≤ x1 ∧ x1 ≤ (M 24 5) - 1) ∧ 0 < (M 24 0) ∧ 0 ≤ x2 ∧ x2 ≤ (M 24 1))) → ∀ M1 : dsMem, R1 M1 → Q [uI (M1 52 ((x2 * 6) + x1))] M1) :
    bB 77 0 [uR 10 0, uI x1, uI x2] [] M Q := by
  refine b_aload_n (d77 (j := 0) rfl) rfl ?_
  refine b_iload_n (d77 (j := 1) rfl) rfl ?_
  refine b_iload_n (d77 (j := 2) rfl) rfl ?_
  refine b_callV (d77 (j := 3) rfl) rfl rfl (Or.inl rfl) rfl (bCk_mk (n := 0) (k := 3) (by decide +kernel) rfl rfl) (pu154 s1 ?_)
  refine b_stk [uI (if ((0 ≤ x1 ∧ x1 ≤ (M 24 5) - 1) ∧ 0 < (M 24 0) ∧ 0 ≤ x2 ∧ x2 ≤ (M 24 1)) then 1 else 0)] rfl ?_
  refine b_ifeqP (d77 (j := 4) rfl) (fun c1 => ?_) (fun c1 => ?_)
  ·
    refine b_bipush (d77 (j := 13) rfl) (by decide) ?_
    exact b_iret (d77 (j := 14) rfl) rfl (k1 c1)
  ·
    refine b_aload_n (d77 (j := 5) rfl) rfl ?_
    refine b_callV (d77 (j := 6) rfl) rfl rfl (Or.inl rfl) rfl (bCk_mk (n := 0) (k := 1) (by decide +kernel) rfl rfl) ((hA1 c1) _ (fun M1 hR1 => ?_))
    refine b_stk [uR 5 47] rfl ?_
    refine b_getR (d77 (j := 7) rfl) rfl rfl rfl rfl ?_
    refine b_stk [uR 25 52] rfl ?_
    refine b_iload_n (d77 (j := 8) rfl) rfl ?_
    refine b_iload_n (d77 (j := 9) rfl) rfl ?_
    refine b_callS (d77 (j := 10) rfl) (Or.inl rfl) rfl (bCk_mk (n := 1) (k := 2) (by decide +kernel) rfl rfl) (pu146 (s2 c1 M1 hR1) ?_)
    refine b_stk [uI ((x2 * 6) + x1), uR 25 52] rfl ?_
    refine b_iaload (d77 (j := 11) rfl) rfl (s3 c1 M1 hR1) ?_
    refine b_goto (d77 (j := 12) rfl) ?_
    exact b_iret (d77 (j := 14) rfl) rfl (k2 c1 M1 hR1)
def L78 : List (Nat × Instr × Nat × Nat) := [(0, .aload_n 0, 1, 0), (1, .iload_n 1, 2, 0), (2, .iload_n 2, 3, 0), (3, .invokevirtual 145, 6, 0), (6, .ifCond .eq 19, 9, 25), (9, .aload_n 0, 10, 0), (10, .invokevirtual 149, 13, 0), (13, .getfield 160, 16, 0), (16, .iload_n 1, 17, 0), (17, .iload_n 2, 18, 0), (18, .invokestatic 156, 21, 0), (21, .iaload, 22, 0), (22, .goto 5, 25, 27), (25, .bipush (-2), 27, 0), (27, .ireturn, 28, 0)]
set_option maxRecDepth 100000 in
theorem L78_ok : L78.all (dck 78) = true := by decide +kernel
theorem d78 {j pc nx tg : Nat} {ins : Instr} (hj : L78[j]? = some (pc, ins, nx, tg)) : dcd 78 pc ins nx tg := dcl_ok L78_ok hj
set_option maxRecDepth 100000 in
set_option maxHeartbeats 4000000 in
theorem r78_0 {x1 x2 : Int} {R1 : dsMem → Prop} {M : dsMem} {Q : bQT} (s1 : -2147483648 ≤ ((M 24 5) - 1) ∧ ((M 24 5) - 1) < 2147483648 := by intros; omega) (k1 : (¬ ((0 ≤ x1 ∧ x1 ≤ (M 24 5) - 1) ∧ 0 < (M 24 0) ∧ 0 ≤ x2 ∧ x2 ≤ (M 24 1))) → Q [uI (-2)] M) (hA1 : (((0 ≤ x1 ∧ x1 ≤ (M 24 5) - 1) ∧ 0 < (M 24 0) ∧ 0 ≤ x2 ∧ x2 ≤ (M 24 1))) → bCt 157 [uR 10 0] M (fun _ => [uR 5 47]) R1) (s2 : (((0 ≤ x1 ∧ x1 ≤ (M 24 5) - 1) ∧ 0 < (M 24 0) ∧ 0 ≤ x2 ∧ x2 ≤ (M 24 1))) → ∀ M1 : dsMem, R1 M1 → -2147483648 ≤ ((x2 * 6) + x1) ∧ ((x2 * 6) + x1) < 2147483648 := by intros; omega) (s3 : (((0 ≤ x1 ∧ x1 ≤ (M 24 5) - 1) ∧ 0 < (M 24 0) ∧ 0 ≤ x2 ∧ x2 ≤ (M 24 1))) → ∀ M1 : dsMem, R1 M1 → 0 ≤ ((x2 * 6) + x1) ∧ ((x2 * 6) + x1) < 78 := by intros; omega) (k2 : (((0 ≤ x1 ∧ x1 ≤ (M 24 5) - 1) ∧ 0 < (M 24 0) ∧ 0 ≤ x2 ∧ x2 ≤ (M 24 1))) → ∀ M1 : dsMem, R1 M1 → Q [uI (M1 51 ((x2 * 6) + x1))] M1) :
    bB 78 0 [uR 10 0, uI x1, uI x2] [] M Q := by
  refine b_aload_n (d78 (j := 0) rfl) rfl ?_
  refine b_iload_n (d78 (j := 1) rfl) rfl ?_
  refine b_iload_n (d78 (j := 2) rfl) rfl ?_
  refine b_callV (d78 (j := 3) rfl) rfl rfl (Or.inl rfl) rfl (bCk_mk (n := 0) (k := 3) (by decide +kernel) rfl rfl) (pu154 s1 ?_)
  refine b_stk [uI (if ((0 ≤ x1 ∧ x1 ≤ (M 24 5) - 1) ∧ 0 < (M 24 0) ∧ 0 ≤ x2 ∧ x2 ≤ (M 24 1)) then 1 else 0)] rfl ?_
  refine b_ifeqP (d78 (j := 4) rfl) (fun c1 => ?_) (fun c1 => ?_)
  ·
    refine b_bipush (d78 (j := 13) rfl) (by decide) ?_
    exact b_iret (d78 (j := 14) rfl) rfl (k1 c1)
  ·
    refine b_aload_n (d78 (j := 5) rfl) rfl ?_
    refine b_callV (d78 (j := 6) rfl) rfl rfl (Or.inl rfl) rfl (bCk_mk (n := 0) (k := 1) (by decide +kernel) rfl rfl) ((hA1 c1) _ (fun M1 hR1 => ?_))
    refine b_stk [uR 5 47] rfl ?_
    refine b_getR (d78 (j := 7) rfl) rfl rfl rfl rfl ?_
    refine b_stk [uR 25 51] rfl ?_
    refine b_iload_n (d78 (j := 8) rfl) rfl ?_
    refine b_iload_n (d78 (j := 9) rfl) rfl ?_
    refine b_callS (d78 (j := 10) rfl) (Or.inl rfl) rfl (bCk_mk (n := 1) (k := 2) (by decide +kernel) rfl rfl) (pu146 (s2 c1 M1 hR1) ?_)
    refine b_stk [uI ((x2 * 6) + x1), uR 25 51] rfl ?_
    refine b_iaload (d78 (j := 11) rfl) rfl (s3 c1 M1 hR1) ?_
    refine b_goto (d78 (j := 12) rfl) ?_
    exact b_iret (d78 (j := 14) rfl) rfl (k2 c1 M1 hR1)
def L79 : List (Nat × Instr × Nat × Nat) := [(0, .aload_n 0, 1, 0), (1, .iload_n 1, 2, 0), (2, .iload_n 2, 3, 0), (3, .invokevirtual 145, 6, 0), (6, .ifCond .eq 13, 9, 19), (9, .iload 4, 11, 0), (11, .iconst 0, 12, 0), (12, .iconst 1, 13, 0), (13, .invokestatic 104, 16, 0), (16, .ifCond .ne 6, 19, 22), (19, .bipush (-2), 21, 0), (21, .ireturn, 22, 0), (22, .aload_n 0, 23, 0), (23, .invokevirtual 149, 26, 0), (26, .astore 5, 28, 0), (28, .iload_n 1, 29, 0), (29, .iload_n 2, 30, 0), (30, .invokestatic 156, 33, 0), (33, .istore 6, 35, 0), (35, .iload_n 3, 36, 0), (36, .iconst 0, 37, 0), (37, .aload 5, 39, 0), (39, .getfield 160, 42, 0), (42, .iload 6, 44, 0), (44, .iaload, 45, 0), (45, .iconst 1, 46, 0), (46, .isub, 47, 0), (47, .invokestatic 104, 50, 0), (50, .ifCond .ne 5, 53, 55), (53, .iconst (-1), 54, 0), (54, .ireturn, 55, 0), (55, .iload 4, 57, 0), (57, .ifCond .ne 19, 60, 76), (60, .aload 5, 62, 0), (62, .getfield 163, 65, 0), (65, .iload 6, 67, 0), (67, .bipush 60, 69, 0), (69, .imul, 70, 0), (70, .iload_n 3, 71, 0), (71, .iadd, 72, 0), (72, .iaload, 73, 0), (73, .goto 16, 76, 89), (76, .aload 5, 78, 0), (78, .getfield 166, 81, 0), (81, .iload 6, 83, 0), (83, .bipush 60, 85, 0), (85, .imul, 86, 0), (86, .iload_n 3, 87, 0), (87, .iadd, 88, 0), (88, .iaload, 89, 0), (89, .ireturn, 90, 0)]
set_option maxRecDepth 100000 in
theorem L79_ok : L79.all (dck 79) = true := by decide +kernel
theorem d79 {j pc nx tg : Nat} {ins : Instr} (hj : L79[j]? = some (pc, ins, nx, tg)) : dcd 79 pc ins nx tg := dcl_ok L79_ok hj
set_option maxRecDepth 100000 in
set_option maxHeartbeats 4000000 in
theorem r79_0 {x1 x2 x3 x4 : Int} {R1 : dsMem → Prop} {M : dsMem} {Q : bQT} (s1 : -2147483648 ≤ ((M 24 5) - 1) ∧ ((M 24 5) - 1) < 2147483648 := by intros; omega) (k1 : (¬ ((0 ≤ x1 ∧ x1 ≤ (M 24 5) - 1) ∧ 0 < (M 24 0) ∧ 0 ≤ x2 ∧ x2 ≤ (M 24 1))) → Q [uI (-2)] M) (hA1 : (((0 ≤ x1 ∧ x1 ≤ (M 24 5) - 1) ∧ 0 < (M 24 0) ∧ 0 ≤ x2 ∧ x2 ≤ (M 24 1))) → ((0 ≤ x4 ∧ x4 ≤ 1)) → bCt 157 [uR 10 0] M (fun _ => [uR 5 47]) R1) (s2 : (((0 ≤ x1 ∧ x1 ≤ (M 24 5) - 1) ∧ 0 < (M 24 0) ∧ 0 ≤ x2 ∧ x2 ≤ (M 24 1))) → ((0 ≤ x4 ∧ x4 ≤ 1)) → ∀ M1 : dsMem, R1 M1 → -2147483648 ≤ ((x2 * 6) + x1) ∧ ((x2 * 6) + x1) < 2147483648 := by intros; omega) (s3 : (((0 ≤ x1 ∧ x1 ≤ (M 24 5) - 1) ∧ 0 < (M 24 0) ∧ 0 ≤ x2 ∧ x2 ≤ (M 24 1))) → ((0 ≤ x4 ∧ x4 ≤ 1)) → ∀ M1 : dsMem, R1 M1 → 0 ≤ ((x2 * 6) + x1) ∧ ((x2 * 6) + x1) < 78 := by intros; omega) (s4 : (((0 ≤ x1 ∧ x1 ≤ (M 24 5) - 1) ∧ 0 < (M 24 0) ∧ 0 ≤ x2 ∧ x2 ≤ (M 24 1))) → ((0 ≤ x4 ∧ x4 ≤ 1)) → ∀ M1 : dsMem, R1 M1 → -2147483648 ≤ ((M1 51 ((x2 * 6) + x1)) - 1) ∧ ((M1 51 ((x2 * 6) + x1)) - 1) < 2147483648 := by intros; omega) (s5 : (((0 ≤ x1 ∧ x1 ≤ (M 24 5) - 1) ∧ 0 < (M 24 0) ∧ 0 ≤ x2 ∧ x2 ≤ (M 24 1))) → ((0 ≤ x4 ∧ x4 ≤ 1)) → ∀ M1 : dsMem, R1 M1 → ((0 ≤ x3 ∧ x3 ≤ ((M1 51 ((x2 * 6) + x1)) - 1))) → (¬ x4 = 0) → 0 ≤ ((((x2 * 6) + x1) * 60) + x3) ∧ ((((x2 * 6) + x1) * 60) + x3) < 4680 := by intros; omega) (k2 : (((0 ≤ x1 ∧ x1 ≤ (M 24 5) - 1) ∧ 0 < (M 24 0) ∧ 0 ≤ x2 ∧ x2 ≤ (M 24 1))) → ((0 ≤ x4 ∧ x4 ≤ 1)) → ∀ M1 : dsMem, R1 M1 → ((0 ≤ x3 ∧ x3 ≤ ((M1 51 ((x2 * 6) + x1)) - 1))) → (¬ x4 = 0) → Q [uI (M1 50 ((((x2 * 6) + x1) * 60) + x3))] M1) (s6 : (((0 ≤ x1 ∧ x1 ≤ (M 24 5) - 1) ∧ 0 < (M 24 0) ∧ 0 ≤ x2 ∧ x2 ≤ (M 24 1))) → ((0 ≤ x4 ∧ x4 ≤ 1)) → ∀ M1 : dsMem, R1 M1 → ((0 ≤ x3 ∧ x3 ≤ ((M1 51 ((x2 * 6) + x1)) - 1))) → (x4 = 0) → 0 ≤ ((((x2 * 6) + x1) * 60) + x3) ∧ ((((x2 * 6) + x1) * 60) + x3) < 4680 := by intros; omega) (k3 : (((0 ≤ x1 ∧ x1 ≤ (M 24 5) - 1) ∧ 0 < (M 24 0) ∧ 0 ≤ x2 ∧ x2 ≤ (M 24 1))) → ((0 ≤ x4 ∧ x4 ≤ 1)) → ∀ M1 : dsMem, R1 M1 → ((0 ≤ x3 ∧ x3 ≤ ((M1 51 ((x2 * 6) + x1)) - 1))) → (x4 = 0) → Q [uI (M1 49 ((((x2 * 6) + x1) * 60) + x3))] M1) (k4 : (((0 ≤ x1 ∧ x1 ≤ (M 24 5) - 1) ∧ 0 < (M 24 0) ∧ 0 ≤ x2 ∧ x2 ≤ (M 24 1))) → ((0 ≤ x4 ∧ x4 ≤ 1)) → ∀ M1 : dsMem, R1 M1 → (¬ (0 ≤ x3 ∧ x3 ≤ ((M1 51 ((x2 * 6) + x1)) - 1))) → Q [uI (-1)] M1) (k5 : (((0 ≤ x1 ∧ x1 ≤ (M 24 5) - 1) ∧ 0 < (M 24 0) ∧ 0 ≤ x2 ∧ x2 ≤ (M 24 1))) → (¬ (0 ≤ x4 ∧ x4 ≤ 1)) → Q [uI (-2)] M) :
    bB 79 0 [uR 10 0, uI x1, uI x2, uI x3, uI x4, uX 0, uX 0] [] M Q := by
  refine b_aload_n (d79 (j := 0) rfl) rfl ?_
  refine b_iload_n (d79 (j := 1) rfl) rfl ?_
  refine b_iload_n (d79 (j := 2) rfl) rfl ?_
  refine b_callV (d79 (j := 3) rfl) rfl rfl (Or.inl rfl) rfl (bCk_mk (n := 0) (k := 3) (by decide +kernel) rfl rfl) (pu154 s1 ?_)
  refine b_stk [uI (if ((0 ≤ x1 ∧ x1 ≤ (M 24 5) - 1) ∧ 0 < (M 24 0) ∧ 0 ≤ x2 ∧ x2 ≤ (M 24 1)) then 1 else 0)] rfl ?_
  refine b_ifeqP (d79 (j := 4) rfl) (fun c1 => ?_) (fun c1 => ?_)
  ·
    refine b_bipush (d79 (j := 10) rfl) (by decide) ?_
    exact b_iret (d79 (j := 11) rfl) rfl (k1 c1)
  ·
    refine b_iload (d79 (j := 5) rfl) rfl ?_
    refine b_iconst (d79 (j := 6) rfl) (by decide) ?_
    refine b_iconst (d79 (j := 7) rfl) (by decide) ?_
    refine b_callS (d79 (j := 8) rfl) (Or.inl rfl) rfl (bCk_mk (n := 0) (k := 3) (by decide +kernel) rfl rfl) (pu144  ?_)
    refine b_stk [uI (if (0 ≤ x4 ∧ x4 ≤ 1) then 1 else 0)] rfl ?_
    refine b_ifneP (d79 (j := 9) rfl) (fun c2 => ?_) (fun c2 => ?_)
    ·
      refine b_aload_n (d79 (j := 12) rfl) rfl ?_
      refine b_callV (d79 (j := 13) rfl) rfl rfl (Or.inl rfl) rfl (bCk_mk (n := 0) (k := 1) (by decide +kernel) rfl rfl) ((hA1 c1 c2) _ (fun M1 hR1 => ?_))
      refine b_stk [uR 5 47] rfl ?_
      refine b_astore [uR 10 0, uI x1, uI x2, uI x3, uI x4, uR 5 47, uX 0] (d79 (j := 14) rfl) (by decide) rfl ?_
      refine b_iload_n (d79 (j := 15) rfl) rfl ?_
      refine b_iload_n (d79 (j := 16) rfl) rfl ?_
      refine b_callS (d79 (j := 17) rfl) (Or.inl rfl) rfl (bCk_mk (n := 0) (k := 2) (by decide +kernel) rfl rfl) (pu146 (s2 c1 c2 M1 hR1) ?_)
      refine b_stk [uI ((x2 * 6) + x1)] rfl ?_
      refine b_istore [uR 10 0, uI x1, uI x2, uI x3, uI x4, uR 5 47, uI ((x2 * 6) + x1)] (d79 (j := 18) rfl) (by decide) rfl ?_
      refine b_iload_n (d79 (j := 19) rfl) rfl ?_
      refine b_iconst (d79 (j := 20) rfl) (by decide) ?_
      refine b_aload (d79 (j := 21) rfl) rfl ?_
      refine b_getR (d79 (j := 22) rfl) rfl rfl rfl rfl ?_
      refine b_stk [uR 25 51, uI 0, uI x3] rfl ?_
      refine b_iload (d79 (j := 23) rfl) rfl ?_
      refine b_iaload (d79 (j := 24) rfl) rfl (s3 c1 c2 M1 hR1) ?_
      refine b_iconst (d79 (j := 25) rfl) (by decide) ?_
      refine b_isub (d79 (j := 26) rfl) rfl rfl ?_
      refine b_stk [uI ((M1 51 ((x2 * 6) + x1)) - 1), uI 0, uI x3] (by rw [dsw_r (s4 c1 c2 M1 hR1)]) ?_
      refine b_callS (d79 (j := 27) rfl) (Or.inl rfl) rfl (bCk_mk (n := 0) (k := 3) (by decide +kernel) rfl rfl) (pu144  ?_)
      refine b_stk [uI (if (0 ≤ x3 ∧ x3 ≤ ((M1 51 ((x2 * 6) + x1)) - 1)) then 1 else 0)] rfl ?_
      refine b_ifneP (d79 (j := 28) rfl) (fun c3 => ?_) (fun c3 => ?_)
      ·
        refine b_iload (d79 (j := 31) rfl) rfl ?_
        refine b_if_ne (d79 (j := 32) rfl) (fun c4 => ?_) (fun c4 => ?_)
        ·
          refine b_aload (d79 (j := 42) rfl) rfl ?_
          refine b_getR (d79 (j := 43) rfl) rfl rfl rfl rfl ?_
          refine b_stk [uR 24 50] rfl ?_
          refine b_iload (d79 (j := 44) rfl) rfl ?_
          refine b_bipush (d79 (j := 45) rfl) (by decide) ?_
          refine b_imul (d79 (j := 46) rfl) rfl rfl ?_
          refine b_iload_n (d79 (j := 47) rfl) rfl ?_
          refine b_iadd (d79 (j := 48) rfl) (dsw_dsw _) rfl ?_
          refine b_stk [uI ((((x2 * 6) + x1) * 60) + x3), uR 24 50] (by rw [dsw_b (s5 c1 c2 M1 hR1 c3 c4) (by decide)]) ?_
          refine b_iaload (d79 (j := 49) rfl) rfl (s5 c1 c2 M1 hR1 c3 c4) ?_
          exact b_iret (d79 (j := 50) rfl) rfl (k2 c1 c2 M1 hR1 c3 c4)
        ·
          refine b_aload (d79 (j := 33) rfl) rfl ?_
          refine b_getR (d79 (j := 34) rfl) rfl rfl rfl rfl ?_
          refine b_stk [uR 24 49] rfl ?_
          refine b_iload (d79 (j := 35) rfl) rfl ?_
          refine b_bipush (d79 (j := 36) rfl) (by decide) ?_
          refine b_imul (d79 (j := 37) rfl) rfl rfl ?_
          refine b_iload_n (d79 (j := 38) rfl) rfl ?_
          refine b_iadd (d79 (j := 39) rfl) (dsw_dsw _) rfl ?_
          refine b_stk [uI ((((x2 * 6) + x1) * 60) + x3), uR 24 49] (by rw [dsw_b (s6 c1 c2 M1 hR1 c3 c4) (by decide)]) ?_
          refine b_iaload (d79 (j := 40) rfl) rfl (s6 c1 c2 M1 hR1 c3 c4) ?_
          refine b_goto (d79 (j := 41) rfl) ?_
          exact b_iret (d79 (j := 50) rfl) rfl (k3 c1 c2 M1 hR1 c3 c4)
      ·
        refine b_iconst (d79 (j := 29) rfl) (by decide) ?_
        exact b_iret (d79 (j := 30) rfl) rfl (k4 c1 c2 M1 hR1 c3)
    ·
      refine b_bipush (d79 (j := 10) rfl) (by decide) ?_
      exact b_iret (d79 (j := 11) rfl) rfl (k5 c1 c2)
def L80 : List (Nat × Instr × Nat × Nat) := [(0, .aload_n 0, 1, 0), (1, .iload_n 1, 2, 0), (2, .iload_n 2, 3, 0), (3, .invokevirtual 145, 6, 0), (6, .ifCond .eq 10, 9, 16), (9, .iload_n 3, 10, 0), (10, .invokestatic 169, 13, 0), (13, .ifCond .ne 6, 16, 19), (16, .bipush (-2), 18, 0), (18, .ireturn, 19, 0), (19, .aload_n 0, 20, 0), (20, .invokevirtual 149, 23, 0), (23, .iload_n 1, 24, 0), (24, .iload_n 2, 25, 0), (25, .invokestatic 156, 28, 0), (28, .iload_n 3, 29, 0), (29, .invokevirtual 172, 32, 0), (32, .ireturn, 33, 0)]
set_option maxRecDepth 100000 in
theorem L80_ok : L80.all (dck 80) = true := by decide +kernel
theorem d80 {j pc nx tg : Nat} {ins : Instr} (hj : L80[j]? = some (pc, ins, nx, tg)) : dcd 80 pc ins nx tg := dcl_ok L80_ok hj
set_option maxRecDepth 100000 in
set_option maxHeartbeats 4000000 in
theorem r80_0 {x1 x2 x3 : Int} {R1 : dsMem → Prop} {M : dsMem} {Q : bQT} (s1 : -2147483648 ≤ ((M 24 5) - 1) ∧ ((M 24 5) - 1) < 2147483648 := by intros; omega) (k1 : (¬ ((0 ≤ x1 ∧ x1 ≤ (M 24 5) - 1) ∧ 0 < (M 24 0) ∧ 0 ≤ x2 ∧ x2 ≤ (M 24 1))) → Q [uI (-2)] M) (hA1 : (((0 ≤ x1 ∧ x1 ≤ (M 24 5) - 1) ∧ 0 < (M 24 0) ∧ 0 ≤ x2 ∧ x2 ≤ (M 24 1))) → ((1 ≤ x3 ∧ x3 ≤ 5)) → bCt 157 [uR 10 0] M (fun _ => [uR 5 47]) R1) (s2 : (((0 ≤ x1 ∧ x1 ≤ (M 24 5) - 1) ∧ 0 < (M 24 0) ∧ 0 ≤ x2 ∧ x2 ≤ (M 24 1))) → ((1 ≤ x3 ∧ x3 ≤ 5)) → ∀ M1 : dsMem, R1 M1 → -2147483648 ≤ ((x2 * 6) + x1) ∧ ((x2 * 6) + x1) < 2147483648 := by intros; omega) (s3 : (((0 ≤ x1 ∧ x1 ≤ (M 24 5) - 1) ∧ 0 < (M 24 0) ∧ 0 ≤ x2 ∧ x2 ≤ (M 24 1))) → ((1 ≤ x3 ∧ x3 ≤ 5)) → ∀ M1 : dsMem, R1 M1 → ∀ i25_1 : Int, ∀ a25_1 : Int, 0 ≤ i25_1 → i25_1 < (M1 51 ((x2 * 6) + x1)) → 0 ≤ ((x2 * 6) + x1) ∧ ((x2 * 6) + x1) < 78 := by intros; omega) (s4 : (((0 ≤ x1 ∧ x1 ≤ (M 24 5) - 1) ∧ 0 < (M 24 0) ∧ 0 ≤ x2 ∧ x2 ≤ (M 24 1))) → ((1 ≤ x3 ∧ x3 ≤ 5)) → ∀ M1 : dsMem, R1 M1 → ∀ i25_1 : Int, ∀ a25_1 : Int, 0 ≤ i25_1 → i25_1 < (M1 51 ((x2 * 6) + x1)) → 0 ≤ ((((x2 * 6) + x1) * 60) + i25_1) ∧ ((((x2 * 6) + x1) * 60) + i25_1) < 4680 := by intros; omega) (s5 : (((0 ≤ x1 ∧ x1 ≤ (M 24 5) - 1) ∧ 0 < (M 24 0) ∧ 0 ≤ x2 ∧ x2 ≤ (M 24 1))) → ((1 ≤ x3 ∧ x3 ≤ 5)) → ∀ M1 : dsMem, R1 M1 → ∀ i25_1 : Int, ∀ a25_1 : Int, 0 ≤ i25_1 → i25_1 < (M1 51 ((x2 * 6) + x1)) → -2147483648 ≤ i25_1 + 1 ∧ i25_1 + 1 < 2147483648 := by intros; omega) (s6 : (((0 ≤ x1 ∧ x1 ≤ (M 24 5) - 1) ∧ 0 < (M 24 0) ∧ 0 ≤ x2 ∧ x2 ≤ (M 24 1))) → ((1 ≤ x3 ∧ x3 ≤ 5)) → ∀ M1 : dsMem, R1 M1 → 0 ≤ ((x2 * 6) + x1) ∧ ((x2 * 6) + x1) < 78 := by intros; omega) (k2 : (((0 ≤ x1 ∧ x1 ≤ (M 24 5) - 1) ∧ 0 < (M 24 0) ∧ 0 ≤ x2 ∧ x2 ≤ (M 24 1))) → ((1 ≤ x3 ∧ x3 ≤ 5)) → ∀ M1 : dsMem, R1 M1 → Q [uI (v25 M1 47 ((x2 * 6) + x1) x3)] M1) (k3 : (((0 ≤ x1 ∧ x1 ≤ (M 24 5) - 1) ∧ 0 < (M 24 0) ∧ 0 ≤ x2 ∧ x2 ≤ (M 24 1))) → (¬ (1 ≤ x3 ∧ x3 ≤ 5)) → Q [uI (-2)] M) :
    bB 80 0 [uR 10 0, uI x1, uI x2, uI x3] [] M Q := by
  refine b_aload_n (d80 (j := 0) rfl) rfl ?_
  refine b_iload_n (d80 (j := 1) rfl) rfl ?_
  refine b_iload_n (d80 (j := 2) rfl) rfl ?_
  refine b_callV (d80 (j := 3) rfl) rfl rfl (Or.inl rfl) rfl (bCk_mk (n := 0) (k := 3) (by decide +kernel) rfl rfl) (pu154 s1 ?_)
  refine b_stk [uI (if ((0 ≤ x1 ∧ x1 ≤ (M 24 5) - 1) ∧ 0 < (M 24 0) ∧ 0 ≤ x2 ∧ x2 ≤ (M 24 1)) then 1 else 0)] rfl ?_
  refine b_ifeqP (d80 (j := 4) rfl) (fun c1 => ?_) (fun c1 => ?_)
  ·
    refine b_bipush (d80 (j := 8) rfl) (by decide) ?_
    exact b_iret (d80 (j := 9) rfl) rfl (k1 c1)
  ·
    refine b_iload_n (d80 (j := 5) rfl) rfl ?_
    refine b_callS (d80 (j := 6) rfl) (Or.inl rfl) rfl (bCk_mk (n := 0) (k := 1) (by decide +kernel) rfl rfl) (pu147  ?_)
    refine b_stk [uI (if (1 ≤ x3 ∧ x3 ≤ 5) then 1 else 0)] rfl ?_
    refine b_ifneP (d80 (j := 7) rfl) (fun c2 => ?_) (fun c2 => ?_)
    ·
      refine b_aload_n (d80 (j := 10) rfl) rfl ?_
      refine b_callV (d80 (j := 11) rfl) rfl rfl (Or.inl rfl) rfl (bCk_mk (n := 0) (k := 1) (by decide +kernel) rfl rfl) ((hA1 c1 c2) _ (fun M1 hR1 => ?_))
      refine b_stk [uR 5 47] rfl ?_
      refine b_iload_n (d80 (j := 12) rfl) rfl ?_
      refine b_iload_n (d80 (j := 13) rfl) rfl ?_
      refine b_callS (d80 (j := 14) rfl) (Or.inl rfl) rfl (bCk_mk (n := 1) (k := 2) (by decide +kernel) rfl rfl) (pu146 (s2 c1 c2 M1 hR1) ?_)
      refine b_stk [uI ((x2 * 6) + x1), uR 5 47] rfl ?_
      refine b_iload_n (d80 (j := 15) rfl) rfl ?_
      refine b_callV (d80 (j := 16) rfl) rfl rfl (Or.inl rfl) rfl (bCk_mk (n := 0) (k := 3) (by decide +kernel) rfl rfl) (fx25 (s3 c1 c2 M1 hR1) (s4 c1 c2 M1 hR1) (s5 c1 c2 M1 hR1) (s6 c1 c2 M1 hR1) ?_)
      refine b_stk [uI (v25 M1 47 ((x2 * 6) + x1) x3)] rfl ?_
      exact b_iret (d80 (j := 17) rfl) rfl (k2 c1 c2 M1 hR1)
    ·
      refine b_bipush (d80 (j := 8) rfl) (by decide) ?_
      exact b_iret (d80 (j := 9) rfl) rfl (k3 c1 c2)
def L81 : List (Nat × Instr × Nat × Nat) := [(0, .aload_n 0, 1, 0), (1, .iload_n 1, 2, 0), (2, .iload_n 2, 3, 0), (3, .invokevirtual 145, 6, 0), (6, .ifCond .ne 6, 9, 12), (9, .bipush (-2), 11, 0), (11, .ireturn, 12, 0), (12, .aload_n 0, 13, 0), (13, .invokevirtual 149, 16, 0), (16, .astore_n 3, 17, 0), (17, .iload_n 1, 18, 0), (18, .iload_n 2, 19, 0), (19, .invokestatic 156, 22, 0), (22, .istore 4, 24, 0), (24, .aload_n 3, 25, 0), (25, .getfield 160, 28, 0), (28, .iload 4, 30, 0), (30, .iaload, 31, 0), (31, .istore 5, 33, 0), (33, .iload 5, 35, 0), (35, .ifCond .ne 7, 38, 42), (38, .iconst 0, 39, 0), (39, .goto 18, 42, 57), (42, .aload_n 3, 43, 0), (43, .getfield 163, 46, 0), (46, .iload 4, 48, 0), (48, .bipush 60, 50, 0), (50, .imul, 51, 0), (51, .iload 5, 53, 0), (53, .iadd, 54, 0), (54, .iconst 1, 55, 0), (55, .isub, 56, 0), (56, .iaload, 57, 0), (57, .ireturn, 58, 0)]
set_option maxRecDepth 100000 in
theorem L81_ok : L81.all (dck 81) = true := by decide +kernel
theorem d81 {j pc nx tg : Nat} {ins : Instr} (hj : L81[j]? = some (pc, ins, nx, tg)) : dcd 81 pc ins nx tg := dcl_ok L81_ok hj
set_option maxRecDepth 100000 in
set_option maxHeartbeats 4000000 in
theorem r81_0 {x1 x2 : Int} {R1 : dsMem → Prop} {M : dsMem} {Q : bQT} (s1 : -2147483648 ≤ ((M 24 5) - 1) ∧ ((M 24 5) - 1) < 2147483648 := by intros; omega) (hA1 : (((0 ≤ x1 ∧ x1 ≤ (M 24 5) - 1) ∧ 0 < (M 24 0) ∧ 0 ≤ x2 ∧ x2 ≤ (M 24 1))) → bCt 157 [uR 10 0] M (fun _ => [uR 5 47]) R1) (s2 : (((0 ≤ x1 ∧ x1 ≤ (M 24 5) - 1) ∧ 0 < (M 24 0) ∧ 0 ≤ x2 ∧ x2 ≤ (M 24 1))) → ∀ M1 : dsMem, R1 M1 → -2147483648 ≤ ((x2 * 6) + x1) ∧ ((x2 * 6) + x1) < 2147483648 := by intros; omega) (s3 : (((0 ≤ x1 ∧ x1 ≤ (M 24 5) - 1) ∧ 0 < (M 24 0) ∧ 0 ≤ x2 ∧ x2 ≤ (M 24 1))) → ∀ M1 : dsMem, R1 M1 → 0 ≤ ((x2 * 6) + x1) ∧ ((x2 * 6) + x1) < 78 := by intros; omega) (s4 : (((0 ≤ x1 ∧ x1 ≤ (M 24 5) - 1) ∧ 0 < (M 24 0) ∧ 0 ≤ x2 ∧ x2 ≤ (M 24 1))) → ∀ M1 : dsMem, R1 M1 → (¬ (M1 51 ((x2 * 6) + x1)) = 0) → 0 ≤ (((((x2 * 6) + x1) * 60) + (M1 51 ((x2 * 6) + x1))) - 1) ∧ (((((x2 * 6) + x1) * 60) + (M1 51 ((x2 * 6) + x1))) - 1) < 4680 := by intros; omega) (k1 : (((0 ≤ x1 ∧ x1 ≤ (M 24 5) - 1) ∧ 0 < (M 24 0) ∧ 0 ≤ x2 ∧ x2 ≤ (M 24 1))) → ∀ M1 : dsMem, R1 M1 → (¬ (M1 51 ((x2 * 6) + x1)) = 0) → Q [uI (M1 49 (((((x2 * 6) + x1) * 60) + (M1 51 ((x2 * 6) + x1))) - 1))] M1) (k2 : (((0 ≤ x1 ∧ x1 ≤ (M 24 5) - 1) ∧ 0 < (M 24 0) ∧ 0 ≤ x2 ∧ x2 ≤ (M 24 1))) → ∀ M1 : dsMem, R1 M1 → ((M1 51 ((x2 * 6) + x1)) = 0) → Q [uI 0] M1) (k3 : (¬ ((0 ≤ x1 ∧ x1 ≤ (M 24 5) - 1) ∧ 0 < (M 24 0) ∧ 0 ≤ x2 ∧ x2 ≤ (M 24 1))) → Q [uI (-2)] M) :
    bB 81 0 [uR 10 0, uI x1, uI x2, uX 0, uX 0, uX 0] [] M Q := by
  refine b_aload_n (d81 (j := 0) rfl) rfl ?_
  refine b_iload_n (d81 (j := 1) rfl) rfl ?_
  refine b_iload_n (d81 (j := 2) rfl) rfl ?_
  refine b_callV (d81 (j := 3) rfl) rfl rfl (Or.inl rfl) rfl (bCk_mk (n := 0) (k := 3) (by decide +kernel) rfl rfl) (pu154 s1 ?_)
  refine b_stk [uI (if ((0 ≤ x1 ∧ x1 ≤ (M 24 5) - 1) ∧ 0 < (M 24 0) ∧ 0 ≤ x2 ∧ x2 ≤ (M 24 1)) then 1 else 0)] rfl ?_
  refine b_ifneP (d81 (j := 4) rfl) (fun c1 => ?_) (fun c1 => ?_)
  ·
    refine b_aload_n (d81 (j := 7) rfl) rfl ?_
    refine b_callV (d81 (j := 8) rfl) rfl rfl (Or.inl rfl) rfl (bCk_mk (n := 0) (k := 1) (by decide +kernel) rfl rfl) ((hA1 c1) _ (fun M1 hR1 => ?_))
    refine b_stk [uR 5 47] rfl ?_
    refine b_astore_n [uR 10 0, uI x1, uI x2, uR 5 47, uX 0, uX 0] (d81 (j := 9) rfl) (by decide) rfl ?_
    refine b_iload_n (d81 (j := 10) rfl) rfl ?_
    refine b_iload_n (d81 (j := 11) rfl) rfl ?_
    refine b_callS (d81 (j := 12) rfl) (Or.inl rfl) rfl (bCk_mk (n := 0) (k := 2) (by decide +kernel) rfl rfl) (pu146 (s2 c1 M1 hR1) ?_)
    refine b_stk [uI ((x2 * 6) + x1)] rfl ?_
    refine b_istore [uR 10 0, uI x1, uI x2, uR 5 47, uI ((x2 * 6) + x1), uX 0] (d81 (j := 13) rfl) (by decide) rfl ?_
    refine b_aload_n (d81 (j := 14) rfl) rfl ?_
    refine b_getR (d81 (j := 15) rfl) rfl rfl rfl rfl ?_
    refine b_stk [uR 25 51] rfl ?_
    refine b_iload (d81 (j := 16) rfl) rfl ?_
    refine b_iaload (d81 (j := 17) rfl) rfl (s3 c1 M1 hR1) ?_
    refine b_istore [uR 10 0, uI x1, uI x2, uR 5 47, uI ((x2 * 6) + x1), uI (M1 51 ((x2 * 6) + x1))] (d81 (j := 18) rfl) (by decide) rfl ?_
    refine b_iload (d81 (j := 19) rfl) rfl ?_
    refine b_if_ne (d81 (j := 20) rfl) (fun c2 => ?_) (fun c2 => ?_)
    ·
      refine b_aload_n (d81 (j := 23) rfl) rfl ?_
      refine b_getR (d81 (j := 24) rfl) rfl rfl rfl rfl ?_
      refine b_stk [uR 24 49] rfl ?_
      refine b_iload (d81 (j := 25) rfl) rfl ?_
      refine b_bipush (d81 (j := 26) rfl) (by decide) ?_
      refine b_imul (d81 (j := 27) rfl) rfl rfl ?_
      refine b_iload (d81 (j := 28) rfl) rfl ?_
      refine b_iadd (d81 (j := 29) rfl) (dsw_dsw _) rfl ?_
      refine b_iconst (d81 (j := 30) rfl) (by decide) ?_
      refine b_isub (d81 (j := 31) rfl) (dsw_dsw _) rfl ?_
      refine b_stk [uI (((((x2 * 6) + x1) * 60) + (M1 51 ((x2 * 6) + x1))) - 1), uR 24 49] (by rw [dsw_b (s4 c1 M1 hR1 c2) (by decide)]) ?_
      refine b_iaload (d81 (j := 32) rfl) rfl (s4 c1 M1 hR1 c2) ?_
      exact b_iret (d81 (j := 33) rfl) rfl (k1 c1 M1 hR1 c2)
    ·
      refine b_iconst (d81 (j := 21) rfl) (by decide) ?_
      refine b_goto (d81 (j := 22) rfl) ?_
      exact b_iret (d81 (j := 33) rfl) rfl (k2 c1 M1 hR1 c2)
  ·
    refine b_bipush (d81 (j := 5) rfl) (by decide) ?_
    exact b_iret (d81 (j := 6) rfl) rfl (k3 c1)
def L82 : List (Nat × Instr × Nat × Nat) := [(0, .aload_n 0, 1, 0), (1, .iload_n 1, 2, 0), (2, .iload_n 2, 3, 0), (3, .invokevirtual 145, 6, 0), (6, .ifCond .ne 6, 9, 12), (9, .bipush (-2), 11, 0), (11, .ireturn, 12, 0), (12, .aload_n 0, 13, 0), (13, .invokevirtual 149, 16, 0), (16, .astore_n 3, 17, 0), (17, .iload_n 1, 18, 0), (18, .iload_n 2, 19, 0), (19, .invokestatic 156, 22, 0), (22, .istore 4, 24, 0), (24, .aload_n 3, 25, 0), (25, .getfield 160, 28, 0), (28, .iload 4, 30, 0), (30, .iaload, 31, 0), (31, .ifCond .ne 7, 34, 38), (34, .iconst 0, 35, 0), (35, .goto 13, 38, 48), (38, .aload_n 3, 39, 0), (39, .getfield 163, 42, 0), (42, .iload 4, 44, 0), (44, .bipush 60, 46, 0), (46, .imul, 47, 0), (47, .iaload, 48, 0), (48, .ireturn, 49, 0)]
set_option maxRecDepth 100000 in
theorem L82_ok : L82.all (dck 82) = true := by decide +kernel
theorem d82 {j pc nx tg : Nat} {ins : Instr} (hj : L82[j]? = some (pc, ins, nx, tg)) : dcd 82 pc ins nx tg := dcl_ok L82_ok hj
set_option maxRecDepth 100000 in
set_option maxHeartbeats 4000000 in
theorem r82_0 {x1 x2 : Int} {R1 : dsMem → Prop} {M : dsMem} {Q : bQT} (s1 : -2147483648 ≤ ((M 24 5) - 1) ∧ ((M 24 5) - 1) < 2147483648 := by intros; omega) (hA1 : (((0 ≤ x1 ∧ x1 ≤ (M 24 5) - 1) ∧ 0 < (M 24 0) ∧ 0 ≤ x2 ∧ x2 ≤ (M 24 1))) → bCt 157 [uR 10 0] M (fun _ => [uR 5 47]) R1) (s2 : (((0 ≤ x1 ∧ x1 ≤ (M 24 5) - 1) ∧ 0 < (M 24 0) ∧ 0 ≤ x2 ∧ x2 ≤ (M 24 1))) → ∀ M1 : dsMem, R1 M1 → -2147483648 ≤ ((x2 * 6) + x1) ∧ ((x2 * 6) + x1) < 2147483648 := by intros; omega) (s3 : (((0 ≤ x1 ∧ x1 ≤ (M 24 5) - 1) ∧ 0 < (M 24 0) ∧ 0 ≤ x2 ∧ x2 ≤ (M 24 1))) → ∀ M1 : dsMem, R1 M1 → 0 ≤ ((x2 * 6) + x1) ∧ ((x2 * 6) + x1) < 78 := by intros; omega) (s4 : (((0 ≤ x1 ∧ x1 ≤ (M 24 5) - 1) ∧ 0 < (M 24 0) ∧ 0 ≤ x2 ∧ x2 ≤ (M 24 1))) → ∀ M1 : dsMem, R1 M1 → (¬ (M1 51 ((x2 * 6) + x1)) = 0) → 0 ≤ (((x2 * 6) + x1) * 60) ∧ (((x2 * 6) + x1) * 60) < 4680 := by intros; omega) (k1 : (((0 ≤ x1 ∧ x1 ≤ (M 24 5) - 1) ∧ 0 < (M 24 0) ∧ 0 ≤ x2 ∧ x2 ≤ (M 24 1))) → ∀ M1 : dsMem, R1 M1 → (¬ (M1 51 ((x2 * 6) + x1)) = 0) → Q [uI (M1 49 (((x2 * 6) + x1) * 60))] M1) (k2 : (((0 ≤ x1 ∧ x1 ≤ (M 24 5) - 1) ∧ 0 < (M 24 0) ∧ 0 ≤ x2 ∧ x2 ≤ (M 24 1))) → ∀ M1 : dsMem, R1 M1 → ((M1 51 ((x2 * 6) + x1)) = 0) → Q [uI 0] M1) (k3 : (¬ ((0 ≤ x1 ∧ x1 ≤ (M 24 5) - 1) ∧ 0 < (M 24 0) ∧ 0 ≤ x2 ∧ x2 ≤ (M 24 1))) → Q [uI (-2)] M) :
    bB 82 0 [uR 10 0, uI x1, uI x2, uX 0, uX 0] [] M Q := by
  refine b_aload_n (d82 (j := 0) rfl) rfl ?_
  refine b_iload_n (d82 (j := 1) rfl) rfl ?_
  refine b_iload_n (d82 (j := 2) rfl) rfl ?_
  refine b_callV (d82 (j := 3) rfl) rfl rfl (Or.inl rfl) rfl (bCk_mk (n := 0) (k := 3) (by decide +kernel) rfl rfl) (pu154 s1 ?_)
  refine b_stk [uI (if ((0 ≤ x1 ∧ x1 ≤ (M 24 5) - 1) ∧ 0 < (M 24 0) ∧ 0 ≤ x2 ∧ x2 ≤ (M 24 1)) then 1 else 0)] rfl ?_
  refine b_ifneP (d82 (j := 4) rfl) (fun c1 => ?_) (fun c1 => ?_)
  ·
    refine b_aload_n (d82 (j := 7) rfl) rfl ?_
    refine b_callV (d82 (j := 8) rfl) rfl rfl (Or.inl rfl) rfl (bCk_mk (n := 0) (k := 1) (by decide +kernel) rfl rfl) ((hA1 c1) _ (fun M1 hR1 => ?_))
    refine b_stk [uR 5 47] rfl ?_
    refine b_astore_n [uR 10 0, uI x1, uI x2, uR 5 47, uX 0] (d82 (j := 9) rfl) (by decide) rfl ?_
    refine b_iload_n (d82 (j := 10) rfl) rfl ?_
    refine b_iload_n (d82 (j := 11) rfl) rfl ?_
    refine b_callS (d82 (j := 12) rfl) (Or.inl rfl) rfl (bCk_mk (n := 0) (k := 2) (by decide +kernel) rfl rfl) (pu146 (s2 c1 M1 hR1) ?_)
    refine b_stk [uI ((x2 * 6) + x1)] rfl ?_
    refine b_istore [uR 10 0, uI x1, uI x2, uR 5 47, uI ((x2 * 6) + x1)] (d82 (j := 13) rfl) (by decide) rfl ?_
    refine b_aload_n (d82 (j := 14) rfl) rfl ?_
    refine b_getR (d82 (j := 15) rfl) rfl rfl rfl rfl ?_
    refine b_stk [uR 25 51] rfl ?_
    refine b_iload (d82 (j := 16) rfl) rfl ?_
    refine b_iaload (d82 (j := 17) rfl) rfl (s3 c1 M1 hR1) ?_
    refine b_if_ne (d82 (j := 18) rfl) (fun c2 => ?_) (fun c2 => ?_)
    ·
      refine b_aload_n (d82 (j := 21) rfl) rfl ?_
      refine b_getR (d82 (j := 22) rfl) rfl rfl rfl rfl ?_
      refine b_stk [uR 24 49] rfl ?_
      refine b_iload (d82 (j := 23) rfl) rfl ?_
      refine b_bipush (d82 (j := 24) rfl) (by decide) ?_
      refine b_imul (d82 (j := 25) rfl) rfl rfl ?_
      refine b_stk [uI (((x2 * 6) + x1) * 60), uR 24 49] (by rw [dsw_b (s4 c1 M1 hR1 c2) (by decide)]) ?_
      refine b_iaload (d82 (j := 26) rfl) rfl (s4 c1 M1 hR1 c2) ?_
      exact b_iret (d82 (j := 27) rfl) rfl (k1 c1 M1 hR1 c2)
    ·
      refine b_iconst (d82 (j := 19) rfl) (by decide) ?_
      refine b_goto (d82 (j := 20) rfl) ?_
      exact b_iret (d82 (j := 27) rfl) rfl (k2 c1 M1 hR1 c2)
  ·
    refine b_bipush (d82 (j := 5) rfl) (by decide) ?_
    exact b_iret (d82 (j := 6) rfl) rfl (k3 c1)
def L83 : List (Nat × Instr × Nat × Nat) := [(0, .aload_n 0, 1, 0), (1, .iload_n 1, 2, 0), (2, .iload_n 2, 3, 0), (3, .invokevirtual 145, 6, 0), (6, .ifCond .ne 6, 9, 12), (9, .bipush (-2), 11, 0), (11, .ireturn, 12, 0), (12, .aload_n 0, 13, 0), (13, .getfield 23, 16, 0), (16, .getfield 117, 19, 0), (19, .iload_n 1, 20, 0), (20, .iaload, 21, 0), (21, .aload_n 0, 22, 0), (22, .invokevirtual 149, 25, 0), (25, .getfield 153, 28, 0), (28, .iload_n 1, 29, 0), (29, .iload_n 2, 30, 0), (30, .invokestatic 156, 33, 0), (33, .iaload, 34, 0), (34, .isub, 35, 0), (35, .ireturn, 36, 0)]
set_option maxRecDepth 100000 in
theorem L83_ok : L83.all (dck 83) = true := by decide +kernel
theorem d83 {j pc nx tg : Nat} {ins : Instr} (hj : L83[j]? = some (pc, ins, nx, tg)) : dcd 83 pc ins nx tg := dcl_ok L83_ok hj
set_option maxRecDepth 100000 in
set_option maxHeartbeats 4000000 in
theorem r83_0 {x1 x2 : Int} {R1 : dsMem → Prop} {M : dsMem} {Q : bQT} (s1 : -2147483648 ≤ ((M 24 5) - 1) ∧ ((M 24 5) - 1) < 2147483648 := by intros; omega) (s2 : (((0 ≤ x1 ∧ x1 ≤ (M 24 5) - 1) ∧ 0 < (M 24 0) ∧ 0 ≤ x2 ∧ x2 ≤ (M 24 1))) → 0 ≤ x1 ∧ x1 < 6 := by intros; omega) (hA1 : (((0 ≤ x1 ∧ x1 ≤ (M 24 5) - 1) ∧ 0 < (M 24 0) ∧ 0 ≤ x2 ∧ x2 ≤ (M 24 1))) → bCt 157 [uR 10 0] M (fun _ => [uR 5 47]) R1) (s3 : (((0 ≤ x1 ∧ x1 ≤ (M 24 5) - 1) ∧ 0 < (M 24 0) ∧ 0 ≤ x2 ∧ x2 ≤ (M 24 1))) → ∀ M1 : dsMem, R1 M1 → -2147483648 ≤ ((x2 * 6) + x1) ∧ ((x2 * 6) + x1) < 2147483648 := by intros; omega) (s4 : (((0 ≤ x1 ∧ x1 ≤ (M 24 5) - 1) ∧ 0 < (M 24 0) ∧ 0 ≤ x2 ∧ x2 ≤ (M 24 1))) → ∀ M1 : dsMem, R1 M1 → 0 ≤ ((x2 * 6) + x1) ∧ ((x2 * 6) + x1) < 78 := by intros; omega) (s5 : (((0 ≤ x1 ∧ x1 ≤ (M 24 5) - 1) ∧ 0 < (M 24 0) ∧ 0 ≤ x2 ∧ x2 ≤ (M 24 1))) → ∀ M1 : dsMem, R1 M1 → -2147483648 ≤ ((M 27 x1) - (M1 52 ((x2 * 6) + x1))) ∧ ((M 27 x1) - (M1 52 ((x2 * 6) + x1))) < 2147483648 := by intros; omega) (k1 : (((0 ≤ x1 ∧ x1 ≤ (M 24 5) - 1) ∧ 0 < (M 24 0) ∧ 0 ≤ x2 ∧ x2 ≤ (M 24 1))) → ∀ M1 : dsMem, R1 M1 → Q [uI ((M 27 x1) - (M1 52 ((x2 * 6) + x1)))] M1) (k2 : (¬ ((0 ≤ x1 ∧ x1 ≤ (M 24 5) - 1) ∧ 0 < (M 24 0) ∧ 0 ≤ x2 ∧ x2 ≤ (M 24 1))) → Q [uI (-2)] M) :
    bB 83 0 [uR 10 0, uI x1, uI x2] [] M Q := by
  refine b_aload_n (d83 (j := 0) rfl) rfl ?_
  refine b_iload_n (d83 (j := 1) rfl) rfl ?_
  refine b_iload_n (d83 (j := 2) rfl) rfl ?_
  refine b_callV (d83 (j := 3) rfl) rfl rfl (Or.inl rfl) rfl (bCk_mk (n := 0) (k := 3) (by decide +kernel) rfl rfl) (pu154 s1 ?_)
  refine b_stk [uI (if ((0 ≤ x1 ∧ x1 ≤ (M 24 5) - 1) ∧ 0 < (M 24 0) ∧ 0 ≤ x2 ∧ x2 ≤ (M 24 1)) then 1 else 0)] rfl ?_
  refine b_ifneP (d83 (j := 4) rfl) (fun c1 => ?_) (fun c1 => ?_)
  ·
    refine b_aload_n (d83 (j := 7) rfl) rfl ?_
    refine b_getR (d83 (j := 8) rfl) rfl rfl rfl rfl ?_
    refine b_stk [uR 4 24] rfl ?_
    refine b_getR (d83 (j := 9) rfl) rfl rfl rfl rfl ?_
    refine b_stk [uR 21 27] rfl ?_
    refine b_iload_n (d83 (j := 10) rfl) rfl ?_
    refine b_iaload (d83 (j := 11) rfl) rfl (s2 c1) ?_
    refine b_aload_n (d83 (j := 12) rfl) rfl ?_
    refine b_callV (d83 (j := 13) rfl) rfl rfl (Or.inl rfl) rfl (bCk_mk (n := 1) (k := 1) (by decide +kernel) rfl rfl) ((hA1 c1) _ (fun M1 hR1 => ?_))
    refine b_stk [uR 5 47, uI (M 27 x1)] rfl ?_
    refine b_getR (d83 (j := 14) rfl) rfl rfl rfl rfl ?_
    refine b_stk [uR 25 52, uI (M 27 x1)] rfl ?_
    refine b_iload_n (d83 (j := 15) rfl) rfl ?_
    refine b_iload_n (d83 (j := 16) rfl) rfl ?_
    refine b_callS (d83 (j := 17) rfl) (Or.inl rfl) rfl (bCk_mk (n := 2) (k := 2) (by decide +kernel) rfl rfl) (pu146 (s3 c1 M1 hR1) ?_)
    refine b_stk [uI ((x2 * 6) + x1), uR 25 52, uI (M 27 x1)] rfl ?_
    refine b_iaload (d83 (j := 18) rfl) rfl (s4 c1 M1 hR1) ?_
    refine b_isub (d83 (j := 19) rfl) rfl rfl ?_
    refine b_stk [uI ((M 27 x1) - (M1 52 ((x2 * 6) + x1)))] (by rw [dsw_r (s5 c1 M1 hR1)]) ?_
    exact b_iret (d83 (j := 20) rfl) rfl (k1 c1 M1 hR1)
  ·
    refine b_bipush (d83 (j := 5) rfl) (by decide) ?_
    exact b_iret (d83 (j := 6) rfl) rfl (k2 c1)
def L84 : List (Nat × Instr × Nat × Nat) := [(0, .aload_n 0, 1, 0), (1, .iload_n 1, 2, 0), (2, .iload_n 2, 3, 0), (3, .invokevirtual 145, 6, 0), (6, .ifCond .eq 18, 9, 24), (9, .aload_n 0, 10, 0), (10, .invokevirtual 149, 13, 0), (13, .iload_n 1, 14, 0), (14, .iload_n 2, 15, 0), (15, .invokestatic 156, 18, 0), (18, .invokevirtual 175, 21, 0), (21, .goto 5, 24, 26), (24, .bipush (-2), 26, 0), (26, .ireturn, 27, 0)]
set_option maxRecDepth 100000 in
theorem L84_ok : L84.all (dck 84) = true := by decide +kernel
theorem d84 {j pc nx tg : Nat} {ins : Instr} (hj : L84[j]? = some (pc, ins, nx, tg)) : dcd 84 pc ins nx tg := dcl_ok L84_ok hj
set_option maxRecDepth 100000 in
set_option maxHeartbeats 4000000 in
theorem r84_0 {x1 x2 : Int} {R1 : dsMem → Prop} {M : dsMem} {Q : bQT} (s1 : -2147483648 ≤ ((M 24 5) - 1) ∧ ((M 24 5) - 1) < 2147483648 := by intros; omega) (k1 : (¬ ((0 ≤ x1 ∧ x1 ≤ (M 24 5) - 1) ∧ 0 < (M 24 0) ∧ 0 ≤ x2 ∧ x2 ≤ (M 24 1))) → Q [uI (-2)] M) (hA1 : (((0 ≤ x1 ∧ x1 ≤ (M 24 5) - 1) ∧ 0 < (M 24 0) ∧ 0 ≤ x2 ∧ x2 ≤ (M 24 1))) → bCt 157 [uR 10 0] M (fun _ => [uR 5 47]) R1) (s2 : (((0 ≤ x1 ∧ x1 ≤ (M 24 5) - 1) ∧ 0 < (M 24 0) ∧ 0 ≤ x2 ∧ x2 ≤ (M 24 1))) → ∀ M1 : dsMem, R1 M1 → -2147483648 ≤ ((x2 * 6) + x1) ∧ ((x2 * 6) + x1) < 2147483648 := by intros; omega) (s3 : (((0 ≤ x1 ∧ x1 ≤ (M 24 5) - 1) ∧ 0 < (M 24 0) ∧ 0 ≤ x2 ∧ x2 ≤ (M 24 1))) → ∀ M1 : dsMem, R1 M1 → ∀ i26_1 : Int, ∀ a26_1 : Int, 0 ≤ i26_1 → i26_1 < (M1 51 ((x2 * 6) + x1)) → 0 ≤ ((x2 * 6) + x1) ∧ ((x2 * 6) + x1) < 78 := by intros; omega) (s4 : (((0 ≤ x1 ∧ x1 ≤ (M 24 5) - 1) ∧ 0 < (M 24 0) ∧ 0 ≤ x2 ∧ x2 ≤ (M 24 1))) → ∀ M1 : dsMem, R1 M1 → ∀ i26_1 : Int, ∀ a26_1 : Int, 0 ≤ i26_1 → i26_1 < (M1 51 ((x2 * 6) + x1)) → 0 ≤ ((((x2 * 6) + x1) * 60) + i26_1) ∧ ((((x2 * 6) + x1) * 60) + i26_1) < 4680 := by intros; omega) (s5 : (((0 ≤ x1 ∧ x1 ≤ (M 24 5) - 1) ∧ 0 < (M 24 0) ∧ 0 ≤ x2 ∧ x2 ≤ (M 24 1))) → ∀ M1 : dsMem, R1 M1 → ∀ i26_1 : Int, ∀ a26_1 : Int, 0 ≤ i26_1 → i26_1 < (M1 51 ((x2 * 6) + x1)) → -2147483648 ≤ i26_1 + 1 ∧ i26_1 + 1 < 2147483648 := by intros; omega) (s6 : (((0 ≤ x1 ∧ x1 ≤ (M 24 5) - 1) ∧ 0 < (M 24 0) ∧ 0 ≤ x2 ∧ x2 ≤ (M 24 1))) → ∀ M1 : dsMem, R1 M1 → 0 ≤ ((x2 * 6) + x1) ∧ ((x2 * 6) + x1) < 78 := by intros; omega) (k2 : (((0 ≤ x1 ∧ x1 ≤ (M 24 5) - 1) ∧ 0 < (M 24 0) ∧ 0 ≤ x2 ∧ x2 ≤ (M 24 1))) → ∀ M1 : dsMem, R1 M1 → Q [uI (v26 M1 47 ((x2 * 6) + x1))] M1) :
    bB 84 0 [uR 10 0, uI x1, uI x2] [] M Q := by
  refine b_aload_n (d84 (j := 0) rfl) rfl ?_
  refine b_iload_n (d84 (j := 1) rfl) rfl ?_
  refine b_iload_n (d84 (j := 2) rfl) rfl ?_
  refine b_callV (d84 (j := 3) rfl) rfl rfl (Or.inl rfl) rfl (bCk_mk (n := 0) (k := 3) (by decide +kernel) rfl rfl) (pu154 s1 ?_)
  refine b_stk [uI (if ((0 ≤ x1 ∧ x1 ≤ (M 24 5) - 1) ∧ 0 < (M 24 0) ∧ 0 ≤ x2 ∧ x2 ≤ (M 24 1)) then 1 else 0)] rfl ?_
  refine b_ifeqP (d84 (j := 4) rfl) (fun c1 => ?_) (fun c1 => ?_)
  ·
    refine b_bipush (d84 (j := 12) rfl) (by decide) ?_
    exact b_iret (d84 (j := 13) rfl) rfl (k1 c1)
  ·
    refine b_aload_n (d84 (j := 5) rfl) rfl ?_
    refine b_callV (d84 (j := 6) rfl) rfl rfl (Or.inl rfl) rfl (bCk_mk (n := 0) (k := 1) (by decide +kernel) rfl rfl) ((hA1 c1) _ (fun M1 hR1 => ?_))
    refine b_stk [uR 5 47] rfl ?_
    refine b_iload_n (d84 (j := 7) rfl) rfl ?_
    refine b_iload_n (d84 (j := 8) rfl) rfl ?_
    refine b_callS (d84 (j := 9) rfl) (Or.inl rfl) rfl (bCk_mk (n := 1) (k := 2) (by decide +kernel) rfl rfl) (pu146 (s2 c1 M1 hR1) ?_)
    refine b_stk [uI ((x2 * 6) + x1), uR 5 47] rfl ?_
    refine b_callV (d84 (j := 10) rfl) rfl rfl (Or.inl rfl) rfl (bCk_mk (n := 0) (k := 2) (by decide +kernel) rfl rfl) (fx26 (s3 c1 M1 hR1) (s4 c1 M1 hR1) (s5 c1 M1 hR1) (s6 c1 M1 hR1) ?_)
    refine b_stk [uI (v26 M1 47 ((x2 * 6) + x1))] rfl ?_
    refine b_goto (d84 (j := 11) rfl) ?_
    exact b_iret (d84 (j := 13) rfl) rfl (k2 c1 M1 hR1)
def L85 : List (Nat × Instr × Nat × Nat) := [(0, .aload_n 0, 1, 0), (1, .invokevirtual 179, 4, 0), (4, .ifCond .ne 6, 7, 10), (7, .bipush (-2), 9, 0), (9, .ireturn, 10, 0), (10, .aload_n 0, 11, 0), (11, .invokevirtual 149, 14, 0), (14, .astore_n 1, 15, 0), (15, .iconst 0, 16, 0), (16, .istore_n 2, 17, 0), (17, .aload_n 1, 18, 0), (18, .iconst 1, 19, 0), (19, .invokevirtual 183, 22, 0), (22, .aload_n 1, 23, 0), (23, .iconst 0, 24, 0), (24, .invokevirtual 183, 27, 0), (27, .isub, 28, 0), (28, .istore_n 3, 29, 0), (29, .iconst 1, 30, 0), (30, .istore 4, 32, 0), (32, .iload 4, 34, 0), (34, .aload_n 0, 35, 0), (35, .getfield 23, 38, 0), (38, .getfield 186, 41, 0), (41, .if_icmp .ge 38, 44, 79), (44, .aload_n 1, 45, 0), (45, .iload 4, 47, 0), (47, .iconst 1, 48, 0), (48, .iadd, 49, 0), (49, .invokevirtual 183, 52, 0), (52, .aload_n 1, 53, 0), (53, .iload 4, 55, 0), (55, .invokevirtual 183, 58, 0), (58, .isub, 59, 0), (59, .istore 5, 61, 0), (61, .iload 5, 63, 0), (63, .iload_n 3, 64, 0), (64, .if_icmp .le 9, 67, 73), (67, .iload 4, 69, 0), (69, .istore_n 2, 70, 0), (70, .iload 5, 72, 0), (72, .istore_n 3, 73, 0), (73, .iinc 4 1, 76, 0), (76, .goto (-44), 79, 32), (79, .iload_n 2, 80, 0), (80, .ireturn, 81, 0)]
set_option maxRecDepth 100000 in
theorem L85_ok : L85.all (dck 85) = true := by decide +kernel
theorem d85 {j pc nx tg : Nat} {ins : Instr} (hj : L85[j]? = some (pc, ins, nx, tg)) : dcd 85 pc ins nx tg := dcl_ok L85_ok hj
set_option maxRecDepth 100000 in
set_option maxHeartbeats 4000000 in
theorem r85_0  {R1 : dsMem → Prop} {M : dsMem} {Q : bQT} (hA1 : ((0 < (M 24 0))) → bCt 157 [uR 10 0] M (fun _ => [uR 5 47]) R1) (s1 : ((0 < (M 24 0))) → ∀ M1 : dsMem, R1 M1 → ∀ i24_1 : Int, ∀ a24_1 : Int, 0 ≤ i24_1 → i24_1 < (M1 24 5) → -2147483648 ≤ ((1 * 6) + i24_1) ∧ ((1 * 6) + i24_1) < 2147483648 := by intros; omega) (s2 : ((0 < (M 24 0))) → ∀ M1 : dsMem, R1 M1 → ∀ i24_1 : Int, ∀ a24_1 : Int, 0 ≤ i24_1 → i24_1 < (M1 24 5) → 0 ≤ ((1 * 6) + i24_1) ∧ ((1 * 6) + i24_1) < 78 := by intros; omega) (s3 : ((0 < (M 24 0))) → ∀ M1 : dsMem, R1 M1 → ∀ i24_1 : Int, ∀ a24_1 : Int, 0 ≤ i24_1 → i24_1 < (M1 24 5) → -2147483648 ≤ i24_1 + 1 ∧ i24_1 + 1 < 2147483648 := by intros; omega) (s4 : ((0 < (M 24 0))) → ∀ M1 : dsMem, R1 M1 → ∀ i24_1 : Int, ∀ a24_1 : Int, 0 ≤ i24_1 → i24_1 < (M1 24 5) → -2147483648 ≤ ((0 * 6) + i24_1) ∧ ((0 * 6) + i24_1) < 2147483648 := by intros; omega) (s5 : ((0 < (M 24 0))) → ∀ M1 : dsMem, R1 M1 → ∀ i24_1 : Int, ∀ a24_1 : Int, 0 ≤ i24_1 → i24_1 < (M1 24 5) → 0 ≤ ((0 * 6) + i24_1) ∧ ((0 * 6) + i24_1) < 78 := by intros; omega) (s6 : ((0 < (M 24 0))) → ∀ M1 : dsMem, R1 M1 → ∀ i85_1 : Int, ∀ a85_1 : Int × Int, 1 ≤ i85_1 → i85_1 < (M1 24 1) → -2147483648 ≤ (i85_1 + 1) ∧ (i85_1 + 1) < 2147483648 := by intros; omega) (s7 : ((0 < (M 24 0))) → ∀ M1 : dsMem, R1 M1 → ∀ i85_1 : Int, ∀ a85_1 : Int × Int, 1 ≤ i85_1 → i85_1 < (M1 24 1) → ∀ i24_1 : Int, ∀ a24_1 : Int, 0 ≤ i24_1 → i24_1 < (M1 24 5) → -2147483648 ≤ (((i85_1 + 1) * 6) + i24_1) ∧ (((i85_1 + 1) * 6) + i24_1) < 2147483648 := by intros; omega) (s8 : ((0 < (M 24 0))) → ∀ M1 : dsMem, R1 M1 → ∀ i85_1 : Int, ∀ a85_1 : Int × Int, 1 ≤ i85_1 → i85_1 < (M1 24 1) → ∀ i24_1 : Int, ∀ a24_1 : Int, 0 ≤ i24_1 → i24_1 < (M1 24 5) → 0 ≤ (((i85_1 + 1) * 6) + i24_1) ∧ (((i85_1 + 1) * 6) + i24_1) < 78 := by intros; omega) (s9 : ((0 < (M 24 0))) → ∀ M1 : dsMem, R1 M1 → ∀ i85_1 : Int, ∀ a85_1 : Int × Int, 1 ≤ i85_1 → i85_1 < (M1 24 1) → ∀ i24_1 : Int, ∀ a24_1 : Int, 0 ≤ i24_1 → i24_1 < (M1 24 5) → -2147483648 ≤ ((i85_1 * 6) + i24_1) ∧ ((i85_1 * 6) + i24_1) < 2147483648 := by intros; omega) (s10 : ((0 < (M 24 0))) → ∀ M1 : dsMem, R1 M1 → ∀ i85_1 : Int, ∀ a85_1 : Int × Int, 1 ≤ i85_1 → i85_1 < (M1 24 1) → ∀ i24_1 : Int, ∀ a24_1 : Int, 0 ≤ i24_1 → i24_1 < (M1 24 5) → 0 ≤ ((i85_1 * 6) + i24_1) ∧ ((i85_1 * 6) + i24_1) < 78 := by intros; omega) (s11 : ((0 < (M 24 0))) → ∀ M1 : dsMem, R1 M1 → ∀ i85_1 : Int, ∀ a85_1 : Int × Int, 1 ≤ i85_1 → i85_1 < (M1 24 1) → -2147483648 ≤ i85_1 + 1 ∧ i85_1 + 1 < 2147483648 := by intros; omega) (k1 : ((0 < (M 24 0))) → ∀ M1 : dsMem, R1 M1 → Q [uI ((dsIter (fun (i85_1 : Int) (a85_1 : Int × Int) => (if (dsw (((v24 M1 47 (i85_1 + 1)) - (v24 M1 47 i85_1)))) ≤ a85_1.2 then (a85_1.1, a85_1.2) else (i85_1, (dsw (((v24 M1 47 (i85_1 + 1)) - (v24 M1 47 i85_1))))))) 1 (M1 24 1) (0, (dsw (((v24 M1 47 1) - (v24 M1 47 0)))))).1)] M1) (k2 : (¬ (0 < (M 24 0))) → Q [uI (-2)] M) :
    bB 85 0 [uR 10 0, uX 0, uX 0, uX 0, uX 0, uX 0] [] M Q := by
  refine b_aload_n (d85 (j := 0) rfl) rfl ?_
  refine b_callV (d85 (j := 1) rfl) rfl rfl (Or.inl rfl) rfl (bCk_mk (n := 0) (k := 1) (by decide +kernel) rfl rfl) (pu149  ?_)
  refine b_stk [uI (if (0 < (M 24 0)) then 1 else 0)] rfl ?_
  refine b_ifneP (d85 (j := 2) rfl) (fun c1 => ?_) (fun c1 => ?_)
  ·
    refine b_aload_n (d85 (j := 5) rfl) rfl ?_
    refine b_callV (d85 (j := 6) rfl) rfl rfl (Or.inl rfl) rfl (bCk_mk (n := 0) (k := 1) (by decide +kernel) rfl rfl) ((hA1 c1) _ (fun M1 hR1 => ?_))
    refine b_stk [uR 5 47] rfl ?_
    refine b_astore_n [uR 10 0, uR 5 47, uX 0, uX 0, uX 0, uX 0] (d85 (j := 7) rfl) (by decide) rfl ?_
    refine b_iconst (d85 (j := 8) rfl) (by decide) ?_
    refine b_istore_n [uR 10 0, uR 5 47, uI 0, uX 0, uX 0, uX 0] (d85 (j := 9) rfl) (by decide) rfl ?_
    refine b_aload_n (d85 (j := 10) rfl) rfl ?_
    refine b_iconst (d85 (j := 11) rfl) (by decide) ?_
    refine b_callV (d85 (j := 12) rfl) rfl rfl (Or.inl rfl) rfl (bCk_mk (n := 0) (k := 2) (by decide +kernel) rfl rfl) (fx24 (s1 c1 M1 hR1) (s2 c1 M1 hR1) (s3 c1 M1 hR1) ?_)
    refine b_stk [uI (v24 M1 47 1)] rfl ?_
    refine b_aload_n (d85 (j := 13) rfl) rfl ?_
    refine b_iconst (d85 (j := 14) rfl) (by decide) ?_
    refine b_callV (d85 (j := 15) rfl) rfl rfl (Or.inl rfl) rfl (bCk_mk (n := 1) (k := 2) (by decide +kernel) rfl rfl) (fx24 (s4 c1 M1 hR1) (s5 c1 M1 hR1) (s3 c1 M1 hR1) ?_)
    refine b_stk [uI (v24 M1 47 0), uI (v24 M1 47 1)] rfl ?_
    refine b_isub (d85 (j := 16) rfl) rfl rfl ?_
    refine b_istore_n [uR 10 0, uR 5 47, uI 0, uI (dsw (((v24 M1 47 1) - (v24 M1 47 0)))), uX 0, uX 0] (d85 (j := 17) rfl) (by decide) rfl ?_
    refine b_iconst (d85 (j := 18) rfl) (by decide) ?_
    refine b_istore [uR 10 0, uR 5 47, uI 0, uI (dsw (((v24 M1 47 1) - (v24 M1 47 0)))), uI 1, uX 0] (d85 (j := 19) rfl) (by decide) rfl ?_
    refine b_for (fun (i85_1 : Int) (a85_1 : Int × Int) => [uR 10 0, uR 5 47, uI (a85_1.1), uI (a85_1.2), uI i85_1, uX 0]) (fun (i85_1 : Int) (a85_1 : Int × Int) => (if (dsw (((v24 M1 47 (i85_1 + 1)) - (v24 M1 47 i85_1)))) ≤ a85_1.2 then (a85_1.1, a85_1.2) else (i85_1, (dsw (((v24 M1 47 (i85_1 + 1)) - (v24 M1 47 i85_1))))))) 1 (M1 24 1) (0, (dsw (((v24 M1 47 1) - (v24 M1 47 0))))) (fun i85_1 a85_1 h85_1l h85_1r hk85_1 => ?_) (fun i85_1 h85_1l h85_1r => ?_)
    ·
      refine b_iload (d85 (j := 20) rfl) rfl ?_
      refine b_aload_n (d85 (j := 21) rfl) rfl ?_
      refine b_getR (d85 (j := 22) rfl) rfl rfl rfl rfl ?_
      refine b_stk [uR 4 24, uI i85_1] rfl ?_
      refine b_getI (d85 (j := 23) rfl) rfl rfl rfl rfl (Or.inl rfl) ?_
      refine b_stk [uI (M1 24 1), uI i85_1] rfl ?_
      refine b_icmp_ge (d85 (j := 24) rfl) (fun c2 => ?_) (fun c2 => ?_)
      · exfalso; omega
      ·
        refine b_aload_n (d85 (j := 25) rfl) rfl ?_
        refine b_iload (d85 (j := 26) rfl) rfl ?_
        refine b_iconst (d85 (j := 27) rfl) (by decide) ?_
        refine b_iadd (d85 (j := 28) rfl) rfl rfl ?_
        refine b_stk [uI (i85_1 + 1), uR 5 47] (by rw [dsw_r (s6 c1 M1 hR1 i85_1 a85_1 h85_1l h85_1r)]) ?_
        refine b_callV (d85 (j := 29) rfl) rfl rfl (Or.inl rfl) rfl (bCk_mk (n := 0) (k := 2) (by decide +kernel) rfl rfl) (fx24 (s7 c1 M1 hR1 i85_1 a85_1 h85_1l h85_1r) (s8 c1 M1 hR1 i85_1 a85_1 h85_1l h85_1r) (s3 c1 M1 hR1) ?_)
        refine b_stk [uI (v24 M1 47 (i85_1 + 1))] rfl ?_
        refine b_aload_n (d85 (j := 30) rfl) rfl ?_
        refine b_iload (d85 (j := 31) rfl) rfl ?_
        refine b_callV (d85 (j := 32) rfl) rfl rfl (Or.inl rfl) rfl (bCk_mk (n := 1) (k := 2) (by decide +kernel) rfl rfl) (fx24 (s9 c1 M1 hR1 i85_1 a85_1 h85_1l h85_1r) (s10 c1 M1 hR1 i85_1 a85_1 h85_1l h85_1r) (s3 c1 M1 hR1) ?_)
        refine b_stk [uI (v24 M1 47 i85_1), uI (v24 M1 47 (i85_1 + 1))] rfl ?_
        refine b_isub (d85 (j := 33) rfl) rfl rfl ?_
        refine b_istore [uR 10 0, uR 5 47, uI (a85_1.1), uI (a85_1.2), uI i85_1, uI (dsw (((v24 M1 47 (i85_1 + 1)) - (v24 M1 47 i85_1))))] (d85 (j := 34) rfl) (by decide) rfl ?_
        refine b_iload (d85 (j := 35) rfl) rfl ?_
        refine b_iload_n (d85 (j := 36) rfl) rfl ?_
        refine b_icmp_le (d85 (j := 37) rfl) (fun c3 => ?_) (fun c3 => ?_)
        ·
          rw [if_pos c3] at hk85_1
          refine b_iinc [uR 10 0, uR 5 47, uI (a85_1.1), uI (a85_1.2), uI (i85_1 + 1), uI (dsw (((v24 M1 47 (i85_1 + 1)) - (v24 M1 47 i85_1))))] (d85 (j := 42) rfl) rfl (by decide) (s11 c1 M1 hR1 i85_1 a85_1 h85_1l h85_1r) rfl ?_
          refine b_goto (d85 (j := 43) rfl) ?_
          exact bB_le _ (bLe_s (bLe_s (bLe_s (bLe_s (bLe_s (bLe_x bLe_nil)))))) hk85_1
        ·
          rw [if_neg c3] at hk85_1
          refine b_iload (d85 (j := 38) rfl) rfl ?_
          refine b_istore_n [uR 10 0, uR 5 47, uI i85_1, uI (a85_1.2), uI i85_1, uI (dsw (((v24 M1 47 (i85_1 + 1)) - (v24 M1 47 i85_1))))] (d85 (j := 39) rfl) (by decide) rfl ?_
          refine b_iload (d85 (j := 40) rfl) rfl ?_
          refine b_istore_n [uR 10 0, uR 5 47, uI i85_1, uI (dsw (((v24 M1 47 (i85_1 + 1)) - (v24 M1 47 i85_1)))), uI i85_1, uI (dsw (((v24 M1 47 (i85_1 + 1)) - (v24 M1 47 i85_1))))] (d85 (j := 41) rfl) (by decide) rfl ?_
          refine b_iinc [uR 10 0, uR 5 47, uI i85_1, uI (dsw (((v24 M1 47 (i85_1 + 1)) - (v24 M1 47 i85_1)))), uI (i85_1 + 1), uI (dsw (((v24 M1 47 (i85_1 + 1)) - (v24 M1 47 i85_1))))] (d85 (j := 42) rfl) rfl (by decide) (s11 c1 M1 hR1 i85_1 a85_1 h85_1l h85_1r) rfl ?_
          refine b_goto (d85 (j := 43) rfl) ?_
          exact bB_le _ (bLe_s (bLe_s (bLe_s (bLe_s (bLe_s (bLe_x bLe_nil)))))) hk85_1
    ·
      refine b_iload (d85 (j := 20) rfl) rfl ?_
      refine b_aload_n (d85 (j := 21) rfl) rfl ?_
      refine b_getR (d85 (j := 22) rfl) rfl rfl rfl rfl ?_
      refine b_stk [uR 4 24, uI i85_1] rfl ?_
      refine b_getI (d85 (j := 23) rfl) rfl rfl rfl rfl (Or.inl rfl) ?_
      refine b_stk [uI (M1 24 1), uI i85_1] rfl ?_
      refine b_icmp_ge (d85 (j := 24) rfl) (fun c4 => ?_) (fun c4 => ?_)
      rotate_left
      · exfalso; omega
      ·
        refine b_iload_n (d85 (j := 44) rfl) rfl ?_
        exact b_iret (d85 (j := 45) rfl) rfl (k1 c1 M1 hR1)
  ·
    refine b_bipush (d85 (j := 3) rfl) (by decide) ?_
    exact b_iret (d85 (j := 4) rfl) rfl (k2 c1)
def L86 : List (Nat × Instr × Nat × Nat) := [(0, .aload_n 0, 1, 0), (1, .invokevirtual 179, 4, 0), (4, .ifCond .ne 6, 7, 10), (7, .bipush (-2), 9, 0), (9, .ireturn, 10, 0), (10, .aload_n 0, 11, 0), (11, .invokevirtual 149, 14, 0), (14, .astore_n 1, 15, 0), (15, .iconst 0, 16, 0), (16, .istore_n 2, 17, 0), (17, .iload_n 2, 18, 0), (18, .aload_n 0, 19, 0), (19, .getfield 23, 22, 0), (22, .getfield 186, 25, 0), (25, .if_icmp .gt 27, 28, 52), (28, .aload_n 1, 29, 0), (29, .getfield 189, 32, 0), (32, .iload_n 2, 33, 0), (33, .iaload, 34, 0), (34, .aload_n 0, 35, 0), (35, .getfield 23, 38, 0), (38, .invokevirtual 192, 41, 0), (41, .if_icmp .eq 5, 44, 46), (44, .iload_n 2, 45, 0), (45, .ireturn, 46, 0), (46, .iinc 2 1, 49, 0), (49, .goto (-32), 52, 17), (52, .iconst (-1), 53, 0), (53, .ireturn, 54, 0)]
set_option maxRecDepth 100000 in
theorem L86_ok : L86.all (dck 86) = true := by decide +kernel
theorem d86 {j pc nx tg : Nat} {ins : Instr} (hj : L86[j]? = some (pc, ins, nx, tg)) : dcd 86 pc ins nx tg := dcl_ok L86_ok hj
set_option maxRecDepth 100000 in
set_option maxHeartbeats 4000000 in
theorem r86_0  {R1 : dsMem → Prop} {M : dsMem} {Q : bQT} (hA1 : ((0 < (M 24 0))) → bCt 157 [uR 10 0] M (fun _ => [uR 5 47]) R1) (s1 : ((0 < (M 24 0))) → ∀ M1 : dsMem, R1 M1 → ∀ i86_1 : Int, 0 ≤ i86_1 → i86_1 < ((M1 24 1) + 1) → 0 ≤ i86_1 ∧ i86_1 < 13 := by intros; omega) (s2 : ((0 < (M 24 0))) → ∀ M1 : dsMem, R1 M1 → ∀ i86_1 : Int, 0 ≤ i86_1 → i86_1 < ((M1 24 1) + 1) → -2147483648 ≤ ((dsShl 1 (M1 24 4)) - 1) ∧ ((dsShl 1 (M1 24 4)) - 1) < 2147483648 := by intros; omega) (s3 : ((0 < (M 24 0))) → ∀ M1 : dsMem, R1 M1 → ∀ i86_1 : Int, 0 ≤ i86_1 → i86_1 < ((M1 24 1) + 1) → -2147483648 ≤ i86_1 + 1 ∧ i86_1 + 1 < 2147483648 := by intros; omega) (k1 : ((0 < (M 24 0))) → ∀ M1 : dsMem, R1 M1 → ((dsFind (fun (i86_1 : Int) => ¬ ((M1 54 i86_1) = ((dsShl 1 (M1 24 4)) - 1))) 0 ((M1 24 1) + 1)) < ((M1 24 1) + 1)) → Q [uI (dsFind (fun (i86_1 : Int) => ¬ ((M1 54 i86_1) = ((dsShl 1 (M1 24 4)) - 1))) 0 ((M1 24 1) + 1))] M1) (k2 : ((0 < (M 24 0))) → ∀ M1 : dsMem, R1 M1 → (¬ (dsFind (fun (i86_1 : Int) => ¬ ((M1 54 i86_1) = ((dsShl 1 (M1 24 4)) - 1))) 0 ((M1 24 1) + 1)) < ((M1 24 1) + 1)) → Q [uI (-1)] M1) (k3 : (¬ (0 < (M 24 0))) → Q [uI (-2)] M) :
    bB 86 0 [uR 10 0, uX 0, uX 0] [] M Q := by
  refine b_aload_n (d86 (j := 0) rfl) rfl ?_
  refine b_callV (d86 (j := 1) rfl) rfl rfl (Or.inl rfl) rfl (bCk_mk (n := 0) (k := 1) (by decide +kernel) rfl rfl) (pu149  ?_)
  refine b_stk [uI (if (0 < (M 24 0)) then 1 else 0)] rfl ?_
  refine b_ifneP (d86 (j := 2) rfl) (fun c1 => ?_) (fun c1 => ?_)
  ·
    refine b_aload_n (d86 (j := 5) rfl) rfl ?_
    refine b_callV (d86 (j := 6) rfl) rfl rfl (Or.inl rfl) rfl (bCk_mk (n := 0) (k := 1) (by decide +kernel) rfl rfl) ((hA1 c1) _ (fun M1 hR1 => ?_))
    refine b_stk [uR 5 47] rfl ?_
    refine b_astore_n [uR 10 0, uR 5 47, uX 0] (d86 (j := 7) rfl) (by decide) rfl ?_
    refine b_iconst (d86 (j := 8) rfl) (by decide) ?_
    refine b_istore_n [uR 10 0, uR 5 47, uI 0] (d86 (j := 9) rfl) (by decide) rfl ?_
    refine b_find (fun (i86_1 : Int) => [uR 10 0, uR 5 47, uI i86_1]) (fun (i86_1 : Int) => ¬ ((M1 54 i86_1) = ((dsShl 1 (M1 24 4)) - 1))) 0 ((M1 24 1) + 1) (fun i86_1 h86_1l h86_1r hn hk86_1 => ?_) (fun i86_1 h86_1l h86_1r hp he => ?_) (fun i86_1 h86_1l h86_1r he => ?_)
    ·
      refine b_iload_n (d86 (j := 10) rfl) rfl ?_
      refine b_aload_n (d86 (j := 11) rfl) rfl ?_
      refine b_getR (d86 (j := 12) rfl) rfl rfl rfl rfl ?_
      refine b_stk [uR 4 24, uI i86_1] rfl ?_
      refine b_getI (d86 (j := 13) rfl) rfl rfl rfl rfl (Or.inl rfl) ?_
      refine b_stk [uI (M1 24 1), uI i86_1] rfl ?_
      refine b_icmp_gt (d86 (j := 14) rfl) (fun c2 => ?_) (fun c2 => ?_)
      · exfalso; omega
      ·
        refine b_aload_n (d86 (j := 15) rfl) rfl ?_
        refine b_getR (d86 (j := 16) rfl) rfl rfl rfl rfl ?_
        refine b_stk [uR 27 54] rfl ?_
        refine b_iload_n (d86 (j := 17) rfl) rfl ?_
        refine b_iaload (d86 (j := 18) rfl) rfl (s1 c1 M1 hR1 i86_1 h86_1l h86_1r) ?_
        refine b_aload_n (d86 (j := 19) rfl) rfl ?_
        refine b_getR (d86 (j := 20) rfl) rfl rfl rfl rfl ?_
        refine b_stk [uR 4 24, uI (M1 54 i86_1)] rfl ?_
        refine b_callV (d86 (j := 21) rfl) rfl rfl (Or.inl rfl) rfl (bCk_mk (n := 1) (k := 1) (by decide +kernel) rfl rfl) (pu63 (s2 c1 M1 hR1 i86_1 h86_1l h86_1r) ?_)
        refine b_stk [uI ((dsShl 1 (M1 24 4)) - 1), uI (M1 54 i86_1)] rfl ?_
        refine b_icmp_eq (d86 (j := 22) rfl) (fun c3 => ?_) (fun c3 => ?_)
        ·
          refine b_iinc [uR 10 0, uR 5 47, uI (i86_1 + 1)] (d86 (j := 25) rfl) rfl (by decide) (s3 c1 M1 hR1 i86_1 h86_1l h86_1r) rfl ?_
          refine b_goto (d86 (j := 26) rfl) ?_
          exact hk86_1
        ·
          refine b_iload_n (d86 (j := 23) rfl) rfl ?_
          exfalso; omega
    ·
      subst he
      refine b_iload_n (d86 (j := 10) rfl) rfl ?_
      refine b_aload_n (d86 (j := 11) rfl) rfl ?_
      refine b_getR (d86 (j := 12) rfl) rfl rfl rfl rfl ?_
      refine b_stk [uR 4 24, uI (dsFind (fun (i86_1 : Int) => ¬ ((M1 54 i86_1) = ((dsShl 1 (M1 24 4)) - 1))) 0 ((M1 24 1) + 1))] rfl ?_
      refine b_getI (d86 (j := 13) rfl) rfl rfl rfl rfl (Or.inl rfl) ?_
      refine b_stk [uI (M1 24 1), uI (dsFind (fun (i86_1 : Int) => ¬ ((M1 54 i86_1) = ((dsShl 1 (M1 24 4)) - 1))) 0 ((M1 24 1) + 1))] rfl ?_
      refine b_icmp_gt (d86 (j := 14) rfl) (fun c4 => ?_) (fun c4 => ?_)
      · exfalso; omega
      ·
        refine b_aload_n (d86 (j := 15) rfl) rfl ?_
        refine b_getR (d86 (j := 16) rfl) rfl rfl rfl rfl ?_
        refine b_stk [uR 27 54] rfl ?_
        refine b_iload_n (d86 (j := 17) rfl) rfl ?_
        refine b_iaload (d86 (j := 18) rfl) rfl (s1 c1 M1 hR1 (dsFind (fun (i86_1 : Int) => ¬ ((M1 54 i86_1) = ((dsShl 1 (M1 24 4)) - 1))) 0 ((M1 24 1) + 1)) h86_1l h86_1r) ?_
        refine b_aload_n (d86 (j := 19) rfl) rfl ?_
        refine b_getR (d86 (j := 20) rfl) rfl rfl rfl rfl ?_
        refine b_stk [uR 4 24, uI (M1 54 (dsFind (fun (i86_1 : Int) => ¬ ((M1 54 i86_1) = ((dsShl 1 (M1 24 4)) - 1))) 0 ((M1 24 1) + 1)))] rfl ?_
        refine b_callV (d86 (j := 21) rfl) rfl rfl (Or.inl rfl) rfl (bCk_mk (n := 1) (k := 1) (by decide +kernel) rfl rfl) (pu63 (s2 c1 M1 hR1 (dsFind (fun (i86_1 : Int) => ¬ ((M1 54 i86_1) = ((dsShl 1 (M1 24 4)) - 1))) 0 ((M1 24 1) + 1)) h86_1l h86_1r) ?_)
        refine b_stk [uI ((dsShl 1 (M1 24 4)) - 1), uI (M1 54 (dsFind (fun (i86_1 : Int) => ¬ ((M1 54 i86_1) = ((dsShl 1 (M1 24 4)) - 1))) 0 ((M1 24 1) + 1)))] rfl ?_
        refine b_icmp_eq (d86 (j := 22) rfl) (fun c5 => ?_) (fun c5 => ?_)
        ·
          refine b_iinc [uR 10 0, uR 5 47, uI ((dsFind (fun (i86_1 : Int) => ¬ ((M1 54 i86_1) = ((dsShl 1 (M1 24 4)) - 1))) 0 ((M1 24 1) + 1)) + 1)] (d86 (j := 25) rfl) rfl (by decide) (s3 c1 M1 hR1 (dsFind (fun (i86_1 : Int) => ¬ ((M1 54 i86_1) = ((dsShl 1 (M1 24 4)) - 1))) 0 ((M1 24 1) + 1)) h86_1l h86_1r) rfl ?_
          refine b_goto (d86 (j := 26) rfl) ?_
          exfalso; omega
        ·
          refine b_iload_n (d86 (j := 23) rfl) rfl ?_
          exact b_iret (d86 (j := 24) rfl) rfl (k1 c1 M1 hR1 h86_1r)
    ·
      refine b_iload_n (d86 (j := 10) rfl) rfl ?_
      refine b_aload_n (d86 (j := 11) rfl) rfl ?_
      refine b_getR (d86 (j := 12) rfl) rfl rfl rfl rfl ?_
      refine b_stk [uR 4 24, uI i86_1] rfl ?_
      refine b_getI (d86 (j := 13) rfl) rfl rfl rfl rfl (Or.inl rfl) ?_
      refine b_stk [uI (M1 24 1), uI i86_1] rfl ?_
      refine b_icmp_gt (d86 (j := 14) rfl) (fun c6 => ?_) (fun c6 => ?_)
      rotate_left
      · exfalso; omega
      ·
        refine b_iconst (d86 (j := 27) rfl) (by decide) ?_
        exact b_iret (d86 (j := 28) rfl) rfl (k2 c1 M1 hR1 he)
  ·
    refine b_bipush (d86 (j := 3) rfl) (by decide) ?_
    exact b_iret (d86 (j := 4) rfl) rfl (k3 c1)
def L87 : List (Nat × Instr × Nat × Nat) := [(0, .aload_n 0, 1, 0), (1, .iload_n 1, 2, 0), (2, .invokevirtual 196, 5, 0), (5, .ifCond .ne 6, 8, 11), (8, .bipush (-2), 10, 0), (10, .ireturn, 11, 0), (11, .aload_n 0, 12, 0), (12, .invokevirtual 149, 15, 0), (15, .astore_n 2, 16, 0), (16, .iconst 0, 17, 0), (17, .istore_n 3, 18, 0), (18, .iconst 0, 19, 0), (19, .istore 4, 21, 0), (21, .iload 4, 23, 0), (23, .aload_n 0, 24, 0), (24, .getfield 23, 27, 0), (27, .getfield 142, 30, 0), (30, .if_icmp .ge 30, 33, 60), (33, .aload_n 2, 34, 0), (34, .getfield 153, 37, 0), (37, .iload 4, 39, 0), (39, .iload_n 1, 40, 0), (40, .invokestatic 156, 43, 0), (43, .iaload, 44, 0), (44, .ifCond .ne 10, 47, 54), (47, .iload_n 3, 48, 0), (48, .iconst 1, 49, 0), (49, .iload 4, 51, 0), (51, .ishl, 52, 0), (52, .ior, 53, 0), (53, .istore_n 3, 54, 0), (54, .iinc 4 1, 57, 0), (57, .goto (-36), 60, 21), (60, .iload_n 3, 61, 0), (61, .ireturn, 62, 0)]
set_option maxRecDepth 100000 in
theorem L87_ok : L87.all (dck 87) = true := by decide +kernel
theorem d87 {j pc nx tg : Nat} {ins : Instr} (hj : L87[j]? = some (pc, ins, nx, tg)) : dcd 87 pc ins nx tg := dcl_ok L87_ok hj
set_option maxRecDepth 100000 in
set_option maxHeartbeats 4000000 in
theorem r87_0 {x1 : Int} {R1 : dsMem → Prop} {M : dsMem} {Q : bQT} (hA1 : ((0 < (M 24 0) ∧ 0 ≤ x1 ∧ x1 ≤ (M 24 1))) → bCt 157 [uR 10 0] M (fun _ => [uR 5 47]) R1) (s1 : ((0 < (M 24 0) ∧ 0 ≤ x1 ∧ x1 ≤ (M 24 1))) → ∀ M1 : dsMem, R1 M1 → ∀ i87_1 : Int, ∀ a87_1 : Int, 0 ≤ i87_1 → i87_1 < (M1 24 5) → -2147483648 ≤ ((x1 * 6) + i87_1) ∧ ((x1 * 6) + i87_1) < 2147483648 := by intros; omega) (s2 : ((0 < (M 24 0) ∧ 0 ≤ x1 ∧ x1 ≤ (M 24 1))) → ∀ M1 : dsMem, R1 M1 → ∀ i87_1 : Int, ∀ a87_1 : Int, 0 ≤ i87_1 → i87_1 < (M1 24 5) → 0 ≤ ((x1 * 6) + i87_1) ∧ ((x1 * 6) + i87_1) < 78 := by intros; omega) (s3 : ((0 < (M 24 0) ∧ 0 ≤ x1 ∧ x1 ≤ (M 24 1))) → ∀ M1 : dsMem, R1 M1 → ∀ i87_1 : Int, ∀ a87_1 : Int, 0 ≤ i87_1 → i87_1 < (M1 24 5) → -2147483648 ≤ i87_1 + 1 ∧ i87_1 + 1 < 2147483648 := by intros; omega) (k1 : ((0 < (M 24 0) ∧ 0 ≤ x1 ∧ x1 ≤ (M 24 1))) → ∀ M1 : dsMem, R1 M1 → Q [uI (dsIter (fun (i87_1 : Int) (a87_1 : Int) => (if (M1 52 ((x1 * 6) + i87_1)) = 0 then (dsOr a87_1 (dsShl 1 i87_1)) else a87_1)) 0 (M1 24 5) 0)] M1) (k2 : (¬ (0 < (M 24 0) ∧ 0 ≤ x1 ∧ x1 ≤ (M 24 1))) → Q [uI (-2)] M) :
    bB 87 0 [uR 10 0, uI x1, uX 0, uX 0, uX 0] [] M Q := by
  refine b_aload_n (d87 (j := 0) rfl) rfl ?_
  refine b_iload_n (d87 (j := 1) rfl) rfl ?_
  refine b_callV (d87 (j := 2) rfl) rfl rfl (Or.inl rfl) rfl (bCk_mk (n := 0) (k := 2) (by decide +kernel) rfl rfl) (pu152  ?_)
  refine b_stk [uI (if (0 < (M 24 0) ∧ 0 ≤ x1 ∧ x1 ≤ (M 24 1)) then 1 else 0)] rfl ?_
  refine b_ifneP (d87 (j := 3) rfl) (fun c1 => ?_) (fun c1 => ?_)
  ·
    refine b_aload_n (d87 (j := 6) rfl) rfl ?_
    refine b_callV (d87 (j := 7) rfl) rfl rfl (Or.inl rfl) rfl (bCk_mk (n := 0) (k := 1) (by decide +kernel) rfl rfl) ((hA1 c1) _ (fun M1 hR1 => ?_))
    refine b_stk [uR 5 47] rfl ?_
    refine b_astore_n [uR 10 0, uI x1, uR 5 47, uX 0, uX 0] (d87 (j := 8) rfl) (by decide) rfl ?_
    refine b_iconst (d87 (j := 9) rfl) (by decide) ?_
    refine b_istore_n [uR 10 0, uI x1, uR 5 47, uI 0, uX 0] (d87 (j := 10) rfl) (by decide) rfl ?_
    refine b_iconst (d87 (j := 11) rfl) (by decide) ?_
    refine b_istore [uR 10 0, uI x1, uR 5 47, uI 0, uI 0] (d87 (j := 12) rfl) (by decide) rfl ?_
    refine b_for (fun (i87_1 : Int) (a87_1 : Int) => [uR 10 0, uI x1, uR 5 47, uI a87_1, uI i87_1]) (fun (i87_1 : Int) (a87_1 : Int) => (if (M1 52 ((x1 * 6) + i87_1)) = 0 then (dsOr a87_1 (dsShl 1 i87_1)) else a87_1)) 0 (M1 24 5) 0 (fun i87_1 a87_1 h87_1l h87_1r hk87_1 => ?_) (fun i87_1 h87_1l h87_1r => ?_)
    ·
      refine b_iload (d87 (j := 13) rfl) rfl ?_
      refine b_aload_n (d87 (j := 14) rfl) rfl ?_
      refine b_getR (d87 (j := 15) rfl) rfl rfl rfl rfl ?_
      refine b_stk [uR 4 24, uI i87_1] rfl ?_
      refine b_getI (d87 (j := 16) rfl) rfl rfl rfl rfl (Or.inl rfl) ?_
      refine b_stk [uI (M1 24 5), uI i87_1] rfl ?_
      refine b_icmp_ge (d87 (j := 17) rfl) (fun c2 => ?_) (fun c2 => ?_)
      · exfalso; omega
      ·
        refine b_aload_n (d87 (j := 18) rfl) rfl ?_
        refine b_getR (d87 (j := 19) rfl) rfl rfl rfl rfl ?_
        refine b_stk [uR 25 52] rfl ?_
        refine b_iload (d87 (j := 20) rfl) rfl ?_
        refine b_iload_n (d87 (j := 21) rfl) rfl ?_
        refine b_callS (d87 (j := 22) rfl) (Or.inl rfl) rfl (bCk_mk (n := 1) (k := 2) (by decide +kernel) rfl rfl) (pu146 (s1 c1 M1 hR1 i87_1 a87_1 h87_1l h87_1r) ?_)
        refine b_stk [uI ((x1 * 6) + i87_1), uR 25 52] rfl ?_
        refine b_iaload (d87 (j := 23) rfl) rfl (s2 c1 M1 hR1 i87_1 a87_1 h87_1l h87_1r) ?_
        refine b_if_ne (d87 (j := 24) rfl) (fun c3 => ?_) (fun c3 => ?_)
        ·
          rw [if_neg c3] at hk87_1
          refine b_iinc [uR 10 0, uI x1, uR 5 47, uI a87_1, uI (i87_1 + 1)] (d87 (j := 31) rfl) rfl (by decide) (s3 c1 M1 hR1 i87_1 a87_1 h87_1l h87_1r) rfl ?_
          refine b_goto (d87 (j := 32) rfl) ?_
          exact hk87_1
        ·
          rw [if_pos c3] at hk87_1
          refine b_iload_n (d87 (j := 25) rfl) rfl ?_
          refine b_iconst (d87 (j := 26) rfl) (by decide) ?_
          refine b_iload (d87 (j := 27) rfl) rfl ?_
          refine b_ishl (d87 (j := 28) rfl) ?_
          refine b_ior (d87 (j := 29) rfl) ?_
          refine b_istore_n [uR 10 0, uI x1, uR 5 47, uI (dsOr a87_1 (dsShl 1 i87_1)), uI i87_1] (d87 (j := 30) rfl) (by decide) rfl ?_
          refine b_iinc [uR 10 0, uI x1, uR 5 47, uI (dsOr a87_1 (dsShl 1 i87_1)), uI (i87_1 + 1)] (d87 (j := 31) rfl) rfl (by decide) (s3 c1 M1 hR1 i87_1 a87_1 h87_1l h87_1r) rfl ?_
          refine b_goto (d87 (j := 32) rfl) ?_
          exact hk87_1
    ·
      refine b_iload (d87 (j := 13) rfl) rfl ?_
      refine b_aload_n (d87 (j := 14) rfl) rfl ?_
      refine b_getR (d87 (j := 15) rfl) rfl rfl rfl rfl ?_
      refine b_stk [uR 4 24, uI i87_1] rfl ?_
      refine b_getI (d87 (j := 16) rfl) rfl rfl rfl rfl (Or.inl rfl) ?_
      refine b_stk [uI (M1 24 5), uI i87_1] rfl ?_
      refine b_icmp_ge (d87 (j := 17) rfl) (fun c4 => ?_) (fun c4 => ?_)
      rotate_left
      · exfalso; omega
      ·
        refine b_iload_n (d87 (j := 33) rfl) rfl ?_
        exact b_iret (d87 (j := 34) rfl) rfl (k1 c1 M1 hR1)
  ·
    refine b_bipush (d87 (j := 4) rfl) (by decide) ?_
    exact b_iret (d87 (j := 5) rfl) rfl (k2 c1)
def L88 : List (Nat × Instr × Nat × Nat) := [(0, .iload_n 1, 1, 0), (1, .invokestatic 169, 4, 0), (4, .ifCond .eq 11, 7, 15), (7, .aload_n 0, 8, 0), (8, .iload_n 2, 9, 0), (9, .invokevirtual 196, 12, 0), (12, .ifCond .ne 6, 15, 18), (15, .bipush (-2), 17, 0), (17, .ireturn, 18, 0), (18, .aload_n 0, 19, 0), (19, .invokevirtual 149, 22, 0), (22, .astore_n 3, 23, 0), (23, .iconst 0, 24, 0), (24, .istore 4, 26, 0), (26, .iconst 0, 27, 0), (27, .istore 5, 29, 0), (29, .iload 5, 31, 0), (31, .aload_n 0, 32, 0), (32, .getfield 23, 35, 0), (35, .getfield 142, 38, 0), (38, .if_icmp .ge 25, 41, 63), (41, .iload 4, 43, 0), (43, .aload_n 3, 44, 0), (44, .iload 5, 46, 0), (46, .iload_n 2, 47, 0), (47, .invokestatic 156, 50, 0), (50, .iload_n 1, 51, 0), (51, .invokevirtual 172, 54, 0), (54, .iadd, 55, 0), (55, .istore 4, 57, 0), (57, .iinc 5 1, 60, 0), (60, .goto (-31), 63, 29), (63, .iload 4, 65, 0), (65, .ireturn, 66, 0)]
set_option maxRecDepth 100000 in
theorem L88_ok : L88.all (dck 88) = true := by decide +kernel
theorem d88 {j pc nx tg : Nat} {ins : Instr} (hj : L88[j]? = some (pc, ins, nx, tg)) : dcd 88 pc ins nx tg := dcl_ok L88_ok hj
set_option maxRecDepth 100000 in
set_option maxHeartbeats 4000000 in
theorem r88_0 {x1 x2 : Int} {R1 : dsMem → Prop} {M : dsMem} {Q : bQT} (k1 : (¬ (1 ≤ x1 ∧ x1 ≤ 5)) → Q [uI (-2)] M) (hA1 : ((1 ≤ x1 ∧ x1 ≤ 5)) → ((0 < (M 24 0) ∧ 0 ≤ x2 ∧ x2 ≤ (M 24 1))) → bCt 157 [uR 10 0] M (fun _ => [uR 5 47]) R1) (s1 : ((1 ≤ x1 ∧ x1 ≤ 5)) → ((0 < (M 24 0) ∧ 0 ≤ x2 ∧ x2 ≤ (M 24 1))) → ∀ M1 : dsMem, R1 M1 → ∀ i88_1 : Int, ∀ a88_1 : Int, 0 ≤ i88_1 → i88_1 < (M1 24 5) → -2147483648 ≤ ((x2 * 6) + i88_1) ∧ ((x2 * 6) + i88_1) < 2147483648 := by intros; omega) (s2 : ((1 ≤ x1 ∧ x1 ≤ 5)) → ((0 < (M 24 0) ∧ 0 ≤ x2 ∧ x2 ≤ (M 24 1))) → ∀ M1 : dsMem, R1 M1 → ∀ i88_1 : Int, ∀ a88_1 : Int, 0 ≤ i88_1 → i88_1 < (M1 24 5) → ∀ i25_1 : Int, ∀ a25_1 : Int, 0 ≤ i25_1 → i25_1 < (M1 51 ((x2 * 6) + i88_1)) → 0 ≤ ((x2 * 6) + i88_1) ∧ ((x2 * 6) + i88_1) < 78 := by intros; omega) (s3 : ((1 ≤ x1 ∧ x1 ≤ 5)) → ((0 < (M 24 0) ∧ 0 ≤ x2 ∧ x2 ≤ (M 24 1))) → ∀ M1 : dsMem, R1 M1 → ∀ i88_1 : Int, ∀ a88_1 : Int, 0 ≤ i88_1 → i88_1 < (M1 24 5) → ∀ i25_1 : Int, ∀ a25_1 : Int, 0 ≤ i25_1 → i25_1 < (M1 51 ((x2 * 6) + i88_1)) → 0 ≤ ((((x2 * 6) + i88_1) * 60) + i25_1) ∧ ((((x2 * 6) + i88_1) * 60) + i25_1) < 4680 := by intros; omega) (s4 : ((1 ≤ x1 ∧ x1 ≤ 5)) → ((0 < (M 24 0) ∧ 0 ≤ x2 ∧ x2 ≤ (M 24 1))) → ∀ M1 : dsMem, R1 M1 → ∀ i88_1 : Int, ∀ a88_1 : Int, 0 ≤ i88_1 → i88_1 < (M1 24 5) → ∀ i25_1 : Int, ∀ a25_1 : Int, 0 ≤ i25_1 → i25_1 < (M1 51 ((x2 * 6) + i88_1)) → -2147483648 ≤ i25_1 + 1 ∧ i25_1 + 1 < 2147483648 := by intros; omega) (s5 : ((1 ≤ x1 ∧ x1 ≤ 5)) → ((0 < (M 24 0) ∧ 0 ≤ x2 ∧ x2 ≤ (M 24 1))) → ∀ M1 : dsMem, R1 M1 → ∀ i88_1 : Int, ∀ a88_1 : Int, 0 ≤ i88_1 → i88_1 < (M1 24 5) → 0 ≤ ((x2 * 6) + i88_1) ∧ ((x2 * 6) + i88_1) < 78 := by intros; omega) (s6 : ((1 ≤ x1 ∧ x1 ≤ 5)) → ((0 < (M 24 0) ∧ 0 ≤ x2 ∧ x2 ≤ (M 24 1))) → ∀ M1 : dsMem, R1 M1 → ∀ i88_1 : Int, ∀ a88_1 : Int, 0 ≤ i88_1 → i88_1 < (M1 24 5) → -2147483648 ≤ i88_1 + 1 ∧ i88_1 + 1 < 2147483648 := by intros; omega) (k2 : ((1 ≤ x1 ∧ x1 ≤ 5)) → ((0 < (M 24 0) ∧ 0 ≤ x2 ∧ x2 ≤ (M 24 1))) → ∀ M1 : dsMem, R1 M1 → Q [uI (dsIter (fun (i88_1 : Int) (a88_1 : Int) => (dsw ((a88_1 + (v25 M1 47 ((x2 * 6) + i88_1) x1))))) 0 (M1 24 5) 0)] M1) (k3 : ((1 ≤ x1 ∧ x1 ≤ 5)) → (¬ (0 < (M 24 0) ∧ 0 ≤ x2 ∧ x2 ≤ (M 24 1))) → Q [uI (-2)] M) :
    bB 88 0 [uR 10 0, uI x1, uI x2, uX 0, uX 0, uX 0] [] M Q := by
  refine b_iload_n (d88 (j := 0) rfl) rfl ?_
  refine b_callS (d88 (j := 1) rfl) (Or.inl rfl) rfl (bCk_mk (n := 0) (k := 1) (by decide +kernel) rfl rfl) (pu147  ?_)
  refine b_stk [uI (if (1 ≤ x1 ∧ x1 ≤ 5) then 1 else 0)] rfl ?_
  refine b_ifeqP (d88 (j := 2) rfl) (fun c1 => ?_) (fun c1 => ?_)
  ·
    refine b_bipush (d88 (j := 7) rfl) (by decide) ?_
    exact b_iret (d88 (j := 8) rfl) rfl (k1 c1)
  ·
    refine b_aload_n (d88 (j := 3) rfl) rfl ?_
    refine b_iload_n (d88 (j := 4) rfl) rfl ?_
    refine b_callV (d88 (j := 5) rfl) rfl rfl (Or.inl rfl) rfl (bCk_mk (n := 0) (k := 2) (by decide +kernel) rfl rfl) (pu152  ?_)
    refine b_stk [uI (if (0 < (M 24 0) ∧ 0 ≤ x2 ∧ x2 ≤ (M 24 1)) then 1 else 0)] rfl ?_
    refine b_ifneP (d88 (j := 6) rfl) (fun c2 => ?_) (fun c2 => ?_)
    ·
      refine b_aload_n (d88 (j := 9) rfl) rfl ?_
      refine b_callV (d88 (j := 10) rfl) rfl rfl (Or.inl rfl) rfl (bCk_mk (n := 0) (k := 1) (by decide +kernel) rfl rfl) ((hA1 c1 c2) _ (fun M1 hR1 => ?_))
      refine b_stk [uR 5 47] rfl ?_
      refine b_astore_n [uR 10 0, uI x1, uI x2, uR 5 47, uX 0, uX 0] (d88 (j := 11) rfl) (by decide) rfl ?_
      refine b_iconst (d88 (j := 12) rfl) (by decide) ?_
      refine b_istore [uR 10 0, uI x1, uI x2, uR 5 47, uI 0, uX 0] (d88 (j := 13) rfl) (by decide) rfl ?_
      refine b_iconst (d88 (j := 14) rfl) (by decide) ?_
      refine b_istore [uR 10 0, uI x1, uI x2, uR 5 47, uI 0, uI 0] (d88 (j := 15) rfl) (by decide) rfl ?_
      refine b_for (fun (i88_1 : Int) (a88_1 : Int) => [uR 10 0, uI x1, uI x2, uR 5 47, uI a88_1, uI i88_1]) (fun (i88_1 : Int) (a88_1 : Int) => (dsw ((a88_1 + (v25 M1 47 ((x2 * 6) + i88_1) x1))))) 0 (M1 24 5) 0 (fun i88_1 a88_1 h88_1l h88_1r hk88_1 => ?_) (fun i88_1 h88_1l h88_1r => ?_)
      ·
        refine b_iload (d88 (j := 16) rfl) rfl ?_
        refine b_aload_n (d88 (j := 17) rfl) rfl ?_
        refine b_getR (d88 (j := 18) rfl) rfl rfl rfl rfl ?_
        refine b_stk [uR 4 24, uI i88_1] rfl ?_
        refine b_getI (d88 (j := 19) rfl) rfl rfl rfl rfl (Or.inl rfl) ?_
        refine b_stk [uI (M1 24 5), uI i88_1] rfl ?_
        refine b_icmp_ge (d88 (j := 20) rfl) (fun c3 => ?_) (fun c3 => ?_)
        · exfalso; omega
        ·
          refine b_iload (d88 (j := 21) rfl) rfl ?_
          refine b_aload_n (d88 (j := 22) rfl) rfl ?_
          refine b_iload (d88 (j := 23) rfl) rfl ?_
          refine b_iload_n (d88 (j := 24) rfl) rfl ?_
          refine b_callS (d88 (j := 25) rfl) (Or.inl rfl) rfl (bCk_mk (n := 2) (k := 2) (by decide +kernel) rfl rfl) (pu146 (s1 c1 c2 M1 hR1 i88_1 a88_1 h88_1l h88_1r) ?_)
          refine b_stk [uI ((x2 * 6) + i88_1), uR 5 47, uI a88_1] rfl ?_
          refine b_iload_n (d88 (j := 26) rfl) rfl ?_
          refine b_callV (d88 (j := 27) rfl) rfl rfl (Or.inl rfl) rfl (bCk_mk (n := 1) (k := 3) (by decide +kernel) rfl rfl) (fx25 (s2 c1 c2 M1 hR1 i88_1 a88_1 h88_1l h88_1r) (s3 c1 c2 M1 hR1 i88_1 a88_1 h88_1l h88_1r) (s4 c1 c2 M1 hR1 i88_1 a88_1 h88_1l h88_1r) (s5 c1 c2 M1 hR1 i88_1 a88_1 h88_1l h88_1r) ?_)
          refine b_stk [uI (v25 M1 47 ((x2 * 6) + i88_1) x1), uI a88_1] rfl ?_
          refine b_iadd (d88 (j := 28) rfl) rfl rfl ?_
          refine b_istore [uR 10 0, uI x1, uI x2, uR 5 47, uI (dsw ((a88_1 + (v25 M1 47 ((x2 * 6) + i88_1) x1)))), uI i88_1] (d88 (j := 29) rfl) (by decide) rfl ?_
          refine b_iinc [uR 10 0, uI x1, uI x2, uR 5 47, uI (dsw ((a88_1 + (v25 M1 47 ((x2 * 6) + i88_1) x1)))), uI (i88_1 + 1)] (d88 (j := 30) rfl) rfl (by decide) (s6 c1 c2 M1 hR1 i88_1 a88_1 h88_1l h88_1r) rfl ?_
          refine b_goto (d88 (j := 31) rfl) ?_
          exact hk88_1
      ·
        refine b_iload (d88 (j := 16) rfl) rfl ?_
        refine b_aload_n (d88 (j := 17) rfl) rfl ?_
        refine b_getR (d88 (j := 18) rfl) rfl rfl rfl rfl ?_
        refine b_stk [uR 4 24, uI i88_1] rfl ?_
        refine b_getI (d88 (j := 19) rfl) rfl rfl rfl rfl (Or.inl rfl) ?_
        refine b_stk [uI (M1 24 5), uI i88_1] rfl ?_
        refine b_icmp_ge (d88 (j := 20) rfl) (fun c4 => ?_) (fun c4 => ?_)
        rotate_left
        · exfalso; omega
        ·
          refine b_iload (d88 (j := 32) rfl) rfl ?_
          exact b_iret (d88 (j := 33) rfl) rfl (k2 c1 c2 M1 hR1)
    ·
      refine b_bipush (d88 (j := 7) rfl) (by decide) ?_
      exact b_iret (d88 (j := 8) rfl) rfl (k3 c1 c2)
def L89 : List (Nat × Instr × Nat × Nat) := [(0, .aload_n 0, 1, 0), (1, .invokevirtual 179, 4, 0), (4, .ifCond .ne 6, 7, 10), (7, .bipush (-2), 9, 0), (9, .ireturn, 10, 0), (10, .aload_n 0, 11, 0), (11, .invokevirtual 149, 14, 0), (14, .astore_n 1, 15, 0), (15, .iconst 0, 16, 0), (16, .istore_n 2, 17, 0), (17, .iconst 0, 18, 0), (18, .istore_n 3, 19, 0), (19, .iload_n 3, 20, 0), (20, .aload_n 0, 21, 0), (21, .getfield 23, 24, 0), (24, .getfield 186, 27, 0), (27, .if_icmp .ge 18, 30, 45), (30, .iload_n 2, 31, 0), (31, .aload_n 1, 32, 0), (32, .getfield 199, 35, 0), (35, .iload_n 3, 36, 0), (36, .iaload, 37, 0), (37, .iadd, 38, 0), (38, .istore_n 2, 39, 0), (39, .iinc 3 1, 42, 0), (42, .goto (-23), 45, 19), (45, .iload_n 2, 46, 0), (46, .ireturn, 47, 0)]
set_option maxRecDepth 100000 in
theorem L89_ok : L89.all (dck 89) = true := by decide +kernel
theorem d89 {j pc nx tg : Nat} {ins : Instr} (hj : L89[j]? = some (pc, ins, nx, tg)) : dcd 89 pc ins nx tg := dcl_ok L89_ok hj
set_option maxRecDepth 100000 in
set_option maxHeartbeats 4000000 in
theorem r89_0  {R1 : dsMem → Prop} {M : dsMem} {Q : bQT} (hA1 : ((0 < (M 24 0))) → bCt 157 [uR 10 0] M (fun _ => [uR 5 47]) R1) (s1 : ((0 < (M 24 0))) → ∀ M1 : dsMem, R1 M1 → ∀ i89_1 : Int, ∀ a89_1 : Int, 0 ≤ i89_1 → i89_1 < (M1 24 1) → 0 ≤ i89_1 ∧ i89_1 < 12 := by intros; omega) (s2 : ((0 < (M 24 0))) → ∀ M1 : dsMem, R1 M1 → ∀ i89_1 : Int, ∀ a89_1 : Int, 0 ≤ i89_1 → i89_1 < (M1 24 1) → -2147483648 ≤ i89_1 + 1 ∧ i89_1 + 1 < 2147483648 := by intros; omega) (k1 : ((0 < (M 24 0))) → ∀ M1 : dsMem, R1 M1 → Q [uI (dsIter (fun (i89_1 : Int) (a89_1 : Int) => (dsw ((a89_1 + (M1 55 i89_1))))) 0 (M1 24 1) 0)] M1) (k2 : (¬ (0 < (M 24 0))) → Q [uI (-2)] M) :
    bB 89 0 [uR 10 0, uX 0, uX 0, uX 0] [] M Q := by
  refine b_aload_n (d89 (j := 0) rfl) rfl ?_
  refine b_callV (d89 (j := 1) rfl) rfl rfl (Or.inl rfl) rfl (bCk_mk (n := 0) (k := 1) (by decide +kernel) rfl rfl) (pu149  ?_)
  refine b_stk [uI (if (0 < (M 24 0)) then 1 else 0)] rfl ?_
  refine b_ifneP (d89 (j := 2) rfl) (fun c1 => ?_) (fun c1 => ?_)
  ·
    refine b_aload_n (d89 (j := 5) rfl) rfl ?_
    refine b_callV (d89 (j := 6) rfl) rfl rfl (Or.inl rfl) rfl (bCk_mk (n := 0) (k := 1) (by decide +kernel) rfl rfl) ((hA1 c1) _ (fun M1 hR1 => ?_))
    refine b_stk [uR 5 47] rfl ?_
    refine b_astore_n [uR 10 0, uR 5 47, uX 0, uX 0] (d89 (j := 7) rfl) (by decide) rfl ?_
    refine b_iconst (d89 (j := 8) rfl) (by decide) ?_
    refine b_istore_n [uR 10 0, uR 5 47, uI 0, uX 0] (d89 (j := 9) rfl) (by decide) rfl ?_
    refine b_iconst (d89 (j := 10) rfl) (by decide) ?_
    refine b_istore_n [uR 10 0, uR 5 47, uI 0, uI 0] (d89 (j := 11) rfl) (by decide) rfl ?_
    refine b_for (fun (i89_1 : Int) (a89_1 : Int) => [uR 10 0, uR 5 47, uI a89_1, uI i89_1]) (fun (i89_1 : Int) (a89_1 : Int) => (dsw ((a89_1 + (M1 55 i89_1))))) 0 (M1 24 1) 0 (fun i89_1 a89_1 h89_1l h89_1r hk89_1 => ?_) (fun i89_1 h89_1l h89_1r => ?_)
    ·
      refine b_iload_n (d89 (j := 12) rfl) rfl ?_
      refine b_aload_n (d89 (j := 13) rfl) rfl ?_
      refine b_getR (d89 (j := 14) rfl) rfl rfl rfl rfl ?_
      refine b_stk [uR 4 24, uI i89_1] rfl ?_
      refine b_getI (d89 (j := 15) rfl) rfl rfl rfl rfl (Or.inl rfl) ?_
      refine b_stk [uI (M1 24 1), uI i89_1] rfl ?_
      refine b_icmp_ge (d89 (j := 16) rfl) (fun c2 => ?_) (fun c2 => ?_)
      · exfalso; omega
      ·
        refine b_iload_n (d89 (j := 17) rfl) rfl ?_
        refine b_aload_n (d89 (j := 18) rfl) rfl ?_
        refine b_getR (d89 (j := 19) rfl) rfl rfl rfl rfl ?_
        refine b_stk [uR 28 55, uI a89_1] rfl ?_
        refine b_iload_n (d89 (j := 20) rfl) rfl ?_
        refine b_iaload (d89 (j := 21) rfl) rfl (s1 c1 M1 hR1 i89_1 a89_1 h89_1l h89_1r) ?_
        refine b_iadd (d89 (j := 22) rfl) rfl rfl ?_
        refine b_istore_n [uR 10 0, uR 5 47, uI (dsw ((a89_1 + (M1 55 i89_1)))), uI i89_1] (d89 (j := 23) rfl) (by decide) rfl ?_
        refine b_iinc [uR 10 0, uR 5 47, uI (dsw ((a89_1 + (M1 55 i89_1)))), uI (i89_1 + 1)] (d89 (j := 24) rfl) rfl (by decide) (s2 c1 M1 hR1 i89_1 a89_1 h89_1l h89_1r) rfl ?_
        refine b_goto (d89 (j := 25) rfl) ?_
        exact hk89_1
    ·
      refine b_iload_n (d89 (j := 12) rfl) rfl ?_
      refine b_aload_n (d89 (j := 13) rfl) rfl ?_
      refine b_getR (d89 (j := 14) rfl) rfl rfl rfl rfl ?_
      refine b_stk [uR 4 24, uI i89_1] rfl ?_
      refine b_getI (d89 (j := 15) rfl) rfl rfl rfl rfl (Or.inl rfl) ?_
      refine b_stk [uI (M1 24 1), uI i89_1] rfl ?_
      refine b_icmp_ge (d89 (j := 16) rfl) (fun c3 => ?_) (fun c3 => ?_)
      rotate_left
      · exfalso; omega
      ·
        refine b_iload_n (d89 (j := 26) rfl) rfl ?_
        exact b_iret (d89 (j := 27) rfl) rfl (k1 c1 M1 hR1)
  ·
    refine b_bipush (d89 (j := 3) rfl) (by decide) ?_
    exact b_iret (d89 (j := 4) rfl) rfl (k2 c1)
def L90 : List (Nat × Instr × Nat × Nat) := [(0, .aload_n 0, 1, 0), (1, .iload_n 1, 2, 0), (2, .invokevirtual 196, 5, 0), (5, .ifCond .ne 6, 8, 11), (8, .bipush (-2), 10, 0), (10, .ireturn, 11, 0), (11, .aload_n 0, 12, 0), (12, .invokevirtual 149, 15, 0), (15, .astore_n 2, 16, 0), (16, .iconst 0, 17, 0), (17, .istore_n 3, 18, 0), (18, .aload_n 0, 19, 0), (19, .getfield 23, 22, 0), (22, .getfield 142, 25, 0), (25, .ifCond .ne 7, 28, 32), (28, .iconst 0, 29, 0), (29, .goto 5, 32, 34), (32, .bipush 60, 34, 0), (34, .istore 4, 36, 0), (36, .iconst 0, 37, 0), (37, .istore 5, 39, 0), (39, .iload 5, 41, 0), (41, .aload_n 0, 42, 0), (42, .getfield 23, 45, 0), (45, .getfield 142, 48, 0), (48, .if_icmp .ge 38, 51, 86), (51, .aload_n 2, 52, 0), (52, .getfield 153, 55, 0), (55, .iload 5, 57, 0), (57, .iload_n 1, 58, 0), (58, .invokestatic 156, 61, 0), (61, .iaload, 62, 0), (62, .istore 6, 64, 0), (64, .iload_n 3, 65, 0), (65, .iload 6, 67, 0), (67, .invokestatic 202, 70, 0), (70, .istore_n 3, 71, 0), (71, .iload 4, 73, 0), (73, .iload 6, 75, 0), (75, .invokestatic 207, 78, 0), (78, .istore 4, 80, 0), (80, .iinc 5 1, 83, 0), (83, .goto (-44), 86, 39), (86, .iload_n 3, 87, 0), (87, .iload 4, 89, 0), (89, .isub, 90, 0), (90, .ireturn, 91, 0)]
set_option maxRecDepth 100000 in
theorem L90_ok : L90.all (dck 90) = true := by decide +kernel
theorem d90 {j pc nx tg : Nat} {ins : Instr} (hj : L90[j]? = some (pc, ins, nx, tg)) : dcd 90 pc ins nx tg := dcl_ok L90_ok hj
set_option maxRecDepth 100000 in
set_option maxHeartbeats 4000000 in
theorem r90_0 {x1 : Int} {R1 : dsMem → Prop} {M : dsMem} {Q : bQT} (hA1 : ((0 < (M 24 0) ∧ 0 ≤ x1 ∧ x1 ≤ (M 24 1))) → bCt 157 [uR 10 0] M (fun _ => [uR 5 47]) R1) (s1 : ((0 < (M 24 0) ∧ 0 ≤ x1 ∧ x1 ≤ (M 24 1))) → ∀ M1 : dsMem, R1 M1 → (¬ (M1 24 5) = 0) → ∀ i90_1 : Int, ∀ a90_1 : Int × Int, 0 ≤ i90_1 → i90_1 < (M1 24 5) → -2147483648 ≤ ((x1 * 6) + i90_1) ∧ ((x1 * 6) + i90_1) < 2147483648 := by intros; omega) (s2 : ((0 < (M 24 0) ∧ 0 ≤ x1 ∧ x1 ≤ (M 24 1))) → ∀ M1 : dsMem, R1 M1 → (¬ (M1 24 5) = 0) → ∀ i90_1 : Int, ∀ a90_1 : Int × Int, 0 ≤ i90_1 → i90_1 < (M1 24 5) → 0 ≤ ((x1 * 6) + i90_1) ∧ ((x1 * 6) + i90_1) < 78 := by intros; omega) (s3 : ((0 < (M 24 0) ∧ 0 ≤ x1 ∧ x1 ≤ (M 24 1))) → ∀ M1 : dsMem, R1 M1 → (¬ (M1 24 5) = 0) → ∀ i90_1 : Int, ∀ a90_1 : Int × Int, 0 ≤ i90_1 → i90_1 < (M1 24 5) → -2147483648 ≤ i90_1 + 1 ∧ i90_1 + 1 < 2147483648 := by intros; omega) (k1 : ((0 < (M 24 0) ∧ 0 ≤ x1 ∧ x1 ≤ (M 24 1))) → ∀ M1 : dsMem, R1 M1 → (¬ (M1 24 5) = 0) → Q [uI (dsw ((((dsIter (fun (i90_1 : Int) (a90_1 : Int × Int) => ((if a90_1.1 < (M1 52 ((x1 * 6) + i90_1)) then (M1 52 ((x1 * 6) + i90_1)) else a90_1.1), (if (M1 52 ((x1 * 6) + i90_1)) < a90_1.2 then (M1 52 ((x1 * 6) + i90_1)) else a90_1.2))) 0 (M1 24 5) (0, 60)).1) - ((dsIter (fun (i90_1 : Int) (a90_1 : Int × Int) => ((if a90_1.1 < (M1 52 ((x1 * 6) + i90_1)) then (M1 52 ((x1 * 6) + i90_1)) else a90_1.1), (if (M1 52 ((x1 * 6) + i90_1)) < a90_1.2 then (M1 52 ((x1 * 6) + i90_1)) else a90_1.2))) 0 (M1 24 5) (0, 60)).2))))] M1) (s4 : ((0 < (M 24 0) ∧ 0 ≤ x1 ∧ x1 ≤ (M 24 1))) → ∀ M1 : dsMem, R1 M1 → ((M1 24 5) = 0) → ∀ i90_2 : Int, ∀ a90_2 : Int × Int, 0 ≤ i90_2 → i90_2 < (M1 24 5) → -2147483648 ≤ ((x1 * 6) + i90_2) ∧ ((x1 * 6) + i90_2) < 2147483648 := by intros; omega) (s5 : ((0 < (M 24 0) ∧ 0 ≤ x1 ∧ x1 ≤ (M 24 1))) → ∀ M1 : dsMem, R1 M1 → ((M1 24 5) = 0) → ∀ i90_2 : Int, ∀ a90_2 : Int × Int, 0 ≤ i90_2 → i90_2 < (M1 24 5) → 0 ≤ ((x1 * 6) + i90_2) ∧ ((x1 * 6) + i90_2) < 78 := by intros; omega) (s6 : ((0 < (M 24 0) ∧ 0 ≤ x1 ∧ x1 ≤ (M 24 1))) → ∀ M1 : dsMem, R1 M1 → ((M1 24 5) = 0) → ∀ i90_2 : Int, ∀ a90_2 : Int × Int, 0 ≤ i90_2 → i90_2 < (M1 24 5) → -2147483648 ≤ i90_2 + 1 ∧ i90_2 + 1 < 2147483648 := by intros; omega) (k2 : ((0 < (M 24 0) ∧ 0 ≤ x1 ∧ x1 ≤ (M 24 1))) → ∀ M1 : dsMem, R1 M1 → ((M1 24 5) = 0) → Q [uI (dsw ((((dsIter (fun (i90_2 : Int) (a90_2 : Int × Int) => ((if a90_2.1 < (M1 52 ((x1 * 6) + i90_2)) then (M1 52 ((x1 * 6) + i90_2)) else a90_2.1), (if (M1 52 ((x1 * 6) + i90_2)) < a90_2.2 then (M1 52 ((x1 * 6) + i90_2)) else a90_2.2))) 0 (M1 24 5) (0, 0)).1) - ((dsIter (fun (i90_2 : Int) (a90_2 : Int × Int) => ((if a90_2.1 < (M1 52 ((x1 * 6) + i90_2)) then (M1 52 ((x1 * 6) + i90_2)) else a90_2.1), (if (M1 52 ((x1 * 6) + i90_2)) < a90_2.2 then (M1 52 ((x1 * 6) + i90_2)) else a90_2.2))) 0 (M1 24 5) (0, 0)).2))))] M1) (k3 : (¬ (0 < (M 24 0) ∧ 0 ≤ x1 ∧ x1 ≤ (M 24 1))) → Q [uI (-2)] M) :
    bB 90 0 [uR 10 0, uI x1, uX 0, uX 0, uX 0, uX 0, uX 0] [] M Q := by
  refine b_aload_n (d90 (j := 0) rfl) rfl ?_
  refine b_iload_n (d90 (j := 1) rfl) rfl ?_
  refine b_callV (d90 (j := 2) rfl) rfl rfl (Or.inl rfl) rfl (bCk_mk (n := 0) (k := 2) (by decide +kernel) rfl rfl) (pu152  ?_)
  refine b_stk [uI (if (0 < (M 24 0) ∧ 0 ≤ x1 ∧ x1 ≤ (M 24 1)) then 1 else 0)] rfl ?_
  refine b_ifneP (d90 (j := 3) rfl) (fun c1 => ?_) (fun c1 => ?_)
  ·
    refine b_aload_n (d90 (j := 6) rfl) rfl ?_
    refine b_callV (d90 (j := 7) rfl) rfl rfl (Or.inl rfl) rfl (bCk_mk (n := 0) (k := 1) (by decide +kernel) rfl rfl) ((hA1 c1) _ (fun M1 hR1 => ?_))
    refine b_stk [uR 5 47] rfl ?_
    refine b_astore_n [uR 10 0, uI x1, uR 5 47, uX 0, uX 0, uX 0, uX 0] (d90 (j := 8) rfl) (by decide) rfl ?_
    refine b_iconst (d90 (j := 9) rfl) (by decide) ?_
    refine b_istore_n [uR 10 0, uI x1, uR 5 47, uI 0, uX 0, uX 0, uX 0] (d90 (j := 10) rfl) (by decide) rfl ?_
    refine b_aload_n (d90 (j := 11) rfl) rfl ?_
    refine b_getR (d90 (j := 12) rfl) rfl rfl rfl rfl ?_
    refine b_stk [uR 4 24] rfl ?_
    refine b_getI (d90 (j := 13) rfl) rfl rfl rfl rfl (Or.inl rfl) ?_
    refine b_stk [uI (M1 24 5)] rfl ?_
    refine b_if_ne (d90 (j := 14) rfl) (fun c2 => ?_) (fun c2 => ?_)
    ·
      refine b_bipush (d90 (j := 17) rfl) (by decide) ?_
      refine b_istore [uR 10 0, uI x1, uR 5 47, uI 0, uI 60, uX 0, uX 0] (d90 (j := 18) rfl) (by decide) rfl ?_
      refine b_iconst (d90 (j := 19) rfl) (by decide) ?_
      refine b_istore [uR 10 0, uI x1, uR 5 47, uI 0, uI 60, uI 0, uX 0] (d90 (j := 20) rfl) (by decide) rfl ?_
      refine b_for (fun (i90_1 : Int) (a90_1 : Int × Int) => [uR 10 0, uI x1, uR 5 47, uI (a90_1.1), uI (a90_1.2), uI i90_1, uX 0]) (fun (i90_1 : Int) (a90_1 : Int × Int) => ((if a90_1.1 < (M1 52 ((x1 * 6) + i90_1)) then (M1 52 ((x1 * 6) + i90_1)) else a90_1.1), (if (M1 52 ((x1 * 6) + i90_1)) < a90_1.2 then (M1 52 ((x1 * 6) + i90_1)) else a90_1.2))) 0 (M1 24 5) (0, 60) (fun i90_1 a90_1 h90_1l h90_1r hk90_1 => ?_) (fun i90_1 h90_1l h90_1r => ?_)
      ·
        refine b_iload (d90 (j := 21) rfl) rfl ?_
        refine b_aload_n (d90 (j := 22) rfl) rfl ?_
        refine b_getR (d90 (j := 23) rfl) rfl rfl rfl rfl ?_
        refine b_stk [uR 4 24, uI i90_1] rfl ?_
        refine b_getI (d90 (j := 24) rfl) rfl rfl rfl rfl (Or.inl rfl) ?_
        refine b_stk [uI (M1 24 5), uI i90_1] rfl ?_
        refine b_icmp_ge (d90 (j := 25) rfl) (fun c3 => ?_) (fun c3 => ?_)
        · exfalso; omega
        ·
          refine b_aload_n (d90 (j := 26) rfl) rfl ?_
          refine b_getR (d90 (j := 27) rfl) rfl rfl rfl rfl ?_
          refine b_stk [uR 25 52] rfl ?_
          refine b_iload (d90 (j := 28) rfl) rfl ?_
          refine b_iload_n (d90 (j := 29) rfl) rfl ?_
          refine b_callS (d90 (j := 30) rfl) (Or.inl rfl) rfl (bCk_mk (n := 1) (k := 2) (by decide +kernel) rfl rfl) (pu146 (s1 c1 M1 hR1 c2 i90_1 a90_1 h90_1l h90_1r) ?_)
          refine b_stk [uI ((x1 * 6) + i90_1), uR 25 52] rfl ?_
          refine b_iaload (d90 (j := 31) rfl) rfl (s2 c1 M1 hR1 c2 i90_1 a90_1 h90_1l h90_1r) ?_
          refine b_istore [uR 10 0, uI x1, uR 5 47, uI (a90_1.1), uI (a90_1.2), uI i90_1, uI (M1 52 ((x1 * 6) + i90_1))] (d90 (j := 32) rfl) (by decide) rfl ?_
          refine b_iload_n (d90 (j := 33) rfl) rfl ?_
          refine b_iload (d90 (j := 34) rfl) rfl ?_
          refine b_max (d90 (j := 35) rfl) rfl ⟨by decide, Nat.le_of_ble_eq_true rfl⟩ ?_
          refine b_istore_n [uR 10 0, uI x1, uR 5 47, uI (if a90_1.1 < (M1 52 ((x1 * 6) + i90_1)) then (M1 52 ((x1 * 6) + i90_1)) else a90_1.1), uI (a90_1.2), uI i90_1, uI (M1 52 ((x1 * 6) + i90_1))] (d90 (j := 36) rfl) (by decide) rfl ?_
          refine b_iload (d90 (j := 37) rfl) rfl ?_
          refine b_iload (d90 (j := 38) rfl) rfl ?_
          refine b_min (d90 (j := 39) rfl) rfl ⟨by decide, Nat.le_of_ble_eq_true rfl⟩ ?_
          refine b_istore [uR 10 0, uI x1, uR 5 47, uI (if a90_1.1 < (M1 52 ((x1 * 6) + i90_1)) then (M1 52 ((x1 * 6) + i90_1)) else a90_1.1), uI (if (M1 52 ((x1 * 6) + i90_1)) < a90_1.2 then (M1 52 ((x1 * 6) + i90_1)) else a90_1.2), uI i90_1, uI (M1 52 ((x1 * 6) + i90_1))] (d90 (j := 40) rfl) (by decide) rfl ?_
          refine b_iinc [uR 10 0, uI x1, uR 5 47, uI (if a90_1.1 < (M1 52 ((x1 * 6) + i90_1)) then (M1 52 ((x1 * 6) + i90_1)) else a90_1.1), uI (if (M1 52 ((x1 * 6) + i90_1)) < a90_1.2 then (M1 52 ((x1 * 6) + i90_1)) else a90_1.2), uI (i90_1 + 1), uI (M1 52 ((x1 * 6) + i90_1))] (d90 (j := 41) rfl) rfl (by decide) (s3 c1 M1 hR1 c2 i90_1 a90_1 h90_1l h90_1r) rfl ?_
          refine b_goto (d90 (j := 42) rfl) ?_
          exact bB_le _ (bLe_s (bLe_s (bLe_s (bLe_s (bLe_s (bLe_s (bLe_x bLe_nil))))))) hk90_1
      ·
        refine b_iload (d90 (j := 21) rfl) rfl ?_
        refine b_aload_n (d90 (j := 22) rfl) rfl ?_
        refine b_getR (d90 (j := 23) rfl) rfl rfl rfl rfl ?_
        refine b_stk [uR 4 24, uI i90_1] rfl ?_
        refine b_getI (d90 (j := 24) rfl) rfl rfl rfl rfl (Or.inl rfl) ?_
        refine b_stk [uI (M1 24 5), uI i90_1] rfl ?_
        refine b_icmp_ge (d90 (j := 25) rfl) (fun c4 => ?_) (fun c4 => ?_)
        rotate_left
        · exfalso; omega
        ·
          refine b_iload_n (d90 (j := 43) rfl) rfl ?_
          refine b_iload (d90 (j := 44) rfl) rfl ?_
          refine b_isub (d90 (j := 45) rfl) rfl rfl ?_
          exact b_iret (d90 (j := 46) rfl) rfl (k1 c1 M1 hR1 c2)
    ·
      refine b_iconst (d90 (j := 15) rfl) (by decide) ?_
      refine b_goto (d90 (j := 16) rfl) ?_
      refine b_istore [uR 10 0, uI x1, uR 5 47, uI 0, uI 0, uX 0, uX 0] (d90 (j := 18) rfl) (by decide) rfl ?_
      refine b_iconst (d90 (j := 19) rfl) (by decide) ?_
      refine b_istore [uR 10 0, uI x1, uR 5 47, uI 0, uI 0, uI 0, uX 0] (d90 (j := 20) rfl) (by decide) rfl ?_
      refine b_for (fun (i90_2 : Int) (a90_2 : Int × Int) => [uR 10 0, uI x1, uR 5 47, uI (a90_2.1), uI (a90_2.2), uI i90_2, uX 0]) (fun (i90_2 : Int) (a90_2 : Int × Int) => ((if a90_2.1 < (M1 52 ((x1 * 6) + i90_2)) then (M1 52 ((x1 * 6) + i90_2)) else a90_2.1), (if (M1 52 ((x1 * 6) + i90_2)) < a90_2.2 then (M1 52 ((x1 * 6) + i90_2)) else a90_2.2))) 0 (M1 24 5) (0, 0) (fun i90_2 a90_2 h90_2l h90_2r hk90_2 => ?_) (fun i90_2 h90_2l h90_2r => ?_)
      ·
        refine b_iload (d90 (j := 21) rfl) rfl ?_
        refine b_aload_n (d90 (j := 22) rfl) rfl ?_
        refine b_getR (d90 (j := 23) rfl) rfl rfl rfl rfl ?_
        refine b_stk [uR 4 24, uI i90_2] rfl ?_
        refine b_getI (d90 (j := 24) rfl) rfl rfl rfl rfl (Or.inl rfl) ?_
        refine b_stk [uI (M1 24 5), uI i90_2] rfl ?_
        refine b_icmp_ge (d90 (j := 25) rfl) (fun c5 => ?_) (fun c5 => ?_)
        · exfalso; omega
        ·
          refine b_aload_n (d90 (j := 26) rfl) rfl ?_
          refine b_getR (d90 (j := 27) rfl) rfl rfl rfl rfl ?_
          refine b_stk [uR 25 52] rfl ?_
          refine b_iload (d90 (j := 28) rfl) rfl ?_
          refine b_iload_n (d90 (j := 29) rfl) rfl ?_
          refine b_callS (d90 (j := 30) rfl) (Or.inl rfl) rfl (bCk_mk (n := 1) (k := 2) (by decide +kernel) rfl rfl) (pu146 (s4 c1 M1 hR1 c2 i90_2 a90_2 h90_2l h90_2r) ?_)
          refine b_stk [uI ((x1 * 6) + i90_2), uR 25 52] rfl ?_
          refine b_iaload (d90 (j := 31) rfl) rfl (s5 c1 M1 hR1 c2 i90_2 a90_2 h90_2l h90_2r) ?_
          refine b_istore [uR 10 0, uI x1, uR 5 47, uI (a90_2.1), uI (a90_2.2), uI i90_2, uI (M1 52 ((x1 * 6) + i90_2))] (d90 (j := 32) rfl) (by decide) rfl ?_
          refine b_iload_n (d90 (j := 33) rfl) rfl ?_
          refine b_iload (d90 (j := 34) rfl) rfl ?_
          refine b_max (d90 (j := 35) rfl) rfl ⟨by decide, Nat.le_of_ble_eq_true rfl⟩ ?_
          refine b_istore_n [uR 10 0, uI x1, uR 5 47, uI (if a90_2.1 < (M1 52 ((x1 * 6) + i90_2)) then (M1 52 ((x1 * 6) + i90_2)) else a90_2.1), uI (a90_2.2), uI i90_2, uI (M1 52 ((x1 * 6) + i90_2))] (d90 (j := 36) rfl) (by decide) rfl ?_
          refine b_iload (d90 (j := 37) rfl) rfl ?_
          refine b_iload (d90 (j := 38) rfl) rfl ?_
          refine b_min (d90 (j := 39) rfl) rfl ⟨by decide, Nat.le_of_ble_eq_true rfl⟩ ?_
          refine b_istore [uR 10 0, uI x1, uR 5 47, uI (if a90_2.1 < (M1 52 ((x1 * 6) + i90_2)) then (M1 52 ((x1 * 6) + i90_2)) else a90_2.1), uI (if (M1 52 ((x1 * 6) + i90_2)) < a90_2.2 then (M1 52 ((x1 * 6) + i90_2)) else a90_2.2), uI i90_2, uI (M1 52 ((x1 * 6) + i90_2))] (d90 (j := 40) rfl) (by decide) rfl ?_
          refine b_iinc [uR 10 0, uI x1, uR 5 47, uI (if a90_2.1 < (M1 52 ((x1 * 6) + i90_2)) then (M1 52 ((x1 * 6) + i90_2)) else a90_2.1), uI (if (M1 52 ((x1 * 6) + i90_2)) < a90_2.2 then (M1 52 ((x1 * 6) + i90_2)) else a90_2.2), uI (i90_2 + 1), uI (M1 52 ((x1 * 6) + i90_2))] (d90 (j := 41) rfl) rfl (by decide) (s6 c1 M1 hR1 c2 i90_2 a90_2 h90_2l h90_2r) rfl ?_
          refine b_goto (d90 (j := 42) rfl) ?_
          exact bB_le _ (bLe_s (bLe_s (bLe_s (bLe_s (bLe_s (bLe_s (bLe_x bLe_nil))))))) hk90_2
      ·
        refine b_iload (d90 (j := 21) rfl) rfl ?_
        refine b_aload_n (d90 (j := 22) rfl) rfl ?_
        refine b_getR (d90 (j := 23) rfl) rfl rfl rfl rfl ?_
        refine b_stk [uR 4 24, uI i90_2] rfl ?_
        refine b_getI (d90 (j := 24) rfl) rfl rfl rfl rfl (Or.inl rfl) ?_
        refine b_stk [uI (M1 24 5), uI i90_2] rfl ?_
        refine b_icmp_ge (d90 (j := 25) rfl) (fun c6 => ?_) (fun c6 => ?_)
        rotate_left
        · exfalso; omega
        ·
          refine b_iload_n (d90 (j := 43) rfl) rfl ?_
          refine b_iload (d90 (j := 44) rfl) rfl ?_
          refine b_isub (d90 (j := 45) rfl) rfl rfl ?_
          exact b_iret (d90 (j := 46) rfl) rfl (k2 c1 M1 hR1 c2)
  ·
    refine b_bipush (d90 (j := 4) rfl) (by decide) ?_
    exact b_iret (d90 (j := 5) rfl) rfl (k3 c1)
def L91 : List (Nat × Instr × Nat × Nat) := [(0, .aload_n 0, 1, 0), (1, .iload_n 1, 2, 0), (2, .invokevirtual 196, 5, 0), (5, .ifCond .ne 6, 8, 11), (8, .bipush (-2), 10, 0), (10, .ireturn, 11, 0), (11, .aload_n 0, 12, 0), (12, .invokevirtual 149, 15, 0), (15, .astore_n 2, 16, 0), (16, .iconst 0, 17, 0), (17, .istore_n 3, 18, 0), (18, .iconst 0, 19, 0), (19, .istore 4, 21, 0), (21, .iload 4, 23, 0), (23, .aload_n 0, 24, 0), (24, .getfield 23, 27, 0), (27, .getfield 142, 30, 0), (30, .if_icmp .ge 40, 33, 70), (33, .aload_n 2, 34, 0), (34, .getfield 153, 37, 0), (37, .iload 4, 39, 0), (39, .iload_n 1, 40, 0), (40, .invokestatic 156, 43, 0), (43, .iaload, 44, 0), (44, .aload_n 0, 45, 0), (45, .getfield 23, 48, 0), (48, .getfield 117, 51, 0), (51, .iload 4, 53, 0), (53, .iaload, 54, 0), (54, .if_icmp .ne 10, 57, 64), (57, .iload_n 3, 58, 0), (58, .iconst 1, 59, 0), (59, .iload 4, 61, 0), (61, .ishl, 62, 0), (62, .ior, 63, 0), (63, .istore_n 3, 64, 0), (64, .iinc 4 1, 67, 0), (67, .goto (-46), 70, 21), (70, .iload_n 3, 71, 0), (71, .ireturn, 72, 0)]
set_option maxRecDepth 100000 in
theorem L91_ok : L91.all (dck 91) = true := by decide +kernel
theorem d91 {j pc nx tg : Nat} {ins : Instr} (hj : L91[j]? = some (pc, ins, nx, tg)) : dcd 91 pc ins nx tg := dcl_ok L91_ok hj
set_option maxRecDepth 100000 in
set_option maxHeartbeats 4000000 in
theorem r91_0 {x1 : Int} {R1 : dsMem → Prop} {M : dsMem} {Q : bQT} (hA1 : ((0 < (M 24 0) ∧ 0 ≤ x1 ∧ x1 ≤ (M 24 1))) → bCt 157 [uR 10 0] M (fun _ => [uR 5 47]) R1) (s1 : ((0 < (M 24 0) ∧ 0 ≤ x1 ∧ x1 ≤ (M 24 1))) → ∀ M1 : dsMem, R1 M1 → ∀ i91_1 : Int, ∀ a91_1 : Int, 0 ≤ i91_1 → i91_1 < (M1 24 5) → -2147483648 ≤ ((x1 * 6) + i91_1) ∧ ((x1 * 6) + i91_1) < 2147483648 := by intros; omega) (s2 : ((0 < (M 24 0) ∧ 0 ≤ x1 ∧ x1 ≤ (M 24 1))) → ∀ M1 : dsMem, R1 M1 → ∀ i91_1 : Int, ∀ a91_1 : Int, 0 ≤ i91_1 → i91_1 < (M1 24 5) → 0 ≤ ((x1 * 6) + i91_1) ∧ ((x1 * 6) + i91_1) < 78 := by intros; omega) (s3 : ((0 < (M 24 0) ∧ 0 ≤ x1 ∧ x1 ≤ (M 24 1))) → ∀ M1 : dsMem, R1 M1 → ∀ i91_1 : Int, ∀ a91_1 : Int, 0 ≤ i91_1 → i91_1 < (M1 24 5) → 0 ≤ i91_1 ∧ i91_1 < 6 := by intros; omega) (s4 : ((0 < (M 24 0) ∧ 0 ≤ x1 ∧ x1 ≤ (M 24 1))) → ∀ M1 : dsMem, R1 M1 → ∀ i91_1 : Int, ∀ a91_1 : Int, 0 ≤ i91_1 → i91_1 < (M1 24 5) → -2147483648 ≤ i91_1 + 1 ∧ i91_1 + 1 < 2147483648 := by intros; omega) (k1 : ((0 < (M 24 0) ∧ 0 ≤ x1 ∧ x1 ≤ (M 24 1))) → ∀ M1 : dsMem, R1 M1 → Q [uI (dsIter (fun (i91_1 : Int) (a91_1 : Int) => (if (M1 52 ((x1 * 6) + i91_1)) = (M1 27 i91_1) then (dsOr a91_1 (dsShl 1 i91_1)) else a91_1)) 0 (M1 24 5) 0)] M1) (k2 : (¬ (0 < (M 24 0) ∧ 0 ≤ x1 ∧ x1 ≤ (M 24 1))) → Q [uI (-2)] M) :
    bB 91 0 [uR 10 0, uI x1, uX 0, uX 0, uX 0] [] M Q := by
  refine b_aload_n (d91 (j := 0) rfl) rfl ?_
  refine b_iload_n (d91 (j := 1) rfl) rfl ?_
  refine b_callV (d91 (j := 2) rfl) rfl rfl (Or.inl rfl) rfl (bCk_mk (n := 0) (k := 2) (by decide +kernel) rfl rfl) (pu152  ?_)
  refine b_stk [uI (if (0 < (M 24 0) ∧ 0 ≤ x1 ∧ x1 ≤ (M 24 1)) then 1 else 0)] rfl ?_
  refine b_ifneP (d91 (j := 3) rfl) (fun c1 => ?_) (fun c1 => ?_)
  ·
    refine b_aload_n (d91 (j := 6) rfl) rfl ?_
    refine b_callV (d91 (j := 7) rfl) rfl rfl (Or.inl rfl) rfl (bCk_mk (n := 0) (k := 1) (by decide +kernel) rfl rfl) ((hA1 c1) _ (fun M1 hR1 => ?_))
    refine b_stk [uR 5 47] rfl ?_
    refine b_astore_n [uR 10 0, uI x1, uR 5 47, uX 0, uX 0] (d91 (j := 8) rfl) (by decide) rfl ?_
    refine b_iconst (d91 (j := 9) rfl) (by decide) ?_
    refine b_istore_n [uR 10 0, uI x1, uR 5 47, uI 0, uX 0] (d91 (j := 10) rfl) (by decide) rfl ?_
    refine b_iconst (d91 (j := 11) rfl) (by decide) ?_
    refine b_istore [uR 10 0, uI x1, uR 5 47, uI 0, uI 0] (d91 (j := 12) rfl) (by decide) rfl ?_
    refine b_for (fun (i91_1 : Int) (a91_1 : Int) => [uR 10 0, uI x1, uR 5 47, uI a91_1, uI i91_1]) (fun (i91_1 : Int) (a91_1 : Int) => (if (M1 52 ((x1 * 6) + i91_1)) = (M1 27 i91_1) then (dsOr a91_1 (dsShl 1 i91_1)) else a91_1)) 0 (M1 24 5) 0 (fun i91_1 a91_1 h91_1l h91_1r hk91_1 => ?_) (fun i91_1 h91_1l h91_1r => ?_)
    ·
      refine b_iload (d91 (j := 13) rfl) rfl ?_
      refine b_aload_n (d91 (j := 14) rfl) rfl ?_
      refine b_getR (d91 (j := 15) rfl) rfl rfl rfl rfl ?_
      refine b_stk [uR 4 24, uI i91_1] rfl ?_
      refine b_getI (d91 (j := 16) rfl) rfl rfl rfl rfl (Or.inl rfl) ?_
      refine b_stk [uI (M1 24 5), uI i91_1] rfl ?_
      refine b_icmp_ge (d91 (j := 17) rfl) (fun c2 => ?_) (fun c2 => ?_)
      · exfalso; omega
      ·
        refine b_aload_n (d91 (j := 18) rfl) rfl ?_
        refine b_getR (d91 (j := 19) rfl) rfl rfl rfl rfl ?_
        refine b_stk [uR 25 52] rfl ?_
        refine b_iload (d91 (j := 20) rfl) rfl ?_
        refine b_iload_n (d91 (j := 21) rfl) rfl ?_
        refine b_callS (d91 (j := 22) rfl) (Or.inl rfl) rfl (bCk_mk (n := 1) (k := 2) (by decide +kernel) rfl rfl) (pu146 (s1 c1 M1 hR1 i91_1 a91_1 h91_1l h91_1r) ?_)
        refine b_stk [uI ((x1 * 6) + i91_1), uR 25 52] rfl ?_
        refine b_iaload (d91 (j := 23) rfl) rfl (s2 c1 M1 hR1 i91_1 a91_1 h91_1l h91_1r) ?_
        refine b_aload_n (d91 (j := 24) rfl) rfl ?_
        refine b_getR (d91 (j := 25) rfl) rfl rfl rfl rfl ?_
        refine b_stk [uR 4 24, uI (M1 52 ((x1 * 6) + i91_1))] rfl ?_
        refine b_getR (d91 (j := 26) rfl) rfl rfl rfl rfl ?_
        refine b_stk [uR 21 27, uI (M1 52 ((x1 * 6) + i91_1))] rfl ?_
        refine b_iload (d91 (j := 27) rfl) rfl ?_
        refine b_iaload (d91 (j := 28) rfl) rfl (s3 c1 M1 hR1 i91_1 a91_1 h91_1l h91_1r) ?_
        refine b_icmp_ne (d91 (j := 29) rfl) (fun c3 => ?_) (fun c3 => ?_)
        ·
          rw [if_neg c3] at hk91_1
          refine b_iinc [uR 10 0, uI x1, uR 5 47, uI a91_1, uI (i91_1 + 1)] (d91 (j := 36) rfl) rfl (by decide) (s4 c1 M1 hR1 i91_1 a91_1 h91_1l h91_1r) rfl ?_
          refine b_goto (d91 (j := 37) rfl) ?_
          exact hk91_1
        ·
          rw [if_pos c3] at hk91_1
          refine b_iload_n (d91 (j := 30) rfl) rfl ?_
          refine b_iconst (d91 (j := 31) rfl) (by decide) ?_
          refine b_iload (d91 (j := 32) rfl) rfl ?_
          refine b_ishl (d91 (j := 33) rfl) ?_
          refine b_ior (d91 (j := 34) rfl) ?_
          refine b_istore_n [uR 10 0, uI x1, uR 5 47, uI (dsOr a91_1 (dsShl 1 i91_1)), uI i91_1] (d91 (j := 35) rfl) (by decide) rfl ?_
          refine b_iinc [uR 10 0, uI x1, uR 5 47, uI (dsOr a91_1 (dsShl 1 i91_1)), uI (i91_1 + 1)] (d91 (j := 36) rfl) rfl (by decide) (s4 c1 M1 hR1 i91_1 a91_1 h91_1l h91_1r) rfl ?_
          refine b_goto (d91 (j := 37) rfl) ?_
          exact hk91_1
    ·
      refine b_iload (d91 (j := 13) rfl) rfl ?_
      refine b_aload_n (d91 (j := 14) rfl) rfl ?_
      refine b_getR (d91 (j := 15) rfl) rfl rfl rfl rfl ?_
      refine b_stk [uR 4 24, uI i91_1] rfl ?_
      refine b_getI (d91 (j := 16) rfl) rfl rfl rfl rfl (Or.inl rfl) ?_
      refine b_stk [uI (M1 24 5), uI i91_1] rfl ?_
      refine b_icmp_ge (d91 (j := 17) rfl) (fun c4 => ?_) (fun c4 => ?_)
      rotate_left
      · exfalso; omega
      ·
        refine b_iload_n (d91 (j := 38) rfl) rfl ?_
        exact b_iret (d91 (j := 39) rfl) rfl (k1 c1 M1 hR1)
  ·
    refine b_bipush (d91 (j := 4) rfl) (by decide) ?_
    exact b_iret (d91 (j := 5) rfl) rfl (k2 c1)
def L92 : List (Nat × Instr × Nat × Nat) := [(0, .aload_n 0, 1, 0), (1, .iload_n 1, 2, 0), (2, .invokevirtual 114, 5, 0), (5, .ifCond .ne 6, 8, 11), (8, .bipush (-2), 10, 0), (10, .ireturn, 11, 0), (11, .aload_n 0, 12, 0), (12, .invokevirtual 149, 15, 0), (15, .astore_n 2, 16, 0), (16, .iconst 0, 17, 0), (17, .istore_n 3, 18, 0), (18, .iload_n 3, 19, 0), (19, .aload_n 0, 20, 0), (20, .getfield 23, 23, 0), (23, .getfield 186, 26, 0), (26, .if_icmp .gt 33, 29, 59), (29, .aload_n 2, 30, 0), (30, .getfield 153, 33, 0), (33, .iload_n 1, 34, 0), (34, .iload_n 3, 35, 0), (35, .invokestatic 156, 38, 0), (38, .iaload, 39, 0), (39, .aload_n 0, 40, 0), (40, .getfield 23, 43, 0), (43, .getfield 117, 46, 0), (46, .iload_n 1, 47, 0), (47, .iaload, 48, 0), (48, .if_icmp .ne 5, 51, 53), (51, .iload_n 3, 52, 0), (52, .ireturn, 53, 0), (53, .iinc 3 1, 56, 0), (56, .goto (-38), 59, 18), (59, .iconst (-1), 60, 0), (60, .ireturn, 61, 0)]
set_option maxRecDepth 100000 in
theorem L92_ok : L92.all (dck 92) = true := by decide +kernel
theorem d92 {j pc nx tg : Nat} {ins : Instr} (hj : L92[j]? = some (pc, ins, nx, tg)) : dcd 92 pc ins nx tg := dcl_ok L92_ok hj
set_option maxRecDepth 100000 in
set_option maxHeartbeats 4000000 in
theorem r92_0 {x1 : Int} {R1 : dsMem → Prop} {M : dsMem} {Q : bQT} (s1 : -2147483648 ≤ ((M 24 5) - 1) ∧ ((M 24 5) - 1) < 2147483648 := by intros; omega) (hA1 : ((0 ≤ x1 ∧ x1 ≤ (M 24 5) - 1)) → bCt 157 [uR 10 0] M (fun _ => [uR 5 47]) R1) (s2 : ((0 ≤ x1 ∧ x1 ≤ (M 24 5) - 1)) → ∀ M1 : dsMem, R1 M1 → ∀ i92_1 : Int, 0 ≤ i92_1 → i92_1 < ((M1 24 1) + 1) → -2147483648 ≤ ((i92_1 * 6) + x1) ∧ ((i92_1 * 6) + x1) < 2147483648 := by intros; omega) (s3 : ((0 ≤ x1 ∧ x1 ≤ (M 24 5) - 1)) → ∀ M1 : dsMem, R1 M1 → ∀ i92_1 : Int, 0 ≤ i92_1 → i92_1 < ((M1 24 1) + 1) → 0 ≤ ((i92_1 * 6) + x1) ∧ ((i92_1 * 6) + x1) < 78 := by intros; omega) (s4 : ((0 ≤ x1 ∧ x1 ≤ (M 24 5) - 1)) → ∀ M1 : dsMem, R1 M1 → ∀ i92_1 : Int, 0 ≤ i92_1 → i92_1 < ((M1 24 1) + 1) → 0 ≤ x1 ∧ x1 < 6 := by intros; omega) (s5 : ((0 ≤ x1 ∧ x1 ≤ (M 24 5) - 1)) → ∀ M1 : dsMem, R1 M1 → ∀ i92_1 : Int, 0 ≤ i92_1 → i92_1 < ((M1 24 1) + 1) → -2147483648 ≤ i92_1 + 1 ∧ i92_1 + 1 < 2147483648 := by intros; omega) (k1 : ((0 ≤ x1 ∧ x1 ≤ (M 24 5) - 1)) → ∀ M1 : dsMem, R1 M1 → ((dsFind (fun (i92_1 : Int) => (M1 52 ((i92_1 * 6) + x1)) = (M1 27 x1)) 0 ((M1 24 1) + 1)) < ((M1 24 1) + 1)) → Q [uI (dsFind (fun (i92_1 : Int) => (M1 52 ((i92_1 * 6) + x1)) = (M1 27 x1)) 0 ((M1 24 1) + 1))] M1) (k2 : ((0 ≤ x1 ∧ x1 ≤ (M 24 5) - 1)) → ∀ M1 : dsMem, R1 M1 → (¬ (dsFind (fun (i92_1 : Int) => (M1 52 ((i92_1 * 6) + x1)) = (M1 27 x1)) 0 ((M1 24 1) + 1)) < ((M1 24 1) + 1)) → Q [uI (-1)] M1) (k3 : (¬ (0 ≤ x1 ∧ x1 ≤ (M 24 5) - 1)) → Q [uI (-2)] M) :
    bB 92 0 [uR 10 0, uI x1, uX 0, uX 0] [] M Q := by
  refine b_aload_n (d92 (j := 0) rfl) rfl ?_
  refine b_iload_n (d92 (j := 1) rfl) rfl ?_
  refine b_callV (d92 (j := 2) rfl) rfl rfl (Or.inl rfl) rfl (bCk_mk (n := 0) (k := 2) (by decide +kernel) rfl rfl) (pu151 s1 ?_)
  refine b_stk [uI (if (0 ≤ x1 ∧ x1 ≤ (M 24 5) - 1) then 1 else 0)] rfl ?_
  refine b_ifneP (d92 (j := 3) rfl) (fun c1 => ?_) (fun c1 => ?_)
  ·
    refine b_aload_n (d92 (j := 6) rfl) rfl ?_
    refine b_callV (d92 (j := 7) rfl) rfl rfl (Or.inl rfl) rfl (bCk_mk (n := 0) (k := 1) (by decide +kernel) rfl rfl) ((hA1 c1) _ (fun M1 hR1 => ?_))
    refine b_stk [uR 5 47] rfl ?_
    refine b_astore_n [uR 10 0, uI x1, uR 5 47, uX 0] (d92 (j := 8) rfl) (by decide) rfl ?_
    refine b_iconst (d92 (j := 9) rfl) (by decide) ?_
    refine b_istore_n [uR 10 0, uI x1, uR 5 47, uI 0] (d92 (j := 10) rfl) (by decide) rfl ?_
    refine b_find (fun (i92_1 : Int) => [uR 10 0, uI x1, uR 5 47, uI i92_1]) (fun (i92_1 : Int) => (M1 52 ((i92_1 * 6) + x1)) = (M1 27 x1)) 0 ((M1 24 1) + 1) (fun i92_1 h92_1l h92_1r hn hk92_1 => ?_) (fun i92_1 h92_1l h92_1r hp he => ?_) (fun i92_1 h92_1l h92_1r he => ?_)
    ·
      refine b_iload_n (d92 (j := 11) rfl) rfl ?_
      refine b_aload_n (d92 (j := 12) rfl) rfl ?_
      refine b_getR (d92 (j := 13) rfl) rfl rfl rfl rfl ?_
      refine b_stk [uR 4 24, uI i92_1] rfl ?_
      refine b_getI (d92 (j := 14) rfl) rfl rfl rfl rfl (Or.inl rfl) ?_
      refine b_stk [uI (M1 24 1), uI i92_1] rfl ?_
      refine b_icmp_gt (d92 (j := 15) rfl) (fun c2 => ?_) (fun c2 => ?_)
      · exfalso; omega
      ·
        refine b_aload_n (d92 (j := 16) rfl) rfl ?_
        refine b_getR (d92 (j := 17) rfl) rfl rfl rfl rfl ?_
        refine b_stk [uR 25 52] rfl ?_
        refine b_iload_n (d92 (j := 18) rfl) rfl ?_
        refine b_iload_n (d92 (j := 19) rfl) rfl ?_
        refine b_callS (d92 (j := 20) rfl) (Or.inl rfl) rfl (bCk_mk (n := 1) (k := 2) (by decide +kernel) rfl rfl) (pu146 (s2 c1 M1 hR1 i92_1 h92_1l h92_1r) ?_)
        refine b_stk [uI ((i92_1 * 6) + x1), uR 25 52] rfl ?_
        refine b_iaload (d92 (j := 21) rfl) rfl (s3 c1 M1 hR1 i92_1 h92_1l h92_1r) ?_
        refine b_aload_n (d92 (j := 22) rfl) rfl ?_
        refine b_getR (d92 (j := 23) rfl) rfl rfl rfl rfl ?_
        refine b_stk [uR 4 24, uI (M1 52 ((i92_1 * 6) + x1))] rfl ?_
        refine b_getR (d92 (j := 24) rfl) rfl rfl rfl rfl ?_
        refine b_stk [uR 21 27, uI (M1 52 ((i92_1 * 6) + x1))] rfl ?_
        refine b_iload_n (d92 (j := 25) rfl) rfl ?_
        refine b_iaload (d92 (j := 26) rfl) rfl (s4 c1 M1 hR1 i92_1 h92_1l h92_1r) ?_
        refine b_icmp_ne (d92 (j := 27) rfl) (fun c3 => ?_) (fun c3 => ?_)
        ·
          refine b_iinc [uR 10 0, uI x1, uR 5 47, uI (i92_1 + 1)] (d92 (j := 30) rfl) rfl (by decide) (s5 c1 M1 hR1 i92_1 h92_1l h92_1r) rfl ?_
          refine b_goto (d92 (j := 31) rfl) ?_
          exact hk92_1
        ·
          refine b_iload_n (d92 (j := 28) rfl) rfl ?_
          exfalso; omega
    ·
      subst he
      refine b_iload_n (d92 (j := 11) rfl) rfl ?_
      refine b_aload_n (d92 (j := 12) rfl) rfl ?_
      refine b_getR (d92 (j := 13) rfl) rfl rfl rfl rfl ?_
      refine b_stk [uR 4 24, uI (dsFind (fun (i92_1 : Int) => (M1 52 ((i92_1 * 6) + x1)) = (M1 27 x1)) 0 ((M1 24 1) + 1))] rfl ?_
      refine b_getI (d92 (j := 14) rfl) rfl rfl rfl rfl (Or.inl rfl) ?_
      refine b_stk [uI (M1 24 1), uI (dsFind (fun (i92_1 : Int) => (M1 52 ((i92_1 * 6) + x1)) = (M1 27 x1)) 0 ((M1 24 1) + 1))] rfl ?_
      refine b_icmp_gt (d92 (j := 15) rfl) (fun c4 => ?_) (fun c4 => ?_)
      · exfalso; omega
      ·
        refine b_aload_n (d92 (j := 16) rfl) rfl ?_
        refine b_getR (d92 (j := 17) rfl) rfl rfl rfl rfl ?_
        refine b_stk [uR 25 52] rfl ?_
        refine b_iload_n (d92 (j := 18) rfl) rfl ?_
        refine b_iload_n (d92 (j := 19) rfl) rfl ?_
        refine b_callS (d92 (j := 20) rfl) (Or.inl rfl) rfl (bCk_mk (n := 1) (k := 2) (by decide +kernel) rfl rfl) (pu146 (s2 c1 M1 hR1 (dsFind (fun (i92_1 : Int) => (M1 52 ((i92_1 * 6) + x1)) = (M1 27 x1)) 0 ((M1 24 1) + 1)) h92_1l h92_1r) ?_)
        refine b_stk [uI (((dsFind (fun (i92_1 : Int) => (M1 52 ((i92_1 * 6) + x1)) = (M1 27 x1)) 0 ((M1 24 1) + 1)) * 6) + x1), uR 25 52] rfl ?_
        refine b_iaload (d92 (j := 21) rfl) rfl (s3 c1 M1 hR1 (dsFind (fun (i92_1 : Int) => (M1 52 ((i92_1 * 6) + x1)) = (M1 27 x1)) 0 ((M1 24 1) + 1)) h92_1l h92_1r) ?_
        refine b_aload_n (d92 (j := 22) rfl) rfl ?_
        refine b_getR (d92 (j := 23) rfl) rfl rfl rfl rfl ?_
        refine b_stk [uR 4 24, uI (M1 52 (((dsFind (fun (i92_1 : Int) => (M1 52 ((i92_1 * 6) + x1)) = (M1 27 x1)) 0 ((M1 24 1) + 1)) * 6) + x1))] rfl ?_
        refine b_getR (d92 (j := 24) rfl) rfl rfl rfl rfl ?_
        refine b_stk [uR 21 27, uI (M1 52 (((dsFind (fun (i92_1 : Int) => (M1 52 ((i92_1 * 6) + x1)) = (M1 27 x1)) 0 ((M1 24 1) + 1)) * 6) + x1))] rfl ?_
        refine b_iload_n (d92 (j := 25) rfl) rfl ?_
        refine b_iaload (d92 (j := 26) rfl) rfl (s4 c1 M1 hR1 (dsFind (fun (i92_1 : Int) => (M1 52 ((i92_1 * 6) + x1)) = (M1 27 x1)) 0 ((M1 24 1) + 1)) h92_1l h92_1r) ?_
        refine b_icmp_ne (d92 (j := 27) rfl) (fun c5 => ?_) (fun c5 => ?_)
        ·
          refine b_iinc [uR 10 0, uI x1, uR 5 47, uI ((dsFind (fun (i92_1 : Int) => (M1 52 ((i92_1 * 6) + x1)) = (M1 27 x1)) 0 ((M1 24 1) + 1)) + 1)] (d92 (j := 30) rfl) rfl (by decide) (s5 c1 M1 hR1 (dsFind (fun (i92_1 : Int) => (M1 52 ((i92_1 * 6) + x1)) = (M1 27 x1)) 0 ((M1 24 1) + 1)) h92_1l h92_1r) rfl ?_
          refine b_goto (d92 (j := 31) rfl) ?_
          exfalso; omega
        ·
          refine b_iload_n (d92 (j := 28) rfl) rfl ?_
          exact b_iret (d92 (j := 29) rfl) rfl (k1 c1 M1 hR1 h92_1r)
    ·
      refine b_iload_n (d92 (j := 11) rfl) rfl ?_
      refine b_aload_n (d92 (j := 12) rfl) rfl ?_
      refine b_getR (d92 (j := 13) rfl) rfl rfl rfl rfl ?_
      refine b_stk [uR 4 24, uI i92_1] rfl ?_
      refine b_getI (d92 (j := 14) rfl) rfl rfl rfl rfl (Or.inl rfl) ?_
      refine b_stk [uI (M1 24 1), uI i92_1] rfl ?_
      refine b_icmp_gt (d92 (j := 15) rfl) (fun c6 => ?_) (fun c6 => ?_)
      rotate_left
      · exfalso; omega
      ·
        refine b_iconst (d92 (j := 32) rfl) (by decide) ?_
        exact b_iret (d92 (j := 33) rfl) rfl (k2 c1 M1 hR1 he)
  ·
    refine b_bipush (d92 (j := 4) rfl) (by decide) ?_
    exact b_iret (d92 (j := 5) rfl) rfl (k3 c1)
def L93 : List (Nat × Instr × Nat × Nat) := [(0, .aload_n 0, 1, 0), (1, .iload_n 1, 2, 0), (2, .invokevirtual 114, 5, 0), (5, .ifCond .ne 6, 8, 11), (8, .bipush (-2), 10, 0), (10, .ireturn, 11, 0), (11, .aload_n 0, 12, 0), (12, .invokevirtual 149, 15, 0), (15, .astore_n 2, 16, 0), (16, .iconst 0, 17, 0), (17, .istore_n 3, 18, 0), (18, .iconst 0, 19, 0), (19, .istore 4, 21, 0), (21, .iload 4, 23, 0), (23, .aload_n 0, 24, 0), (24, .getfield 23, 27, 0), (27, .getfield 186, 30, 0), (30, .if_icmp .gt 25, 33, 55), (33, .iload_n 3, 34, 0), (34, .aload_n 2, 35, 0), (35, .getfield 153, 38, 0), (38, .iload_n 1, 39, 0), (39, .iload 4, 41, 0), (41, .invokestatic 156, 44, 0), (44, .iaload, 45, 0), (45, .invokestatic 202, 48, 0), (48, .istore_n 3, 49, 0), (49, .iinc 4 1, 52, 0), (52, .goto (-31), 55, 21), (55, .iload_n 3, 56, 0), (56, .ireturn, 57, 0)]
set_option maxRecDepth 100000 in
theorem L93_ok : L93.all (dck 93) = true := by decide +kernel
theorem d93 {j pc nx tg : Nat} {ins : Instr} (hj : L93[j]? = some (pc, ins, nx, tg)) : dcd 93 pc ins nx tg := dcl_ok L93_ok hj
set_option maxRecDepth 100000 in
set_option maxHeartbeats 4000000 in
theorem r93_0 {x1 : Int} {R1 : dsMem → Prop} {M : dsMem} {Q : bQT} (s1 : -2147483648 ≤ ((M 24 5) - 1) ∧ ((M 24 5) - 1) < 2147483648 := by intros; omega) (hA1 : ((0 ≤ x1 ∧ x1 ≤ (M 24 5) - 1)) → bCt 157 [uR 10 0] M (fun _ => [uR 5 47]) R1) (s2 : ((0 ≤ x1 ∧ x1 ≤ (M 24 5) - 1)) → ∀ M1 : dsMem, R1 M1 → ∀ i93_1 : Int, ∀ a93_1 : Int, 0 ≤ i93_1 → i93_1 < ((M1 24 1) + 1) → -2147483648 ≤ ((i93_1 * 6) + x1) ∧ ((i93_1 * 6) + x1) < 2147483648 := by intros; omega) (s3 : ((0 ≤ x1 ∧ x1 ≤ (M 24 5) - 1)) → ∀ M1 : dsMem, R1 M1 → ∀ i93_1 : Int, ∀ a93_1 : Int, 0 ≤ i93_1 → i93_1 < ((M1 24 1) + 1) → 0 ≤ ((i93_1 * 6) + x1) ∧ ((i93_1 * 6) + x1) < 78 := by intros; omega) (s4 : ((0 ≤ x1 ∧ x1 ≤ (M 24 5) - 1)) → ∀ M1 : dsMem, R1 M1 → ∀ i93_1 : Int, ∀ a93_1 : Int, 0 ≤ i93_1 → i93_1 < ((M1 24 1) + 1) → -2147483648 ≤ i93_1 + 1 ∧ i93_1 + 1 < 2147483648 := by intros; omega) (k1 : ((0 ≤ x1 ∧ x1 ≤ (M 24 5) - 1)) → ∀ M1 : dsMem, R1 M1 → Q [uI (dsIter (fun (i93_1 : Int) (a93_1 : Int) => (if a93_1 < (M1 52 ((i93_1 * 6) + x1)) then (M1 52 ((i93_1 * 6) + x1)) else a93_1)) 0 ((M1 24 1) + 1) 0)] M1) (k2 : (¬ (0 ≤ x1 ∧ x1 ≤ (M 24 5) - 1)) → Q [uI (-2)] M) :
    bB 93 0 [uR 10 0, uI x1, uX 0, uX 0, uX 0] [] M Q := by
  refine b_aload_n (d93 (j := 0) rfl) rfl ?_
  refine b_iload_n (d93 (j := 1) rfl) rfl ?_
  refine b_callV (d93 (j := 2) rfl) rfl rfl (Or.inl rfl) rfl (bCk_mk (n := 0) (k := 2) (by decide +kernel) rfl rfl) (pu151 s1 ?_)
  refine b_stk [uI (if (0 ≤ x1 ∧ x1 ≤ (M 24 5) - 1) then 1 else 0)] rfl ?_
  refine b_ifneP (d93 (j := 3) rfl) (fun c1 => ?_) (fun c1 => ?_)
  ·
    refine b_aload_n (d93 (j := 6) rfl) rfl ?_
    refine b_callV (d93 (j := 7) rfl) rfl rfl (Or.inl rfl) rfl (bCk_mk (n := 0) (k := 1) (by decide +kernel) rfl rfl) ((hA1 c1) _ (fun M1 hR1 => ?_))
    refine b_stk [uR 5 47] rfl ?_
    refine b_astore_n [uR 10 0, uI x1, uR 5 47, uX 0, uX 0] (d93 (j := 8) rfl) (by decide) rfl ?_
    refine b_iconst (d93 (j := 9) rfl) (by decide) ?_
    refine b_istore_n [uR 10 0, uI x1, uR 5 47, uI 0, uX 0] (d93 (j := 10) rfl) (by decide) rfl ?_
    refine b_iconst (d93 (j := 11) rfl) (by decide) ?_
    refine b_istore [uR 10 0, uI x1, uR 5 47, uI 0, uI 0] (d93 (j := 12) rfl) (by decide) rfl ?_
    refine b_for (fun (i93_1 : Int) (a93_1 : Int) => [uR 10 0, uI x1, uR 5 47, uI a93_1, uI i93_1]) (fun (i93_1 : Int) (a93_1 : Int) => (if a93_1 < (M1 52 ((i93_1 * 6) + x1)) then (M1 52 ((i93_1 * 6) + x1)) else a93_1)) 0 ((M1 24 1) + 1) 0 (fun i93_1 a93_1 h93_1l h93_1r hk93_1 => ?_) (fun i93_1 h93_1l h93_1r => ?_)
    ·
      refine b_iload (d93 (j := 13) rfl) rfl ?_
      refine b_aload_n (d93 (j := 14) rfl) rfl ?_
      refine b_getR (d93 (j := 15) rfl) rfl rfl rfl rfl ?_
      refine b_stk [uR 4 24, uI i93_1] rfl ?_
      refine b_getI (d93 (j := 16) rfl) rfl rfl rfl rfl (Or.inl rfl) ?_
      refine b_stk [uI (M1 24 1), uI i93_1] rfl ?_
      refine b_icmp_gt (d93 (j := 17) rfl) (fun c2 => ?_) (fun c2 => ?_)
      · exfalso; omega
      ·
        refine b_iload_n (d93 (j := 18) rfl) rfl ?_
        refine b_aload_n (d93 (j := 19) rfl) rfl ?_
        refine b_getR (d93 (j := 20) rfl) rfl rfl rfl rfl ?_
        refine b_stk [uR 25 52, uI a93_1] rfl ?_
        refine b_iload_n (d93 (j := 21) rfl) rfl ?_
        refine b_iload (d93 (j := 22) rfl) rfl ?_
        refine b_callS (d93 (j := 23) rfl) (Or.inl rfl) rfl (bCk_mk (n := 2) (k := 2) (by decide +kernel) rfl rfl) (pu146 (s2 c1 M1 hR1 i93_1 a93_1 h93_1l h93_1r) ?_)
        refine b_stk [uI ((i93_1 * 6) + x1), uR 25 52, uI a93_1] rfl ?_
        refine b_iaload (d93 (j := 24) rfl) rfl (s3 c1 M1 hR1 i93_1 a93_1 h93_1l h93_1r) ?_
        refine b_max (d93 (j := 25) rfl) rfl ⟨by decide, Nat.le_of_ble_eq_true rfl⟩ ?_
        refine b_istore_n [uR 10 0, uI x1, uR 5 47, uI (if a93_1 < (M1 52 ((i93_1 * 6) + x1)) then (M1 52 ((i93_1 * 6) + x1)) else a93_1), uI i93_1] (d93 (j := 26) rfl) (by decide) rfl ?_
        refine b_iinc [uR 10 0, uI x1, uR 5 47, uI (if a93_1 < (M1 52 ((i93_1 * 6) + x1)) then (M1 52 ((i93_1 * 6) + x1)) else a93_1), uI (i93_1 + 1)] (d93 (j := 27) rfl) rfl (by decide) (s4 c1 M1 hR1 i93_1 a93_1 h93_1l h93_1r) rfl ?_
        refine b_goto (d93 (j := 28) rfl) ?_
        exact hk93_1
    ·
      refine b_iload (d93 (j := 13) rfl) rfl ?_
      refine b_aload_n (d93 (j := 14) rfl) rfl ?_
      refine b_getR (d93 (j := 15) rfl) rfl rfl rfl rfl ?_
      refine b_stk [uR 4 24, uI i93_1] rfl ?_
      refine b_getI (d93 (j := 16) rfl) rfl rfl rfl rfl (Or.inl rfl) ?_
      refine b_stk [uI (M1 24 1), uI i93_1] rfl ?_
      refine b_icmp_gt (d93 (j := 17) rfl) (fun c3 => ?_) (fun c3 => ?_)
      rotate_left
      · exfalso; omega
      ·
        refine b_iload_n (d93 (j := 29) rfl) rfl ?_
        exact b_iret (d93 (j := 30) rfl) rfl (k1 c1 M1 hR1)
  ·
    refine b_bipush (d93 (j := 4) rfl) (by decide) ?_
    exact b_iret (d93 (j := 5) rfl) rfl (k2 c1)
def L94 : List (Nat × Instr × Nat × Nat) := [(0, .aload_n 0, 1, 0), (1, .iload_n 1, 2, 0), (2, .invokevirtual 196, 5, 0), (5, .ifCond .eq 14, 8, 19), (8, .aload_n 0, 9, 0), (9, .invokevirtual 149, 12, 0), (12, .iload_n 1, 13, 0), (13, .invokevirtual 183, 16, 0), (16, .goto 5, 19, 21), (19, .bipush (-2), 21, 0), (21, .ireturn, 22, 0)]
set_option maxRecDepth 100000 in
theorem L94_ok : L94.all (dck 94) = true := by decide +kernel
theorem d94 {j pc nx tg : Nat} {ins : Instr} (hj : L94[j]? = some (pc, ins, nx, tg)) : dcd 94 pc ins nx tg := dcl_ok L94_ok hj
set_option maxRecDepth 100000 in
set_option maxHeartbeats 4000000 in
theorem r94_0 {x1 : Int} {R1 : dsMem → Prop} {M : dsMem} {Q : bQT} (k1 : (¬ (0 < (M 24 0) ∧ 0 ≤ x1 ∧ x1 ≤ (M 24 1))) → Q [uI (-2)] M) (hA1 : ((0 < (M 24 0) ∧ 0 ≤ x1 ∧ x1 ≤ (M 24 1))) → bCt 157 [uR 10 0] M (fun _ => [uR 5 47]) R1) (s1 : ((0 < (M 24 0) ∧ 0 ≤ x1 ∧ x1 ≤ (M 24 1))) → ∀ M1 : dsMem, R1 M1 → ∀ i24_1 : Int, ∀ a24_1 : Int, 0 ≤ i24_1 → i24_1 < (M1 24 5) → -2147483648 ≤ ((x1 * 6) + i24_1) ∧ ((x1 * 6) + i24_1) < 2147483648 := by intros; omega) (s2 : ((0 < (M 24 0) ∧ 0 ≤ x1 ∧ x1 ≤ (M 24 1))) → ∀ M1 : dsMem, R1 M1 → ∀ i24_1 : Int, ∀ a24_1 : Int, 0 ≤ i24_1 → i24_1 < (M1 24 5) → 0 ≤ ((x1 * 6) + i24_1) ∧ ((x1 * 6) + i24_1) < 78 := by intros; omega) (s3 : ((0 < (M 24 0) ∧ 0 ≤ x1 ∧ x1 ≤ (M 24 1))) → ∀ M1 : dsMem, R1 M1 → ∀ i24_1 : Int, ∀ a24_1 : Int, 0 ≤ i24_1 → i24_1 < (M1 24 5) → -2147483648 ≤ i24_1 + 1 ∧ i24_1 + 1 < 2147483648 := by intros; omega) (k2 : ((0 < (M 24 0) ∧ 0 ≤ x1 ∧ x1 ≤ (M 24 1))) → ∀ M1 : dsMem, R1 M1 → Q [uI (v24 M1 47 x1)] M1) :
    bB 94 0 [uR 10 0, uI x1] [] M Q := by
  refine b_aload_n (d94 (j := 0) rfl) rfl ?_
  refine b_iload_n (d94 (j := 1) rfl) rfl ?_
  refine b_callV (d94 (j := 2) rfl) rfl rfl (Or.inl rfl) rfl (bCk_mk (n := 0) (k := 2) (by decide +kernel) rfl rfl) (pu152  ?_)
  refine b_stk [uI (if (0 < (M 24 0) ∧ 0 ≤ x1 ∧ x1 ≤ (M 24 1)) then 1 else 0)] rfl ?_
  refine b_ifeqP (d94 (j := 3) rfl) (fun c1 => ?_) (fun c1 => ?_)
  ·
    refine b_bipush (d94 (j := 9) rfl) (by decide) ?_
    exact b_iret (d94 (j := 10) rfl) rfl (k1 c1)
  ·
    refine b_aload_n (d94 (j := 4) rfl) rfl ?_
    refine b_callV (d94 (j := 5) rfl) rfl rfl (Or.inl rfl) rfl (bCk_mk (n := 0) (k := 1) (by decide +kernel) rfl rfl) ((hA1 c1) _ (fun M1 hR1 => ?_))
    refine b_stk [uR 5 47] rfl ?_
    refine b_iload_n (d94 (j := 6) rfl) rfl ?_
    refine b_callV (d94 (j := 7) rfl) rfl rfl (Or.inl rfl) rfl (bCk_mk (n := 0) (k := 2) (by decide +kernel) rfl rfl) (fx24 (s1 c1 M1 hR1) (s2 c1 M1 hR1) (s3 c1 M1 hR1) ?_)
    refine b_stk [uI (v24 M1 47 x1)] rfl ?_
    refine b_goto (d94 (j := 8) rfl) ?_
    exact b_iret (d94 (j := 10) rfl) rfl (k2 c1 M1 hR1)
def L95 : List (Nat × Instr × Nat × Nat) := [(0, .aload_n 0, 1, 0), (1, .iload_n 1, 2, 0), (2, .invokevirtual 196, 5, 0), (5, .ifCond .ne 6, 8, 11), (8, .bipush (-2), 10, 0), (10, .ireturn, 11, 0), (11, .aload_n 0, 12, 0), (12, .invokevirtual 149, 15, 0), (15, .astore_n 2, 16, 0), (16, .iconst (-1), 17, 0), (17, .istore_n 3, 18, 0), (18, .iconst (-1), 19, 0), (19, .istore 4, 21, 0), (21, .iconst 0, 22, 0), (22, .istore 5, 24, 0), (24, .iload 5, 26, 0), (26, .aload_n 0, 27, 0), (27, .getfield 23, 30, 0), (30, .getfield 142, 33, 0), (33, .if_icmp .ge 36, 36, 69), (36, .aload_n 2, 37, 0), (37, .getfield 153, 40, 0), (40, .iload 5, 42, 0), (42, .iload_n 1, 43, 0), (43, .invokestatic 156, 46, 0), (46, .iaload, 47, 0), (47, .istore 6, 49, 0), (49, .iload 6, 51, 0), (51, .iload 4, 53, 0), (53, .if_icmp .le 10, 56, 63), (56, .iload 5, 58, 0), (58, .istore_n 3, 59, 0), (59, .iload 6, 61, 0), (61, .istore 4, 63, 0), (63, .iinc 5 1, 66, 0), (66, .goto (-42), 69, 24), (69, .iload_n 3, 70, 0), (70, .ireturn, 71, 0)]
set_option maxRecDepth 100000 in
theorem L95_ok : L95.all (dck 95) = true := by decide +kernel
theorem d95 {j pc nx tg : Nat} {ins : Instr} (hj : L95[j]? = some (pc, ins, nx, tg)) : dcd 95 pc ins nx tg := dcl_ok L95_ok hj
set_option maxRecDepth 100000 in
set_option maxHeartbeats 4000000 in
theorem r95_0 {x1 : Int} {R1 : dsMem → Prop} {M : dsMem} {Q : bQT} (hA1 : ((0 < (M 24 0) ∧ 0 ≤ x1 ∧ x1 ≤ (M 24 1))) → bCt 157 [uR 10 0] M (fun _ => [uR 5 47]) R1) (s1 : ((0 < (M 24 0) ∧ 0 ≤ x1 ∧ x1 ≤ (M 24 1))) → ∀ M1 : dsMem, R1 M1 → ∀ i95_1 : Int, ∀ a95_1 : Int × Int, 0 ≤ i95_1 → i95_1 < (M1 24 5) → -2147483648 ≤ ((x1 * 6) + i95_1) ∧ ((x1 * 6) + i95_1) < 2147483648 := by intros; omega) (s2 : ((0 < (M 24 0) ∧ 0 ≤ x1 ∧ x1 ≤ (M 24 1))) → ∀ M1 : dsMem, R1 M1 → ∀ i95_1 : Int, ∀ a95_1 : Int × Int, 0 ≤ i95_1 → i95_1 < (M1 24 5) → 0 ≤ ((x1 * 6) + i95_1) ∧ ((x1 * 6) + i95_1) < 78 := by intros; omega) (s3 : ((0 < (M 24 0) ∧ 0 ≤ x1 ∧ x1 ≤ (M 24 1))) → ∀ M1 : dsMem, R1 M1 → ∀ i95_1 : Int, ∀ a95_1 : Int × Int, 0 ≤ i95_1 → i95_1 < (M1 24 5) → -2147483648 ≤ i95_1 + 1 ∧ i95_1 + 1 < 2147483648 := by intros; omega) (k1 : ((0 < (M 24 0) ∧ 0 ≤ x1 ∧ x1 ≤ (M 24 1))) → ∀ M1 : dsMem, R1 M1 → Q [uI ((dsIter (fun (i95_1 : Int) (a95_1 : Int × Int) => (if (M1 52 ((x1 * 6) + i95_1)) ≤ a95_1.2 then (a95_1.1, a95_1.2) else (i95_1, (M1 52 ((x1 * 6) + i95_1))))) 0 (M1 24 5) (-1, -1)).1)] M1) (k2 : (¬ (0 < (M 24 0) ∧ 0 ≤ x1 ∧ x1 ≤ (M 24 1))) → Q [uI (-2)] M) :
    bB 95 0 [uR 10 0, uI x1, uX 0, uX 0, uX 0, uX 0, uX 0] [] M Q := by
  refine b_aload_n (d95 (j := 0) rfl) rfl ?_
  refine b_iload_n (d95 (j := 1) rfl) rfl ?_
  refine b_callV (d95 (j := 2) rfl) rfl rfl (Or.inl rfl) rfl (bCk_mk (n := 0) (k := 2) (by decide +kernel) rfl rfl) (pu152  ?_)
  refine b_stk [uI (if (0 < (M 24 0) ∧ 0 ≤ x1 ∧ x1 ≤ (M 24 1)) then 1 else 0)] rfl ?_
  refine b_ifneP (d95 (j := 3) rfl) (fun c1 => ?_) (fun c1 => ?_)
  ·
    refine b_aload_n (d95 (j := 6) rfl) rfl ?_
    refine b_callV (d95 (j := 7) rfl) rfl rfl (Or.inl rfl) rfl (bCk_mk (n := 0) (k := 1) (by decide +kernel) rfl rfl) ((hA1 c1) _ (fun M1 hR1 => ?_))
    refine b_stk [uR 5 47] rfl ?_
    refine b_astore_n [uR 10 0, uI x1, uR 5 47, uX 0, uX 0, uX 0, uX 0] (d95 (j := 8) rfl) (by decide) rfl ?_
    refine b_iconst (d95 (j := 9) rfl) (by decide) ?_
    refine b_istore_n [uR 10 0, uI x1, uR 5 47, uI (-1), uX 0, uX 0, uX 0] (d95 (j := 10) rfl) (by decide) rfl ?_
    refine b_iconst (d95 (j := 11) rfl) (by decide) ?_
    refine b_istore [uR 10 0, uI x1, uR 5 47, uI (-1), uI (-1), uX 0, uX 0] (d95 (j := 12) rfl) (by decide) rfl ?_
    refine b_iconst (d95 (j := 13) rfl) (by decide) ?_
    refine b_istore [uR 10 0, uI x1, uR 5 47, uI (-1), uI (-1), uI 0, uX 0] (d95 (j := 14) rfl) (by decide) rfl ?_
    refine b_for (fun (i95_1 : Int) (a95_1 : Int × Int) => [uR 10 0, uI x1, uR 5 47, uI (a95_1.1), uI (a95_1.2), uI i95_1, uX 0]) (fun (i95_1 : Int) (a95_1 : Int × Int) => (if (M1 52 ((x1 * 6) + i95_1)) ≤ a95_1.2 then (a95_1.1, a95_1.2) else (i95_1, (M1 52 ((x1 * 6) + i95_1))))) 0 (M1 24 5) (-1, -1) (fun i95_1 a95_1 h95_1l h95_1r hk95_1 => ?_) (fun i95_1 h95_1l h95_1r => ?_)
    ·
      refine b_iload (d95 (j := 15) rfl) rfl ?_
      refine b_aload_n (d95 (j := 16) rfl) rfl ?_
      refine b_getR (d95 (j := 17) rfl) rfl rfl rfl rfl ?_
      refine b_stk [uR 4 24, uI i95_1] rfl ?_
      refine b_getI (d95 (j := 18) rfl) rfl rfl rfl rfl (Or.inl rfl) ?_
      refine b_stk [uI (M1 24 5), uI i95_1] rfl ?_
      refine b_icmp_ge (d95 (j := 19) rfl) (fun c2 => ?_) (fun c2 => ?_)
      · exfalso; omega
      ·
        refine b_aload_n (d95 (j := 20) rfl) rfl ?_
        refine b_getR (d95 (j := 21) rfl) rfl rfl rfl rfl ?_
        refine b_stk [uR 25 52] rfl ?_
        refine b_iload (d95 (j := 22) rfl) rfl ?_
        refine b_iload_n (d95 (j := 23) rfl) rfl ?_
        refine b_callS (d95 (j := 24) rfl) (Or.inl rfl) rfl (bCk_mk (n := 1) (k := 2) (by decide +kernel) rfl rfl) (pu146 (s1 c1 M1 hR1 i95_1 a95_1 h95_1l h95_1r) ?_)
        refine b_stk [uI ((x1 * 6) + i95_1), uR 25 52] rfl ?_
        refine b_iaload (d95 (j := 25) rfl) rfl (s2 c1 M1 hR1 i95_1 a95_1 h95_1l h95_1r) ?_
        refine b_istore [uR 10 0, uI x1, uR 5 47, uI (a95_1.1), uI (a95_1.2), uI i95_1, uI (M1 52 ((x1 * 6) + i95_1))] (d95 (j := 26) rfl) (by decide) rfl ?_
        refine b_iload (d95 (j := 27) rfl) rfl ?_
        refine b_iload (d95 (j := 28) rfl) rfl ?_
        refine b_icmp_le (d95 (j := 29) rfl) (fun c3 => ?_) (fun c3 => ?_)
        ·
          rw [if_pos c3] at hk95_1
          refine b_iinc [uR 10 0, uI x1, uR 5 47, uI (a95_1.1), uI (a95_1.2), uI (i95_1 + 1), uI (M1 52 ((x1 * 6) + i95_1))] (d95 (j := 34) rfl) rfl (by decide) (s3 c1 M1 hR1 i95_1 a95_1 h95_1l h95_1r) rfl ?_
          refine b_goto (d95 (j := 35) rfl) ?_
          exact bB_le _ (bLe_s (bLe_s (bLe_s (bLe_s (bLe_s (bLe_s (bLe_x bLe_nil))))))) hk95_1
        ·
          rw [if_neg c3] at hk95_1
          refine b_iload (d95 (j := 30) rfl) rfl ?_
          refine b_istore_n [uR 10 0, uI x1, uR 5 47, uI i95_1, uI (a95_1.2), uI i95_1, uI (M1 52 ((x1 * 6) + i95_1))] (d95 (j := 31) rfl) (by decide) rfl ?_
          refine b_iload (d95 (j := 32) rfl) rfl ?_
          refine b_istore [uR 10 0, uI x1, uR 5 47, uI i95_1, uI (M1 52 ((x1 * 6) + i95_1)), uI i95_1, uI (M1 52 ((x1 * 6) + i95_1))] (d95 (j := 33) rfl) (by decide) rfl ?_
          refine b_iinc [uR 10 0, uI x1, uR 5 47, uI i95_1, uI (M1 52 ((x1 * 6) + i95_1)), uI (i95_1 + 1), uI (M1 52 ((x1 * 6) + i95_1))] (d95 (j := 34) rfl) rfl (by decide) (s3 c1 M1 hR1 i95_1 a95_1 h95_1l h95_1r) rfl ?_
          refine b_goto (d95 (j := 35) rfl) ?_
          exact bB_le _ (bLe_s (bLe_s (bLe_s (bLe_s (bLe_s (bLe_s (bLe_x bLe_nil))))))) hk95_1
    ·
      refine b_iload (d95 (j := 15) rfl) rfl ?_
      refine b_aload_n (d95 (j := 16) rfl) rfl ?_
      refine b_getR (d95 (j := 17) rfl) rfl rfl rfl rfl ?_
      refine b_stk [uR 4 24, uI i95_1] rfl ?_
      refine b_getI (d95 (j := 18) rfl) rfl rfl rfl rfl (Or.inl rfl) ?_
      refine b_stk [uI (M1 24 5), uI i95_1] rfl ?_
      refine b_icmp_ge (d95 (j := 19) rfl) (fun c4 => ?_) (fun c4 => ?_)
      rotate_left
      · exfalso; omega
      ·
        refine b_iload_n (d95 (j := 36) rfl) rfl ?_
        exact b_iret (d95 (j := 37) rfl) rfl (k1 c1 M1 hR1)
  ·
    refine b_bipush (d95 (j := 4) rfl) (by decide) ?_
    exact b_iret (d95 (j := 5) rfl) rfl (k2 c1)
def L96 : List (Nat × Instr × Nat × Nat) := [(0, .aload_n 0, 1, 0), (1, .iload_n 1, 2, 0), (2, .invokevirtual 196, 5, 0), (5, .ifCond .ne 6, 8, 11), (8, .bipush (-2), 10, 0), (10, .ireturn, 11, 0), (11, .aload_n 0, 12, 0), (12, .invokevirtual 149, 15, 0), (15, .astore_n 2, 16, 0), (16, .iconst 0, 17, 0), (17, .istore_n 3, 18, 0), (18, .iconst 0, 19, 0), (19, .istore 4, 21, 0), (21, .iload 4, 23, 0), (23, .aload_n 0, 24, 0), (24, .getfield 23, 27, 0), (27, .getfield 142, 30, 0), (30, .if_icmp .ge 22, 33, 52), (33, .iload_n 3, 34, 0), (34, .aload_n 2, 35, 0), (35, .iload 4, 37, 0), (37, .iload_n 1, 38, 0), (38, .invokestatic 156, 41, 0), (41, .invokevirtual 210, 44, 0), (44, .ior, 45, 0), (45, .istore_n 3, 46, 0), (46, .iinc 4 1, 49, 0), (49, .goto (-28), 52, 21), (52, .iload_n 3, 53, 0), (53, .ireturn, 54, 0)]
set_option maxRecDepth 100000 in
theorem L96_ok : L96.all (dck 96) = true := by decide +kernel
theorem d96 {j pc nx tg : Nat} {ins : Instr} (hj : L96[j]? = some (pc, ins, nx, tg)) : dcd 96 pc ins nx tg := dcl_ok L96_ok hj
set_option maxRecDepth 100000 in
set_option maxHeartbeats 4000000 in
theorem r96_0 {x1 : Int} {R1 : dsMem → Prop} {M : dsMem} {Q : bQT} (hA1 : ((0 < (M 24 0) ∧ 0 ≤ x1 ∧ x1 ≤ (M 24 1))) → bCt 157 [uR 10 0] M (fun _ => [uR 5 47]) R1) (s1 : ((0 < (M 24 0) ∧ 0 ≤ x1 ∧ x1 ≤ (M 24 1))) → ∀ M1 : dsMem, R1 M1 → ∀ i96_1 : Int, ∀ a96_1 : Int, 0 ≤ i96_1 → i96_1 < (M1 24 5) → -2147483648 ≤ ((x1 * 6) + i96_1) ∧ ((x1 * 6) + i96_1) < 2147483648 := by intros; omega) (s2 : ((0 < (M 24 0) ∧ 0 ≤ x1 ∧ x1 ≤ (M 24 1))) → ∀ M1 : dsMem, R1 M1 → ∀ i96_1 : Int, ∀ a96_1 : Int, 0 ≤ i96_1 → i96_1 < (M1 24 5) → ∀ i27_1 : Int, ∀ a27_1 : Int, 0 ≤ i27_1 → i27_1 < (M1 51 ((x1 * 6) + i96_1)) → 0 ≤ ((x1 * 6) + i96_1) ∧ ((x1 * 6) + i96_1) < 78 := by intros; omega) (s3 : ((0 < (M 24 0) ∧ 0 ≤ x1 ∧ x1 ≤ (M 24 1))) → ∀ M1 : dsMem, R1 M1 → ∀ i96_1 : Int, ∀ a96_1 : Int, 0 ≤ i96_1 → i96_1 < (M1 24 5) → ∀ i27_1 : Int, ∀ a27_1 : Int, 0 ≤ i27_1 → i27_1 < (M1 51 ((x1 * 6) + i96_1)) → 0 ≤ ((((x1 * 6) + i96_1) * 60) + i27_1) ∧ ((((x1 * 6) + i96_1) * 60) + i27_1) < 4680 := by intros; omega) (s4 : ((0 < (M 24 0) ∧ 0 ≤ x1 ∧ x1 ≤ (M 24 1))) → ∀ M1 : dsMem, R1 M1 → ∀ i96_1 : Int, ∀ a96_1 : Int, 0 ≤ i96_1 → i96_1 < (M1 24 5) → ∀ i27_1 : Int, ∀ a27_1 : Int, 0 ≤ i27_1 → i27_1 < (M1 51 ((x1 * 6) + i96_1)) → -2147483648 ≤ i27_1 + 1 ∧ i27_1 + 1 < 2147483648 := by intros; omega) (s5 : ((0 < (M 24 0) ∧ 0 ≤ x1 ∧ x1 ≤ (M 24 1))) → ∀ M1 : dsMem, R1 M1 → ∀ i96_1 : Int, ∀ a96_1 : Int, 0 ≤ i96_1 → i96_1 < (M1 24 5) → 0 ≤ ((x1 * 6) + i96_1) ∧ ((x1 * 6) + i96_1) < 78 := by intros; omega) (s6 : ((0 < (M 24 0) ∧ 0 ≤ x1 ∧ x1 ≤ (M 24 1))) → ∀ M1 : dsMem, R1 M1 → ∀ i96_1 : Int, ∀ a96_1 : Int, 0 ≤ i96_1 → i96_1 < (M1 24 5) → -2147483648 ≤ i96_1 + 1 ∧ i96_1 + 1 < 2147483648 := by intros; omega) (k1 : ((0 < (M 24 0) ∧ 0 ≤ x1 ∧ x1 ≤ (M 24 1))) → ∀ M1 : dsMem, R1 M1 → Q [uI (dsIter (fun (i96_1 : Int) (a96_1 : Int) => (dsOr a96_1 (v27 M1 47 ((x1 * 6) + i96_1)))) 0 (M1 24 5) 0)] M1) (k2 : (¬ (0 < (M 24 0) ∧ 0 ≤ x1 ∧ x1 ≤ (M 24 1))) → Q [uI (-2)] M) :
    bB 96 0 [uR 10 0, uI x1, uX 0, uX 0, uX 0] [] M Q := by
  refine b_aload_n (d96 (j := 0) rfl) rfl ?_
  refine b_iload_n (d96 (j := 1) rfl) rfl ?_
  refine b_callV (d96 (j := 2) rfl) rfl rfl (Or.inl rfl) rfl (bCk_mk (n := 0) (k := 2) (by decide +kernel) rfl rfl) (pu152  ?_)
  refine b_stk [uI (if (0 < (M 24 0) ∧ 0 ≤ x1 ∧ x1 ≤ (M 24 1)) then 1 else 0)] rfl ?_
  refine b_ifneP (d96 (j := 3) rfl) (fun c1 => ?_) (fun c1 => ?_)
  ·
    refine b_aload_n (d96 (j := 6) rfl) rfl ?_
    refine b_callV (d96 (j := 7) rfl) rfl rfl (Or.inl rfl) rfl (bCk_mk (n := 0) (k := 1) (by decide +kernel) rfl rfl) ((hA1 c1) _ (fun M1 hR1 => ?_))
    refine b_stk [uR 5 47] rfl ?_
    refine b_astore_n [uR 10 0, uI x1, uR 5 47, uX 0, uX 0] (d96 (j := 8) rfl) (by decide) rfl ?_
    refine b_iconst (d96 (j := 9) rfl) (by decide) ?_
    refine b_istore_n [uR 10 0, uI x1, uR 5 47, uI 0, uX 0] (d96 (j := 10) rfl) (by decide) rfl ?_
    refine b_iconst (d96 (j := 11) rfl) (by decide) ?_
    refine b_istore [uR 10 0, uI x1, uR 5 47, uI 0, uI 0] (d96 (j := 12) rfl) (by decide) rfl ?_
    refine b_for (fun (i96_1 : Int) (a96_1 : Int) => [uR 10 0, uI x1, uR 5 47, uI a96_1, uI i96_1]) (fun (i96_1 : Int) (a96_1 : Int) => (dsOr a96_1 (v27 M1 47 ((x1 * 6) + i96_1)))) 0 (M1 24 5) 0 (fun i96_1 a96_1 h96_1l h96_1r hk96_1 => ?_) (fun i96_1 h96_1l h96_1r => ?_)
    ·
      refine b_iload (d96 (j := 13) rfl) rfl ?_
      refine b_aload_n (d96 (j := 14) rfl) rfl ?_
      refine b_getR (d96 (j := 15) rfl) rfl rfl rfl rfl ?_
      refine b_stk [uR 4 24, uI i96_1] rfl ?_
      refine b_getI (d96 (j := 16) rfl) rfl rfl rfl rfl (Or.inl rfl) ?_
      refine b_stk [uI (M1 24 5), uI i96_1] rfl ?_
      refine b_icmp_ge (d96 (j := 17) rfl) (fun c2 => ?_) (fun c2 => ?_)
      · exfalso; omega
      ·
        refine b_iload_n (d96 (j := 18) rfl) rfl ?_
        refine b_aload_n (d96 (j := 19) rfl) rfl ?_
        refine b_iload (d96 (j := 20) rfl) rfl ?_
        refine b_iload_n (d96 (j := 21) rfl) rfl ?_
        refine b_callS (d96 (j := 22) rfl) (Or.inl rfl) rfl (bCk_mk (n := 2) (k := 2) (by decide +kernel) rfl rfl) (pu146 (s1 c1 M1 hR1 i96_1 a96_1 h96_1l h96_1r) ?_)
        refine b_stk [uI ((x1 * 6) + i96_1), uR 5 47, uI a96_1] rfl ?_
        refine b_callV (d96 (j := 23) rfl) rfl rfl (Or.inl rfl) rfl (bCk_mk (n := 1) (k := 2) (by decide +kernel) rfl rfl) (fx27 (s2 c1 M1 hR1 i96_1 a96_1 h96_1l h96_1r) (s3 c1 M1 hR1 i96_1 a96_1 h96_1l h96_1r) (s4 c1 M1 hR1 i96_1 a96_1 h96_1l h96_1r) (s5 c1 M1 hR1 i96_1 a96_1 h96_1l h96_1r) ?_)
        refine b_stk [uI (v27 M1 47 ((x1 * 6) + i96_1)), uI a96_1] rfl ?_
        refine b_ior (d96 (j := 24) rfl) ?_
        refine b_istore_n [uR 10 0, uI x1, uR 5 47, uI (dsOr a96_1 (v27 M1 47 ((x1 * 6) + i96_1))), uI i96_1] (d96 (j := 25) rfl) (by decide) rfl ?_
        refine b_iinc [uR 10 0, uI x1, uR 5 47, uI (dsOr a96_1 (v27 M1 47 ((x1 * 6) + i96_1))), uI (i96_1 + 1)] (d96 (j := 26) rfl) rfl (by decide) (s6 c1 M1 hR1 i96_1 a96_1 h96_1l h96_1r) rfl ?_
        refine b_goto (d96 (j := 27) rfl) ?_
        exact hk96_1
    ·
      refine b_iload (d96 (j := 13) rfl) rfl ?_
      refine b_aload_n (d96 (j := 14) rfl) rfl ?_
      refine b_getR (d96 (j := 15) rfl) rfl rfl rfl rfl ?_
      refine b_stk [uR 4 24, uI i96_1] rfl ?_
      refine b_getI (d96 (j := 16) rfl) rfl rfl rfl rfl (Or.inl rfl) ?_
      refine b_stk [uI (M1 24 5), uI i96_1] rfl ?_
      refine b_icmp_ge (d96 (j := 17) rfl) (fun c3 => ?_) (fun c3 => ?_)
      rotate_left
      · exfalso; omega
      ·
        refine b_iload_n (d96 (j := 28) rfl) rfl ?_
        exact b_iret (d96 (j := 29) rfl) rfl (k1 c1 M1 hR1)
  ·
    refine b_bipush (d96 (j := 4) rfl) (by decide) ?_
    exact b_iret (d96 (j := 5) rfl) rfl (k2 c1)
def L97 : List (Nat × Instr × Nat × Nat) := [(0, .aload_n 0, 1, 0), (1, .iload_n 1, 2, 0), (2, .invokevirtual 100, 5, 0), (5, .ifCond .eq 23, 8, 28), (8, .aload_n 0, 9, 0), (9, .iload_n 2, 10, 0), (10, .invokevirtual 196, 13, 0), (13, .ifCond .eq 15, 16, 28), (16, .aload_n 0, 17, 0), (17, .invokevirtual 149, 20, 0), (20, .iload_n 1, 21, 0), (21, .iload_n 2, 22, 0), (22, .invokevirtual 213, 25, 0), (25, .goto 5, 28, 30), (28, .bipush (-2), 30, 0), (30, .ireturn, 31, 0)]
set_option maxRecDepth 100000 in
theorem L97_ok : L97.all (dck 97) = true := by decide +kernel
theorem d97 {j pc nx tg : Nat} {ins : Instr} (hj : L97[j]? = some (pc, ins, nx, tg)) : dcd 97 pc ins nx tg := dcl_ok L97_ok hj
set_option maxRecDepth 100000 in
set_option maxHeartbeats 4000000 in
theorem r97_0 {x1 x2 : Int} {R1 : dsMem → Prop} {M : dsMem} {Q : bQT} (s1 : -2147483648 ≤ ((M 24 4) - 1) ∧ ((M 24 4) - 1) < 2147483648 := by intros; omega) (k1 : (¬ (0 ≤ x1 ∧ x1 ≤ (M 24 4) - 1)) → Q [uI (-2)] M) (k2 : ((0 ≤ x1 ∧ x1 ≤ (M 24 4) - 1)) → (¬ (0 < (M 24 0) ∧ 0 ≤ x2 ∧ x2 ≤ (M 24 1))) → Q [uI (-2)] M) (hA1 : ((0 ≤ x1 ∧ x1 ≤ (M 24 4) - 1)) → ((0 < (M 24 0) ∧ 0 ≤ x2 ∧ x2 ≤ (M 24 1))) → bCt 157 [uR 10 0] M (fun _ => [uR 5 47]) R1) (s2 : ((0 ≤ x1 ∧ x1 ≤ (M 24 4) - 1)) → ((0 < (M 24 0) ∧ 0 ≤ x2 ∧ x2 ≤ (M 24 1))) → ∀ M1 : dsMem, R1 M1 → ∀ i23_1 : Int, ∀ a23_1 : Int, 0 ≤ i23_1 → i23_1 < (M1 24 5) → 0 ≤ i23_1 ∧ i23_1 < 6 := by intros; omega) (s3 : ((0 ≤ x1 ∧ x1 ≤ (M 24 4) - 1)) → ((0 < (M 24 0) ∧ 0 ≤ x2 ∧ x2 ≤ (M 24 1))) → ∀ M1 : dsMem, R1 M1 → ∀ i23_1 : Int, ∀ a23_1 : Int, 0 ≤ i23_1 → i23_1 < (M1 24 5) → -2147483648 ≤ i23_1 + 1 ∧ i23_1 + 1 < 2147483648 := by intros; omega) (s4 : ((0 ≤ x1 ∧ x1 ≤ (M 24 4) - 1)) → ((0 < (M 24 0) ∧ 0 ≤ x2 ∧ x2 ≤ (M 24 1))) → ∀ M1 : dsMem, R1 M1 → ∀ i23_1 : Int, ∀ a23_1 : Int, 0 ≤ i23_1 → i23_1 < (M1 24 5) → ((M1 29 i23_1) = x1) → -2147483648 ≤ ((x2 * 6) + i23_1) ∧ ((x2 * 6) + i23_1) < 2147483648 := by intros; omega) (s5 : ((0 ≤ x1 ∧ x1 ≤ (M 24 4) - 1)) → ((0 < (M 24 0) ∧ 0 ≤ x2 ∧ x2 ≤ (M 24 1))) → ∀ M1 : dsMem, R1 M1 → ∀ i23_1 : Int, ∀ a23_1 : Int, 0 ≤ i23_1 → i23_1 < (M1 24 5) → ((M1 29 i23_1) = x1) → 0 ≤ ((x2 * 6) + i23_1) ∧ ((x2 * 6) + i23_1) < 78 := by intros; omega) (k3 : ((0 ≤ x1 ∧ x1 ≤ (M 24 4) - 1)) → ((0 < (M 24 0) ∧ 0 ≤ x2 ∧ x2 ≤ (M 24 1))) → ∀ M1 : dsMem, R1 M1 → Q [uI (v23 M1 47 x1 x2)] M1) :
    bB 97 0 [uR 10 0, uI x1, uI x2] [] M Q := by
  refine b_aload_n (d97 (j := 0) rfl) rfl ?_
  refine b_iload_n (d97 (j := 1) rfl) rfl ?_
  refine b_callV (d97 (j := 2) rfl) rfl rfl (Or.inl rfl) rfl (bCk_mk (n := 0) (k := 2) (by decide +kernel) rfl rfl) (pu150 s1 ?_)
  refine b_stk [uI (if (0 ≤ x1 ∧ x1 ≤ (M 24 4) - 1) then 1 else 0)] rfl ?_
  refine b_ifeqP (d97 (j := 3) rfl) (fun c1 => ?_) (fun c1 => ?_)
  ·
    refine b_bipush (d97 (j := 14) rfl) (by decide) ?_
    exact b_iret (d97 (j := 15) rfl) rfl (k1 c1)
  ·
    refine b_aload_n (d97 (j := 4) rfl) rfl ?_
    refine b_iload_n (d97 (j := 5) rfl) rfl ?_
    refine b_callV (d97 (j := 6) rfl) rfl rfl (Or.inl rfl) rfl (bCk_mk (n := 0) (k := 2) (by decide +kernel) rfl rfl) (pu152  ?_)
    refine b_stk [uI (if (0 < (M 24 0) ∧ 0 ≤ x2 ∧ x2 ≤ (M 24 1)) then 1 else 0)] rfl ?_
    refine b_ifeqP (d97 (j := 7) rfl) (fun c2 => ?_) (fun c2 => ?_)
    ·
      refine b_bipush (d97 (j := 14) rfl) (by decide) ?_
      exact b_iret (d97 (j := 15) rfl) rfl (k2 c1 c2)
    ·
      refine b_aload_n (d97 (j := 8) rfl) rfl ?_
      refine b_callV (d97 (j := 9) rfl) rfl rfl (Or.inl rfl) rfl (bCk_mk (n := 0) (k := 1) (by decide +kernel) rfl rfl) ((hA1 c1 c2) _ (fun M1 hR1 => ?_))
      refine b_stk [uR 5 47] rfl ?_
      refine b_iload_n (d97 (j := 10) rfl) rfl ?_
      refine b_iload_n (d97 (j := 11) rfl) rfl ?_
      refine b_callV (d97 (j := 12) rfl) rfl rfl (Or.inl rfl) rfl (bCk_mk (n := 0) (k := 3) (by decide +kernel) rfl rfl) (fx23 (s2 c1 c2 M1 hR1) (s3 c1 c2 M1 hR1) (s4 c1 c2 M1 hR1) (s5 c1 c2 M1 hR1) ?_)
      refine b_stk [uI (v23 M1 47 x1 x2)] rfl ?_
      refine b_goto (d97 (j := 13) rfl) ?_
      exact b_iret (d97 (j := 15) rfl) rfl (k3 c1 c2 M1 hR1)
def L98 : List (Nat × Instr × Nat × Nat) := [(0, .aload_n 0, 1, 0), (1, .iload_n 1, 2, 0), (2, .invokevirtual 100, 5, 0), (5, .ifCond .eq 27, 8, 32), (8, .aload_n 0, 9, 0), (9, .iload_n 2, 10, 0), (10, .invokevirtual 196, 13, 0), (13, .ifCond .eq 19, 16, 32), (16, .aload_n 0, 17, 0), (17, .invokevirtual 149, 20, 0), (20, .getfield 216, 23, 0), (23, .iload_n 2, 24, 0), (24, .iconst 3, 25, 0), (25, .imul, 26, 0), (26, .iload_n 1, 27, 0), (27, .iadd, 28, 0), (28, .iaload, 29, 0), (29, .goto 5, 32, 34), (32, .bipush (-2), 34, 0), (34, .ireturn, 35, 0)]
set_option maxRecDepth 100000 in
theorem L98_ok : L98.all (dck 98) = true := by decide +kernel
theorem d98 {j pc nx tg : Nat} {ins : Instr} (hj : L98[j]? = some (pc, ins, nx, tg)) : dcd 98 pc ins nx tg := dcl_ok L98_ok hj
set_option maxRecDepth 100000 in
set_option maxHeartbeats 4000000 in
theorem r98_0 {x1 x2 : Int} {R1 : dsMem → Prop} {M : dsMem} {Q : bQT} (s1 : -2147483648 ≤ ((M 24 4) - 1) ∧ ((M 24 4) - 1) < 2147483648 := by intros; omega) (k1 : (¬ (0 ≤ x1 ∧ x1 ≤ (M 24 4) - 1)) → Q [uI (-2)] M) (k2 : ((0 ≤ x1 ∧ x1 ≤ (M 24 4) - 1)) → (¬ (0 < (M 24 0) ∧ 0 ≤ x2 ∧ x2 ≤ (M 24 1))) → Q [uI (-2)] M) (hA1 : ((0 ≤ x1 ∧ x1 ≤ (M 24 4) - 1)) → ((0 < (M 24 0) ∧ 0 ≤ x2 ∧ x2 ≤ (M 24 1))) → bCt 157 [uR 10 0] M (fun _ => [uR 5 47]) R1) (s2 : ((0 ≤ x1 ∧ x1 ≤ (M 24 4) - 1)) → ((0 < (M 24 0) ∧ 0 ≤ x2 ∧ x2 ≤ (M 24 1))) → ∀ M1 : dsMem, R1 M1 → 0 ≤ ((x2 * 3) + x1) ∧ ((x2 * 3) + x1) < 39 := by intros; omega) (k3 : ((0 ≤ x1 ∧ x1 ≤ (M 24 4) - 1)) → ((0 < (M 24 0) ∧ 0 ≤ x2 ∧ x2 ≤ (M 24 1))) → ∀ M1 : dsMem, R1 M1 → Q [uI (M1 53 ((x2 * 3) + x1))] M1) :
    bB 98 0 [uR 10 0, uI x1, uI x2] [] M Q := by
  refine b_aload_n (d98 (j := 0) rfl) rfl ?_
  refine b_iload_n (d98 (j := 1) rfl) rfl ?_
  refine b_callV (d98 (j := 2) rfl) rfl rfl (Or.inl rfl) rfl (bCk_mk (n := 0) (k := 2) (by decide +kernel) rfl rfl) (pu150 s1 ?_)
  refine b_stk [uI (if (0 ≤ x1 ∧ x1 ≤ (M 24 4) - 1) then 1 else 0)] rfl ?_
  refine b_ifeqP (d98 (j := 3) rfl) (fun c1 => ?_) (fun c1 => ?_)
  ·
    refine b_bipush (d98 (j := 18) rfl) (by decide) ?_
    exact b_iret (d98 (j := 19) rfl) rfl (k1 c1)
  ·
    refine b_aload_n (d98 (j := 4) rfl) rfl ?_
    refine b_iload_n (d98 (j := 5) rfl) rfl ?_
    refine b_callV (d98 (j := 6) rfl) rfl rfl (Or.inl rfl) rfl (bCk_mk (n := 0) (k := 2) (by decide +kernel) rfl rfl) (pu152  ?_)
    refine b_stk [uI (if (0 < (M 24 0) ∧ 0 ≤ x2 ∧ x2 ≤ (M 24 1)) then 1 else 0)] rfl ?_
    refine b_ifeqP (d98 (j := 7) rfl) (fun c2 => ?_) (fun c2 => ?_)
    ·
      refine b_bipush (d98 (j := 18) rfl) (by decide) ?_
      exact b_iret (d98 (j := 19) rfl) rfl (k2 c1 c2)
    ·
      refine b_aload_n (d98 (j := 8) rfl) rfl ?_
      refine b_callV (d98 (j := 9) rfl) rfl rfl (Or.inl rfl) rfl (bCk_mk (n := 0) (k := 1) (by decide +kernel) rfl rfl) ((hA1 c1 c2) _ (fun M1 hR1 => ?_))
      refine b_stk [uR 5 47] rfl ?_
      refine b_getR (d98 (j := 10) rfl) rfl rfl rfl rfl ?_
      refine b_stk [uR 26 53] rfl ?_
      refine b_iload_n (d98 (j := 11) rfl) rfl ?_
      refine b_iconst (d98 (j := 12) rfl) (by decide) ?_
      refine b_imul (d98 (j := 13) rfl) rfl rfl ?_
      refine b_iload_n (d98 (j := 14) rfl) rfl ?_
      refine b_iadd (d98 (j := 15) rfl) (dsw_dsw _) rfl ?_
      refine b_stk [uI ((x2 * 3) + x1), uR 26 53] (by rw [dsw_b (s2 c1 c2 M1 hR1) (by decide)]) ?_
      refine b_iaload (d98 (j := 16) rfl) rfl (s2 c1 c2 M1 hR1) ?_
      refine b_goto (d98 (j := 17) rfl) ?_
      exact b_iret (d98 (j := 19) rfl) rfl (k3 c1 c2 M1 hR1)
def L99 : List (Nat × Instr × Nat × Nat) := [(0, .aload_n 0, 1, 0), (1, .iload_n 1, 2, 0), (2, .invokevirtual 196, 5, 0), (5, .ifCond .eq 15, 8, 20), (8, .aload_n 0, 9, 0), (9, .invokevirtual 149, 12, 0), (12, .getfield 189, 15, 0), (15, .iload_n 1, 16, 0), (16, .iaload, 17, 0), (17, .goto 5, 20, 22), (20, .bipush (-2), 22, 0), (22, .ireturn, 23, 0)]
set_option maxRecDepth 100000 in
theorem L99_ok : L99.all (dck 99) = true := by decide +kernel
theorem d99 {j pc nx tg : Nat} {ins : Instr} (hj : L99[j]? = some (pc, ins, nx, tg)) : dcd 99 pc ins nx tg := dcl_ok L99_ok hj
set_option maxRecDepth 100000 in
set_option maxHeartbeats 4000000 in
theorem r99_0 {x1 : Int} {R1 : dsMem → Prop} {M : dsMem} {Q : bQT} (k1 : (¬ (0 < (M 24 0) ∧ 0 ≤ x1 ∧ x1 ≤ (M 24 1))) → Q [uI (-2)] M) (hA1 : ((0 < (M 24 0) ∧ 0 ≤ x1 ∧ x1 ≤ (M 24 1))) → bCt 157 [uR 10 0] M (fun _ => [uR 5 47]) R1) (s1 : ((0 < (M 24 0) ∧ 0 ≤ x1 ∧ x1 ≤ (M 24 1))) → ∀ M1 : dsMem, R1 M1 → 0 ≤ x1 ∧ x1 < 13 := by intros; omega) (k2 : ((0 < (M 24 0) ∧ 0 ≤ x1 ∧ x1 ≤ (M 24 1))) → ∀ M1 : dsMem, R1 M1 → Q [uI (M1 54 x1)] M1) :
    bB 99 0 [uR 10 0, uI x1] [] M Q := by
  refine b_aload_n (d99 (j := 0) rfl) rfl ?_
  refine b_iload_n (d99 (j := 1) rfl) rfl ?_
  refine b_callV (d99 (j := 2) rfl) rfl rfl (Or.inl rfl) rfl (bCk_mk (n := 0) (k := 2) (by decide +kernel) rfl rfl) (pu152  ?_)
  refine b_stk [uI (if (0 < (M 24 0) ∧ 0 ≤ x1 ∧ x1 ≤ (M 24 1)) then 1 else 0)] rfl ?_
  refine b_ifeqP (d99 (j := 3) rfl) (fun c1 => ?_) (fun c1 => ?_)
  ·
    refine b_bipush (d99 (j := 10) rfl) (by decide) ?_
    exact b_iret (d99 (j := 11) rfl) rfl (k1 c1)
  ·
    refine b_aload_n (d99 (j := 4) rfl) rfl ?_
    refine b_callV (d99 (j := 5) rfl) rfl rfl (Or.inl rfl) rfl (bCk_mk (n := 0) (k := 1) (by decide +kernel) rfl rfl) ((hA1 c1) _ (fun M1 hR1 => ?_))
    refine b_stk [uR 5 47] rfl ?_
    refine b_getR (d99 (j := 6) rfl) rfl rfl rfl rfl ?_
    refine b_stk [uR 27 54] rfl ?_
    refine b_iload_n (d99 (j := 7) rfl) rfl ?_
    refine b_iaload (d99 (j := 8) rfl) rfl (s1 c1 M1 hR1) ?_
    refine b_goto (d99 (j := 9) rfl) ?_
    exact b_iret (d99 (j := 11) rfl) rfl (k2 c1 M1 hR1)
def L100 : List (Nat × Instr × Nat × Nat) := [(0, .aload_n 0, 1, 0), (1, .iload_n 1, 2, 0), (2, .invokevirtual 100, 5, 0), (5, .ifCond .ne 6, 8, 11), (8, .bipush (-2), 10, 0), (10, .ireturn, 11, 0), (11, .aload_n 0, 12, 0), (12, .invokevirtual 149, 15, 0), (15, .astore_n 2, 16, 0), (16, .iconst 0, 17, 0), (17, .istore_n 3, 18, 0), (18, .iload_n 3, 19, 0), (19, .aload_n 0, 20, 0), (20, .getfield 23, 23, 0), (23, .getfield 186, 26, 0), (26, .if_icmp .gt 24, 29, 50), (29, .aload_n 2, 30, 0), (30, .getfield 189, 33, 0), (33, .iload_n 3, 34, 0), (34, .iaload, 35, 0), (35, .iload_n 1, 36, 0), (36, .invokestatic 219, 39, 0), (39, .ifCond .ne 5, 42, 44), (42, .iload_n 3, 43, 0), (43, .ireturn, 44, 0), (44, .iinc 3 1, 47, 0), (47, .goto (-29), 50, 18), (50, .iconst (-1), 51, 0), (51, .ireturn, 52, 0)]
set_option maxRecDepth 100000 in
theorem L100_ok : L100.all (dck 100) = true := by decide +kernel
theorem d100 {j pc nx tg : Nat} {ins : Instr} (hj : L100[j]? = some (pc, ins, nx, tg)) : dcd 100 pc ins nx tg := dcl_ok L100_ok hj
set_option maxRecDepth 100000 in
set_option maxHeartbeats 4000000 in
theorem r100_0 {x1 : Int} {R1 : dsMem → Prop} {M : dsMem} {Q : bQT} (s1 : -2147483648 ≤ ((M 24 4) - 1) ∧ ((M 24 4) - 1) < 2147483648 := by intros; omega) (hA1 : ((0 ≤ x1 ∧ x1 ≤ (M 24 4) - 1)) → bCt 157 [uR 10 0] M (fun _ => [uR 5 47]) R1) (s2 : ((0 ≤ x1 ∧ x1 ≤ (M 24 4) - 1)) → ∀ M1 : dsMem, R1 M1 → ∀ i100_1 : Int, 0 ≤ i100_1 → i100_1 < ((M1 24 1) + 1) → 0 ≤ i100_1 ∧ i100_1 < 13 := by intros; omega) (s3 : ((0 ≤ x1 ∧ x1 ≤ (M 24 4) - 1)) → ∀ M1 : dsMem, R1 M1 → ∀ i100_1 : Int, 0 ≤ i100_1 → i100_1 < ((M1 24 1) + 1) → -2147483648 ≤ i100_1 + 1 ∧ i100_1 + 1 < 2147483648 := by intros; omega) (k1 : ((0 ≤ x1 ∧ x1 ≤ (M 24 4) - 1)) → ∀ M1 : dsMem, R1 M1 → ((dsFind (fun (i100_1 : Int) => ¬ ((dsAnd (dsShr (M1 54 i100_1) x1) 1 = 1))) 0 ((M1 24 1) + 1)) < ((M1 24 1) + 1)) → Q [uI (dsFind (fun (i100_1 : Int) => ¬ ((dsAnd (dsShr (M1 54 i100_1) x1) 1 = 1))) 0 ((M1 24 1) + 1))] M1) (k2 : ((0 ≤ x1 ∧ x1 ≤ (M 24 4) - 1)) → ∀ M1 : dsMem, R1 M1 → (¬ (dsFind (fun (i100_1 : Int) => ¬ ((dsAnd (dsShr (M1 54 i100_1) x1) 1 = 1))) 0 ((M1 24 1) + 1)) < ((M1 24 1) + 1)) → Q [uI (-1)] M1) (k3 : (¬ (0 ≤ x1 ∧ x1 ≤ (M 24 4) - 1)) → Q [uI (-2)] M) :
    bB 100 0 [uR 10 0, uI x1, uX 0, uX 0] [] M Q := by
  refine b_aload_n (d100 (j := 0) rfl) rfl ?_
  refine b_iload_n (d100 (j := 1) rfl) rfl ?_
  refine b_callV (d100 (j := 2) rfl) rfl rfl (Or.inl rfl) rfl (bCk_mk (n := 0) (k := 2) (by decide +kernel) rfl rfl) (pu150 s1 ?_)
  refine b_stk [uI (if (0 ≤ x1 ∧ x1 ≤ (M 24 4) - 1) then 1 else 0)] rfl ?_
  refine b_ifneP (d100 (j := 3) rfl) (fun c1 => ?_) (fun c1 => ?_)
  ·
    refine b_aload_n (d100 (j := 6) rfl) rfl ?_
    refine b_callV (d100 (j := 7) rfl) rfl rfl (Or.inl rfl) rfl (bCk_mk (n := 0) (k := 1) (by decide +kernel) rfl rfl) ((hA1 c1) _ (fun M1 hR1 => ?_))
    refine b_stk [uR 5 47] rfl ?_
    refine b_astore_n [uR 10 0, uI x1, uR 5 47, uX 0] (d100 (j := 8) rfl) (by decide) rfl ?_
    refine b_iconst (d100 (j := 9) rfl) (by decide) ?_
    refine b_istore_n [uR 10 0, uI x1, uR 5 47, uI 0] (d100 (j := 10) rfl) (by decide) rfl ?_
    refine b_find (fun (i100_1 : Int) => [uR 10 0, uI x1, uR 5 47, uI i100_1]) (fun (i100_1 : Int) => ¬ ((dsAnd (dsShr (M1 54 i100_1) x1) 1 = 1))) 0 ((M1 24 1) + 1) (fun i100_1 h100_1l h100_1r hn hk100_1 => ?_) (fun i100_1 h100_1l h100_1r hp he => ?_) (fun i100_1 h100_1l h100_1r he => ?_)
    ·
      refine b_iload_n (d100 (j := 11) rfl) rfl ?_
      refine b_aload_n (d100 (j := 12) rfl) rfl ?_
      refine b_getR (d100 (j := 13) rfl) rfl rfl rfl rfl ?_
      refine b_stk [uR 4 24, uI i100_1] rfl ?_
      refine b_getI (d100 (j := 14) rfl) rfl rfl rfl rfl (Or.inl rfl) ?_
      refine b_stk [uI (M1 24 1), uI i100_1] rfl ?_
      refine b_icmp_gt (d100 (j := 15) rfl) (fun c2 => ?_) (fun c2 => ?_)
      · exfalso; omega
      ·
        refine b_aload_n (d100 (j := 16) rfl) rfl ?_
        refine b_getR (d100 (j := 17) rfl) rfl rfl rfl rfl ?_
        refine b_stk [uR 27 54] rfl ?_
        refine b_iload_n (d100 (j := 18) rfl) rfl ?_
        refine b_iaload (d100 (j := 19) rfl) rfl (s2 c1 M1 hR1 i100_1 h100_1l h100_1r) ?_
        refine b_iload_n (d100 (j := 20) rfl) rfl ?_
        refine b_callS (d100 (j := 21) rfl) (Or.inl rfl) rfl (bCk_mk (n := 0) (k := 2) (by decide +kernel) rfl rfl) (pu145 ?_)
        refine b_stk [uI (if (dsAnd (dsShr (M1 54 i100_1) x1) 1 = 1) then 1 else 0)] rfl ?_
        refine b_ifneP (d100 (j := 22) rfl) (fun c3 => ?_) (fun c3 => ?_)
        ·
          refine b_iinc [uR 10 0, uI x1, uR 5 47, uI (i100_1 + 1)] (d100 (j := 25) rfl) rfl (by decide) (s3 c1 M1 hR1 i100_1 h100_1l h100_1r) rfl ?_
          refine b_goto (d100 (j := 26) rfl) ?_
          exact hk100_1
        ·
          refine b_iload_n (d100 (j := 23) rfl) rfl ?_
          exfalso; omega
    ·
      subst he
      refine b_iload_n (d100 (j := 11) rfl) rfl ?_
      refine b_aload_n (d100 (j := 12) rfl) rfl ?_
      refine b_getR (d100 (j := 13) rfl) rfl rfl rfl rfl ?_
      refine b_stk [uR 4 24, uI (dsFind (fun (i100_1 : Int) => ¬ ((dsAnd (dsShr (M1 54 i100_1) x1) 1 = 1))) 0 ((M1 24 1) + 1))] rfl ?_
      refine b_getI (d100 (j := 14) rfl) rfl rfl rfl rfl (Or.inl rfl) ?_
      refine b_stk [uI (M1 24 1), uI (dsFind (fun (i100_1 : Int) => ¬ ((dsAnd (dsShr (M1 54 i100_1) x1) 1 = 1))) 0 ((M1 24 1) + 1))] rfl ?_
      refine b_icmp_gt (d100 (j := 15) rfl) (fun c4 => ?_) (fun c4 => ?_)
      · exfalso; omega
      ·
        refine b_aload_n (d100 (j := 16) rfl) rfl ?_
        refine b_getR (d100 (j := 17) rfl) rfl rfl rfl rfl ?_
        refine b_stk [uR 27 54] rfl ?_
        refine b_iload_n (d100 (j := 18) rfl) rfl ?_
        refine b_iaload (d100 (j := 19) rfl) rfl (s2 c1 M1 hR1 (dsFind (fun (i100_1 : Int) => ¬ ((dsAnd (dsShr (M1 54 i100_1) x1) 1 = 1))) 0 ((M1 24 1) + 1)) h100_1l h100_1r) ?_
        refine b_iload_n (d100 (j := 20) rfl) rfl ?_
        refine b_callS (d100 (j := 21) rfl) (Or.inl rfl) rfl (bCk_mk (n := 0) (k := 2) (by decide +kernel) rfl rfl) (pu145 ?_)
        refine b_stk [uI (if (dsAnd (dsShr (M1 54 (dsFind (fun (i100_1 : Int) => ¬ ((dsAnd (dsShr (M1 54 i100_1) x1) 1 = 1))) 0 ((M1 24 1) + 1))) x1) 1 = 1) then 1 else 0)] rfl ?_
        refine b_ifneP (d100 (j := 22) rfl) (fun c5 => ?_) (fun c5 => ?_)
        ·
          refine b_iinc [uR 10 0, uI x1, uR 5 47, uI ((dsFind (fun (i100_1 : Int) => ¬ ((dsAnd (dsShr (M1 54 i100_1) x1) 1 = 1))) 0 ((M1 24 1) + 1)) + 1)] (d100 (j := 25) rfl) rfl (by decide) (s3 c1 M1 hR1 (dsFind (fun (i100_1 : Int) => ¬ ((dsAnd (dsShr (M1 54 i100_1) x1) 1 = 1))) 0 ((M1 24 1) + 1)) h100_1l h100_1r) rfl ?_
          refine b_goto (d100 (j := 26) rfl) ?_
          exfalso; omega
        ·
          refine b_iload_n (d100 (j := 23) rfl) rfl ?_
          exact b_iret (d100 (j := 24) rfl) rfl (k1 c1 M1 hR1 h100_1r)
    ·
      refine b_iload_n (d100 (j := 11) rfl) rfl ?_
      refine b_aload_n (d100 (j := 12) rfl) rfl ?_
      refine b_getR (d100 (j := 13) rfl) rfl rfl rfl rfl ?_
      refine b_stk [uR 4 24, uI i100_1] rfl ?_
      refine b_getI (d100 (j := 14) rfl) rfl rfl rfl rfl (Or.inl rfl) ?_
      refine b_stk [uI (M1 24 1), uI i100_1] rfl ?_
      refine b_icmp_gt (d100 (j := 15) rfl) (fun c6 => ?_) (fun c6 => ?_)
      rotate_left
      · exfalso; omega
      ·
        refine b_iconst (d100 (j := 27) rfl) (by decide) ?_
        exact b_iret (d100 (j := 28) rfl) rfl (k2 c1 M1 hR1 he)
  ·
    refine b_bipush (d100 (j := 4) rfl) (by decide) ?_
    exact b_iret (d100 (j := 5) rfl) rfl (k3 c1)
def L101 : List (Nat × Instr × Nat × Nat) := [(0, .aload_n 0, 1, 0), (1, .invokevirtual 179, 4, 0), (4, .ifCond .ne 6, 7, 10), (7, .bipush (-2), 9, 0), (9, .ireturn, 10, 0), (10, .aload_n 0, 11, 0), (11, .invokevirtual 149, 14, 0), (14, .astore_n 1, 15, 0), (15, .iconst (-1), 16, 0), (16, .istore_n 2, 17, 0), (17, .iconst 0, 18, 0), (18, .istore_n 3, 19, 0), (19, .iconst 0, 20, 0), (20, .istore 4, 22, 0), (22, .iload 4, 24, 0), (24, .aload_n 0, 25, 0), (25, .getfield 23, 28, 0), (28, .getfield 222, 31, 0), (31, .if_icmp .ge 40, 34, 71), (34, .aload_n 1, 35, 0), (35, .getfield 216, 38, 0), (38, .aload_n 0, 39, 0), (39, .getfield 23, 42, 0), (42, .getfield 186, 45, 0), (45, .iconst 3, 46, 0), (46, .imul, 47, 0), (47, .iload 4, 49, 0), (49, .iadd, 50, 0), (50, .iaload, 51, 0), (51, .istore 5, 53, 0), (53, .iload 5, 55, 0), (55, .iload_n 3, 56, 0), (56, .if_icmp .le 9, 59, 65), (59, .iload 4, 61, 0), (61, .istore_n 2, 62, 0), (62, .iload 5, 64, 0), (64, .istore_n 3, 65, 0), (65, .iinc 4 1, 68, 0), (68, .goto (-46), 71, 22), (71, .iload_n 2, 72, 0), (72, .ireturn, 73, 0)]
set_option maxRecDepth 100000 in
theorem L101_ok : L101.all (dck 101) = true := by decide +kernel
theorem d101 {j pc nx tg : Nat} {ins : Instr} (hj : L101[j]? = some (pc, ins, nx, tg)) : dcd 101 pc ins nx tg := dcl_ok L101_ok hj
set_option maxRecDepth 100000 in
set_option maxHeartbeats 4000000 in
theorem r101_0  {R1 : dsMem → Prop} {M : dsMem} {Q : bQT} (hA1 : ((0 < (M 24 0))) → bCt 157 [uR 10 0] M (fun _ => [uR 5 47]) R1) (s1 : ((0 < (M 24 0))) → ∀ M1 : dsMem, R1 M1 → ∀ i101_1 : Int, ∀ a101_1 : Int × Int, 0 ≤ i101_1 → i101_1 < (M1 24 4) → 0 ≤ (((M1 24 1) * 3) + i101_1) ∧ (((M1 24 1) * 3) + i101_1) < 39 := by intros; omega) (s2 : ((0 < (M 24 0))) → ∀ M1 : dsMem, R1 M1 → ∀ i101_1 : Int, ∀ a101_1 : Int × Int, 0 ≤ i101_1 → i101_1 < (M1 24 4) → -2147483648 ≤ i101_1 + 1 ∧ i101_1 + 1 < 2147483648 := by intros; omega) (k1 : ((0 < (M 24 0))) → ∀ M1 : dsMem, R1 M1 → Q [uI ((dsIter (fun (i101_1 : Int) (a101_1 : Int × Int) => (if (M1 53 (((M1 24 1) * 3) + i101_1)) ≤ a101_1.2 then (a101_1.1, a101_1.2) else (i101_1, (M1 53 (((M1 24 1) * 3) + i101_1))))) 0 (M1 24 4) (-1, 0)).1)] M1) (k2 : (¬ (0 < (M 24 0))) → Q [uI (-2)] M) :
    bB 101 0 [uR 10 0, uX 0, uX 0, uX 0, uX 0, uX 0] [] M Q := by
  refine b_aload_n (d101 (j := 0) rfl) rfl ?_
  refine b_callV (d101 (j := 1) rfl) rfl rfl (Or.inl rfl) rfl (bCk_mk (n := 0) (k := 1) (by decide +kernel) rfl rfl) (pu149  ?_)
  refine b_stk [uI (if (0 < (M 24 0)) then 1 else 0)] rfl ?_
  refine b_ifneP (d101 (j := 2) rfl) (fun c1 => ?_) (fun c1 => ?_)
  ·
    refine b_aload_n (d101 (j := 5) rfl) rfl ?_
    refine b_callV (d101 (j := 6) rfl) rfl rfl (Or.inl rfl) rfl (bCk_mk (n := 0) (k := 1) (by decide +kernel) rfl rfl) ((hA1 c1) _ (fun M1 hR1 => ?_))
    refine b_stk [uR 5 47] rfl ?_
    refine b_astore_n [uR 10 0, uR 5 47, uX 0, uX 0, uX 0, uX 0] (d101 (j := 7) rfl) (by decide) rfl ?_
    refine b_iconst (d101 (j := 8) rfl) (by decide) ?_
    refine b_istore_n [uR 10 0, uR 5 47, uI (-1), uX 0, uX 0, uX 0] (d101 (j := 9) rfl) (by decide) rfl ?_
    refine b_iconst (d101 (j := 10) rfl) (by decide) ?_
    refine b_istore_n [uR 10 0, uR 5 47, uI (-1), uI 0, uX 0, uX 0] (d101 (j := 11) rfl) (by decide) rfl ?_
    refine b_iconst (d101 (j := 12) rfl) (by decide) ?_
    refine b_istore [uR 10 0, uR 5 47, uI (-1), uI 0, uI 0, uX 0] (d101 (j := 13) rfl) (by decide) rfl ?_
    refine b_for (fun (i101_1 : Int) (a101_1 : Int × Int) => [uR 10 0, uR 5 47, uI (a101_1.1), uI (a101_1.2), uI i101_1, uX 0]) (fun (i101_1 : Int) (a101_1 : Int × Int) => (if (M1 53 (((M1 24 1) * 3) + i101_1)) ≤ a101_1.2 then (a101_1.1, a101_1.2) else (i101_1, (M1 53 (((M1 24 1) * 3) + i101_1))))) 0 (M1 24 4) (-1, 0) (fun i101_1 a101_1 h101_1l h101_1r hk101_1 => ?_) (fun i101_1 h101_1l h101_1r => ?_)
    ·
      refine b_iload (d101 (j := 14) rfl) rfl ?_
      refine b_aload_n (d101 (j := 15) rfl) rfl ?_
      refine b_getR (d101 (j := 16) rfl) rfl rfl rfl rfl ?_
      refine b_stk [uR 4 24, uI i101_1] rfl ?_
      refine b_getI (d101 (j := 17) rfl) rfl rfl rfl rfl (Or.inl rfl) ?_
      refine b_stk [uI (M1 24 4), uI i101_1] rfl ?_
      refine b_icmp_ge (d101 (j := 18) rfl) (fun c2 => ?_) (fun c2 => ?_)
      · exfalso; omega
      ·
        refine b_aload_n (d101 (j := 19) rfl) rfl ?_
        refine b_getR (d101 (j := 20) rfl) rfl rfl rfl rfl ?_
        refine b_stk [uR 26 53] rfl ?_
        refine b_aload_n (d101 (j := 21) rfl) rfl ?_
        refine b_getR (d101 (j := 22) rfl) rfl rfl rfl rfl ?_
        refine b_stk [uR 4 24, uR 26 53] rfl ?_
        refine b_getI (d101 (j := 23) rfl) rfl rfl rfl rfl (Or.inl rfl) ?_
        refine b_stk [uI (M1 24 1), uR 26 53] rfl ?_
        refine b_iconst (d101 (j := 24) rfl) (by decide) ?_
        refine b_imul (d101 (j := 25) rfl) rfl rfl ?_
        refine b_iload (d101 (j := 26) rfl) rfl ?_
        refine b_iadd (d101 (j := 27) rfl) (dsw_dsw _) rfl ?_
        refine b_stk [uI (((M1 24 1) * 3) + i101_1), uR 26 53] (by rw [dsw_b (s1 c1 M1 hR1 i101_1 a101_1 h101_1l h101_1r) (by decide)]) ?_
        refine b_iaload (d101 (j := 28) rfl) rfl (s1 c1 M1 hR1 i101_1 a101_1 h101_1l h101_1r) ?_
        refine b_istore [uR 10 0, uR 5 47, uI (a101_1.1), uI (a101_1.2), uI i101_1, uI (M1 53 (((M1 24 1) * 3) + i101_1))] (d101 (j := 29) rfl) (by decide) rfl ?_
        refine b_iload (d101 (j := 30) rfl) rfl ?_
        refine b_iload_n (d101 (j := 31) rfl) rfl ?_
        refine b_icmp_le (d101 (j := 32) rfl) (fun c3 => ?_) (fun c3 => ?_)
        ·
          rw [if_pos c3] at hk101_1
          refine b_iinc [uR 10 0, uR 5 47, uI (a101_1.1), uI (a101_1.2), uI (i101_1 + 1), uI (M1 53 (((M1 24 1) * 3) + i101_1))] (d101 (j := 37) rfl) rfl (by decide) (s2 c1 M1 hR1 i101_1 a101_1 h101_1l h101_1r) rfl ?_
          refine b_goto (d101 (j := 38) rfl) ?_
          exact bB_le _ (bLe_s (bLe_s (bLe_s (bLe_s (bLe_s (bLe_x bLe_nil)))))) hk101_1
        ·
          rw [if_neg c3] at hk101_1
          refine b_iload (d101 (j := 33) rfl) rfl ?_
          refine b_istore_n [uR 10 0, uR 5 47, uI i101_1, uI (a101_1.2), uI i101_1, uI (M1 53 (((M1 24 1) * 3) + i101_1))] (d101 (j := 34) rfl) (by decide) rfl ?_
          refine b_iload (d101 (j := 35) rfl) rfl ?_
          refine b_istore_n [uR 10 0, uR 5 47, uI i101_1, uI (M1 53 (((M1 24 1) * 3) + i101_1)), uI i101_1, uI (M1 53 (((M1 24 1) * 3) + i101_1))] (d101 (j := 36) rfl) (by decide) rfl ?_
          refine b_iinc [uR 10 0, uR 5 47, uI i101_1, uI (M1 53 (((M1 24 1) * 3) + i101_1)), uI (i101_1 + 1), uI (M1 53 (((M1 24 1) * 3) + i101_1))] (d101 (j := 37) rfl) rfl (by decide) (s2 c1 M1 hR1 i101_1 a101_1 h101_1l h101_1r) rfl ?_
          refine b_goto (d101 (j := 38) rfl) ?_
          exact bB_le _ (bLe_s (bLe_s (bLe_s (bLe_s (bLe_s (bLe_x bLe_nil)))))) hk101_1
    ·
      refine b_iload (d101 (j := 14) rfl) rfl ?_
      refine b_aload_n (d101 (j := 15) rfl) rfl ?_
      refine b_getR (d101 (j := 16) rfl) rfl rfl rfl rfl ?_
      refine b_stk [uR 4 24, uI i101_1] rfl ?_
      refine b_getI (d101 (j := 17) rfl) rfl rfl rfl rfl (Or.inl rfl) ?_
      refine b_stk [uI (M1 24 4), uI i101_1] rfl ?_
      refine b_icmp_ge (d101 (j := 18) rfl) (fun c4 => ?_) (fun c4 => ?_)
      rotate_left
      · exfalso; omega
      ·
        refine b_iload_n (d101 (j := 39) rfl) rfl ?_
        exact b_iret (d101 (j := 40) rfl) rfl (k1 c1 M1 hR1)
  ·
    refine b_bipush (d101 (j := 3) rfl) (by decide) ?_
    exact b_iret (d101 (j := 4) rfl) rfl (k2 c1)
def L102 : List (Nat × Instr × Nat × Nat) := [(0, .iload_n 1, 1, 0), (1, .invokestatic 169, 4, 0), (4, .ifCond .eq 22, 7, 26), (7, .aload_n 0, 8, 0), (8, .invokevirtual 179, 11, 0), (11, .ifCond .eq 15, 14, 26), (14, .aload_n 0, 15, 0), (15, .invokevirtual 149, 18, 0), (18, .getfield 225, 21, 0), (21, .iload_n 1, 22, 0), (22, .iaload, 23, 0), (23, .goto 5, 26, 28), (26, .bipush (-2), 28, 0), (28, .ireturn, 29, 0)]
set_option maxRecDepth 100000 in
theorem L102_ok : L102.all (dck 102) = true := by decide +kernel
theorem d102 {j pc nx tg : Nat} {ins : Instr} (hj : L102[j]? = some (pc, ins, nx, tg)) : dcd 102 pc ins nx tg := dcl_ok L102_ok hj
set_option maxRecDepth 100000 in
set_option maxHeartbeats 4000000 in
theorem r102_0 {x1 : Int} {R1 : dsMem → Prop} {M : dsMem} {Q : bQT} (k1 : (¬ (1 ≤ x1 ∧ x1 ≤ 5)) → Q [uI (-2)] M) (k2 : ((1 ≤ x1 ∧ x1 ≤ 5)) → (¬ (0 < (M 24 0))) → Q [uI (-2)] M) (hA1 : ((1 ≤ x1 ∧ x1 ≤ 5)) → ((0 < (M 24 0))) → bCt 157 [uR 10 0] M (fun _ => [uR 5 47]) R1) (s1 : ((1 ≤ x1 ∧ x1 ≤ 5)) → ((0 < (M 24 0))) → ∀ M1 : dsMem, R1 M1 → 0 ≤ x1 ∧ x1 < 6 := by intros; omega) (k3 : ((1 ≤ x1 ∧ x1 ≤ 5)) → ((0 < (M 24 0))) → ∀ M1 : dsMem, R1 M1 → Q [uI (M1 57 x1)] M1) :
    bB 102 0 [uR 10 0, uI x1] [] M Q := by
  refine b_iload_n (d102 (j := 0) rfl) rfl ?_
  refine b_callS (d102 (j := 1) rfl) (Or.inl rfl) rfl (bCk_mk (n := 0) (k := 1) (by decide +kernel) rfl rfl) (pu147  ?_)
  refine b_stk [uI (if (1 ≤ x1 ∧ x1 ≤ 5) then 1 else 0)] rfl ?_
  refine b_ifeqP (d102 (j := 2) rfl) (fun c1 => ?_) (fun c1 => ?_)
  ·
    refine b_bipush (d102 (j := 12) rfl) (by decide) ?_
    exact b_iret (d102 (j := 13) rfl) rfl (k1 c1)
  ·
    refine b_aload_n (d102 (j := 3) rfl) rfl ?_
    refine b_callV (d102 (j := 4) rfl) rfl rfl (Or.inl rfl) rfl (bCk_mk (n := 0) (k := 1) (by decide +kernel) rfl rfl) (pu149  ?_)
    refine b_stk [uI (if (0 < (M 24 0)) then 1 else 0)] rfl ?_
    refine b_ifeqP (d102 (j := 5) rfl) (fun c2 => ?_) (fun c2 => ?_)
    ·
      refine b_bipush (d102 (j := 12) rfl) (by decide) ?_
      exact b_iret (d102 (j := 13) rfl) rfl (k2 c1 c2)
    ·
      refine b_aload_n (d102 (j := 6) rfl) rfl ?_
      refine b_callV (d102 (j := 7) rfl) rfl rfl (Or.inl rfl) rfl (bCk_mk (n := 0) (k := 1) (by decide +kernel) rfl rfl) ((hA1 c1 c2) _ (fun M1 hR1 => ?_))
      refine b_stk [uR 5 47] rfl ?_
      refine b_getR (d102 (j := 8) rfl) rfl rfl rfl rfl ?_
      refine b_stk [uR 21 57] rfl ?_
      refine b_iload_n (d102 (j := 9) rfl) rfl ?_
      refine b_iaload (d102 (j := 10) rfl) rfl (s1 c1 c2 M1 hR1) ?_
      refine b_goto (d102 (j := 11) rfl) ?_
      exact b_iret (d102 (j := 13) rfl) rfl (k3 c1 c2 M1 hR1)
def L103 : List (Nat × Instr × Nat × Nat) := [(0, .aload_n 0, 1, 0), (1, .iload_n 1, 2, 0), (2, .invokevirtual 228, 5, 0), (5, .ifCond .eq 15, 8, 20), (8, .aload_n 0, 9, 0), (9, .invokevirtual 149, 12, 0), (12, .getfield 231, 15, 0), (15, .iload_n 1, 16, 0), (16, .iaload, 17, 0), (17, .goto 5, 20, 22), (20, .bipush (-2), 22, 0), (22, .ireturn, 23, 0)]
set_option maxRecDepth 100000 in
theorem L103_ok : L103.all (dck 103) = true := by decide +kernel
theorem d103 {j pc nx tg : Nat} {ins : Instr} (hj : L103[j]? = some (pc, ins, nx, tg)) : dcd 103 pc ins nx tg := dcl_ok L103_ok hj
set_option maxRecDepth 100000 in
set_option maxHeartbeats 4000000 in
theorem r103_0 {x1 : Int} {R1 : dsMem → Prop} {M : dsMem} {Q : bQT} (s1 : -2147483648 ≤ ((M 24 1) - 1) ∧ ((M 24 1) - 1) < 2147483648 := by intros; omega) (k1 : (¬ (0 < (M 24 0) ∧ 0 ≤ x1 ∧ x1 ≤ (M 24 1) - 1)) → Q [uI (-2)] M) (hA1 : ((0 < (M 24 0) ∧ 0 ≤ x1 ∧ x1 ≤ (M 24 1) - 1)) → bCt 157 [uR 10 0] M (fun _ => [uR 5 47]) R1) (s2 : ((0 < (M 24 0) ∧ 0 ≤ x1 ∧ x1 ≤ (M 24 1) - 1)) → ∀ M1 : dsMem, R1 M1 → 0 ≤ x1 ∧ x1 < 12 := by intros; omega) (k2 : ((0 < (M 24 0) ∧ 0 ≤ x1 ∧ x1 ≤ (M 24 1) - 1)) → ∀ M1 : dsMem, R1 M1 → Q [uI (M1 56 x1)] M1) :
    bB 103 0 [uR 10 0, uI x1] [] M Q := by
  refine b_aload_n (d103 (j := 0) rfl) rfl ?_
  refine b_iload_n (d103 (j := 1) rfl) rfl ?_
  refine b_callV (d103 (j := 2) rfl) rfl rfl (Or.inl rfl) rfl (bCk_mk (n := 0) (k := 2) (by decide +kernel) rfl rfl) (pu153 s1 ?_)
  refine b_stk [uI (if (0 < (M 24 0) ∧ 0 ≤ x1 ∧ x1 ≤ (M 24 1) - 1) then 1 else 0)] rfl ?_
  refine b_ifeqP (d103 (j := 3) rfl) (fun c1 => ?_) (fun c1 => ?_)
  ·
    refine b_bipush (d103 (j := 10) rfl) (by decide) ?_
    exact b_iret (d103 (j := 11) rfl) rfl (k1 c1)
  ·
    refine b_aload_n (d103 (j := 4) rfl) rfl ?_
    refine b_callV (d103 (j := 5) rfl) rfl rfl (Or.inl rfl) rfl (bCk_mk (n := 0) (k := 1) (by decide +kernel) rfl rfl) ((hA1 c1) _ (fun M1 hR1 => ?_))
    refine b_stk [uR 5 47] rfl ?_
    refine b_getR (d103 (j := 6) rfl) rfl rfl rfl rfl ?_
    refine b_stk [uR 28 56] rfl ?_
    refine b_iload_n (d103 (j := 7) rfl) rfl ?_
    refine b_iaload (d103 (j := 8) rfl) rfl (s2 c1 M1 hR1) ?_
    refine b_goto (d103 (j := 9) rfl) ?_
    exact b_iret (d103 (j := 11) rfl) rfl (k2 c1 M1 hR1)
def L104 : List (Nat × Instr × Nat × Nat) := [(0, .aload_n 0, 1, 0), (1, .iload_n 1, 2, 0), (2, .invokevirtual 114, 5, 0), (5, .ifCond .eq 15, 8, 20), (8, .aload_n 0, 9, 0), (9, .invokevirtual 149, 12, 0), (12, .getfield 234, 15, 0), (15, .iload_n 1, 16, 0), (16, .iaload, 17, 0), (17, .goto 5, 20, 22), (20, .bipush (-2), 22, 0), (22, .ireturn, 23, 0)]
set_option maxRecDepth 100000 in
theorem L104_ok : L104.all (dck 104) = true := by decide +kernel
theorem d104 {j pc nx tg : Nat} {ins : Instr} (hj : L104[j]? = some (pc, ins, nx, tg)) : dcd 104 pc ins nx tg := dcl_ok L104_ok hj
set_option maxRecDepth 100000 in
set_option maxHeartbeats 4000000 in
theorem r104_0 {x1 : Int} {R1 : dsMem → Prop} {M : dsMem} {Q : bQT} (s1 : -2147483648 ≤ ((M 24 5) - 1) ∧ ((M 24 5) - 1) < 2147483648 := by intros; omega) (k1 : (¬ (0 ≤ x1 ∧ x1 ≤ (M 24 5) - 1)) → Q [uI (-2)] M) (hA1 : ((0 ≤ x1 ∧ x1 ≤ (M 24 5) - 1)) → bCt 157 [uR 10 0] M (fun _ => [uR 5 47]) R1) (s2 : ((0 ≤ x1 ∧ x1 ≤ (M 24 5) - 1)) → ∀ M1 : dsMem, R1 M1 → 0 ≤ x1 ∧ x1 < 6 := by intros; omega) (k2 : ((0 ≤ x1 ∧ x1 ≤ (M 24 5) - 1)) → ∀ M1 : dsMem, R1 M1 → Q [uI (M1 58 x1)] M1) :
    bB 104 0 [uR 10 0, uI x1] [] M Q := by
  refine b_aload_n (d104 (j := 0) rfl) rfl ?_
  refine b_iload_n (d104 (j := 1) rfl) rfl ?_
  refine b_callV (d104 (j := 2) rfl) rfl rfl (Or.inl rfl) rfl (bCk_mk (n := 0) (k := 2) (by decide +kernel) rfl rfl) (pu151 s1 ?_)
  refine b_stk [uI (if (0 ≤ x1 ∧ x1 ≤ (M 24 5) - 1) then 1 else 0)] rfl ?_
  refine b_ifeqP (d104 (j := 3) rfl) (fun c1 => ?_) (fun c1 => ?_)
  ·
    refine b_bipush (d104 (j := 10) rfl) (by decide) ?_
    exact b_iret (d104 (j := 11) rfl) rfl (k1 c1)
  ·
    refine b_aload_n (d104 (j := 4) rfl) rfl ?_
    refine b_callV (d104 (j := 5) rfl) rfl rfl (Or.inl rfl) rfl (bCk_mk (n := 0) (k := 1) (by decide +kernel) rfl rfl) ((hA1 c1) _ (fun M1 hR1 => ?_))
    refine b_stk [uR 5 47] rfl ?_
    refine b_getR (d104 (j := 6) rfl) rfl rfl rfl rfl ?_
    refine b_stk [uR 21 58] rfl ?_
    refine b_iload_n (d104 (j := 7) rfl) rfl ?_
    refine b_iaload (d104 (j := 8) rfl) rfl (s2 c1 M1 hR1) ?_
    refine b_goto (d104 (j := 9) rfl) ?_
    exact b_iret (d104 (j := 11) rfl) rfl (k2 c1 M1 hR1)
def L105 : List (Nat × Instr × Nat × Nat) := [(0, .aload_n 0, 1, 0), (1, .iload_n 1, 2, 0), (2, .invokevirtual 228, 5, 0), (5, .ifCond .eq 15, 8, 20), (8, .aload_n 0, 9, 0), (9, .invokevirtual 149, 12, 0), (12, .getfield 199, 15, 0), (15, .iload_n 1, 16, 0), (16, .iaload, 17, 0), (17, .goto 5, 20, 22), (20, .bipush (-2), 22, 0), (22, .ireturn, 23, 0)]
set_option maxRecDepth 100000 in
theorem L105_ok : L105.all (dck 105) = true := by decide +kernel
theorem d105 {j pc nx tg : Nat} {ins : Instr} (hj : L105[j]? = some (pc, ins, nx, tg)) : dcd 105 pc ins nx tg := dcl_ok L105_ok hj
set_option maxRecDepth 100000 in
set_option maxHeartbeats 4000000 in
theorem r105_0 {x1 : Int} {R1 : dsMem → Prop} {M : dsMem} {Q : bQT} (s1 : -2147483648 ≤ ((M 24 1) - 1) ∧ ((M 24 1) - 1) < 2147483648 := by intros; omega) (k1 : (¬ (0 < (M 24 0) ∧ 0 ≤ x1 ∧ x1 ≤ (M 24 1) - 1)) → Q [uI (-2)] M) (hA1 : ((0 < (M 24 0) ∧ 0 ≤ x1 ∧ x1 ≤ (M 24 1) - 1)) → bCt 157 [uR 10 0] M (fun _ => [uR 5 47]) R1) (s2 : ((0 < (M 24 0) ∧ 0 ≤ x1 ∧ x1 ≤ (M 24 1) - 1)) → ∀ M1 : dsMem, R1 M1 → 0 ≤ x1 ∧ x1 < 12 := by intros; omega) (k2 : ((0 < (M 24 0) ∧ 0 ≤ x1 ∧ x1 ≤ (M 24 1) - 1)) → ∀ M1 : dsMem, R1 M1 → Q [uI (M1 55 x1)] M1) :
    bB 105 0 [uR 10 0, uI x1] [] M Q := by
  refine b_aload_n (d105 (j := 0) rfl) rfl ?_
  refine b_iload_n (d105 (j := 1) rfl) rfl ?_
  refine b_callV (d105 (j := 2) rfl) rfl rfl (Or.inl rfl) rfl (bCk_mk (n := 0) (k := 2) (by decide +kernel) rfl rfl) (pu153 s1 ?_)
  refine b_stk [uI (if (0 < (M 24 0) ∧ 0 ≤ x1 ∧ x1 ≤ (M 24 1) - 1) then 1 else 0)] rfl ?_
  refine b_ifeqP (d105 (j := 3) rfl) (fun c1 => ?_) (fun c1 => ?_)
  ·
    refine b_bipush (d105 (j := 10) rfl) (by decide) ?_
    exact b_iret (d105 (j := 11) rfl) rfl (k1 c1)
  ·
    refine b_aload_n (d105 (j := 4) rfl) rfl ?_
    refine b_callV (d105 (j := 5) rfl) rfl rfl (Or.inl rfl) rfl (bCk_mk (n := 0) (k := 1) (by decide +kernel) rfl rfl) ((hA1 c1) _ (fun M1 hR1 => ?_))
    refine b_stk [uR 5 47] rfl ?_
    refine b_getR (d105 (j := 6) rfl) rfl rfl rfl rfl ?_
    refine b_stk [uR 28 55] rfl ?_
    refine b_iload_n (d105 (j := 7) rfl) rfl ?_
    refine b_iaload (d105 (j := 8) rfl) rfl (s2 c1 M1 hR1) ?_
    refine b_goto (d105 (j := 9) rfl) ?_
    exact b_iret (d105 (j := 11) rfl) rfl (k2 c1 M1 hR1)
def L106 : List (Nat × Instr × Nat × Nat) := [(0, .aload_n 0, 1, 0), (1, .iload_n 1, 2, 0), (2, .invokevirtual 114, 5, 0), (5, .ifCond .eq 15, 8, 20), (8, .aload_n 0, 9, 0), (9, .invokevirtual 149, 12, 0), (12, .getfield 237, 15, 0), (15, .iload_n 1, 16, 0), (16, .iaload, 17, 0), (17, .goto 5, 20, 22), (20, .bipush (-2), 22, 0), (22, .ireturn, 23, 0)]
set_option maxRecDepth 100000 in
theorem L106_ok : L106.all (dck 106) = true := by decide +kernel
theorem d106 {j pc nx tg : Nat} {ins : Instr} (hj : L106[j]? = some (pc, ins, nx, tg)) : dcd 106 pc ins nx tg := dcl_ok L106_ok hj
set_option maxRecDepth 100000 in
set_option maxHeartbeats 4000000 in
theorem r106_0 {x1 : Int} {R1 : dsMem → Prop} {M : dsMem} {Q : bQT} (s1 : -2147483648 ≤ ((M 24 5) - 1) ∧ ((M 24 5) - 1) < 2147483648 := by intros; omega) (k1 : (¬ (0 ≤ x1 ∧ x1 ≤ (M 24 5) - 1)) → Q [uI (-2)] M) (hA1 : ((0 ≤ x1 ∧ x1 ≤ (M 24 5) - 1)) → bCt 157 [uR 10 0] M (fun _ => [uR 5 47]) R1) (s2 : ((0 ≤ x1 ∧ x1 ≤ (M 24 5) - 1)) → ∀ M1 : dsMem, R1 M1 → 0 ≤ x1 ∧ x1 < 6 := by intros; omega) (k2 : ((0 ≤ x1 ∧ x1 ≤ (M 24 5) - 1)) → ∀ M1 : dsMem, R1 M1 → Q [uI (M1 59 x1)] M1) :
    bB 106 0 [uR 10 0, uI x1] [] M Q := by
  refine b_aload_n (d106 (j := 0) rfl) rfl ?_
  refine b_iload_n (d106 (j := 1) rfl) rfl ?_
  refine b_callV (d106 (j := 2) rfl) rfl rfl (Or.inl rfl) rfl (bCk_mk (n := 0) (k := 2) (by decide +kernel) rfl rfl) (pu151 s1 ?_)
  refine b_stk [uI (if (0 ≤ x1 ∧ x1 ≤ (M 24 5) - 1) then 1 else 0)] rfl ?_
  refine b_ifeqP (d106 (j := 3) rfl) (fun c1 => ?_) (fun c1 => ?_)
  ·
    refine b_bipush (d106 (j := 10) rfl) (by decide) ?_
    exact b_iret (d106 (j := 11) rfl) rfl (k1 c1)
  ·
    refine b_aload_n (d106 (j := 4) rfl) rfl ?_
    refine b_callV (d106 (j := 5) rfl) rfl rfl (Or.inl rfl) rfl (bCk_mk (n := 0) (k := 1) (by decide +kernel) rfl rfl) ((hA1 c1) _ (fun M1 hR1 => ?_))
    refine b_stk [uR 5 47] rfl ?_
    refine b_getR (d106 (j := 6) rfl) rfl rfl rfl rfl ?_
    refine b_stk [uR 21 59] rfl ?_
    refine b_iload_n (d106 (j := 7) rfl) rfl ?_
    refine b_iaload (d106 (j := 8) rfl) rfl (s2 c1 M1 hR1) ?_
    refine b_goto (d106 (j := 9) rfl) ?_
    exact b_iret (d106 (j := 11) rfl) rfl (k2 c1 M1 hR1)
def L107 : List (Nat × Instr × Nat × Nat) := [(0, .aload_n 0, 1, 0), (1, .iload_n 1, 2, 0), (2, .invokevirtual 114, 5, 0), (5, .ifCond .eq 10, 8, 15), (8, .iload_n 2, 9, 0), (9, .invokestatic 169, 12, 0), (12, .ifCond .ne 6, 15, 18), (15, .bipush (-2), 17, 0), (17, .ireturn, 18, 0), (18, .aload_n 0, 19, 0), (19, .invokevirtual 149, 22, 0), (22, .astore_n 3, 23, 0), (23, .iconst 0, 24, 0), (24, .istore 4, 26, 0), (26, .iload 4, 28, 0), (28, .aload_n 0, 29, 0), (29, .getfield 23, 32, 0), (32, .getfield 186, 35, 0), (35, .if_icmp .gt 26, 38, 61), (38, .aload_n 3, 39, 0), (39, .iload_n 1, 40, 0), (40, .iload 4, 42, 0), (42, .invokestatic 156, 45, 0), (45, .iload_n 2, 46, 0), (46, .invokevirtual 172, 49, 0), (49, .ifCond .le 6, 52, 55), (52, .iload 4, 54, 0), (54, .ireturn, 55, 0), (55, .iinc 4 1, 58, 0), (58, .goto (-32), 61, 26), (61, .iconst (-1), 62, 0), (62, .ireturn, 63, 0)]
set_option maxRecDepth 100000 in
theorem L107_ok : L107.all (dck 107) = true := by decide +kernel
theorem d107 {j pc nx tg : Nat} {ins : Instr} (hj : L107[j]? = some (pc, ins, nx, tg)) : dcd 107 pc ins nx tg := dcl_ok L107_ok hj
set_option maxRecDepth 100000 in
set_option maxHeartbeats 4000000 in
theorem r107_0 {x1 x2 : Int} {R1 : dsMem → Prop} {M : dsMem} {Q : bQT} (s1 : -2147483648 ≤ ((M 24 5) - 1) ∧ ((M 24 5) - 1) < 2147483648 := by intros; omega) (k1 : (¬ (0 ≤ x1 ∧ x1 ≤ (M 24 5) - 1)) → Q [uI (-2)] M) (hA1 : ((0 ≤ x1 ∧ x1 ≤ (M 24 5) - 1)) → ((1 ≤ x2 ∧ x2 ≤ 5)) → bCt 157 [uR 10 0] M (fun _ => [uR 5 47]) R1) (s2 : ((0 ≤ x1 ∧ x1 ≤ (M 24 5) - 1)) → ((1 ≤ x2 ∧ x2 ≤ 5)) → ∀ M1 : dsMem, R1 M1 → ∀ i107_1 : Int, 0 ≤ i107_1 → i107_1 < ((M1 24 1) + 1) → -2147483648 ≤ ((i107_1 * 6) + x1) ∧ ((i107_1 * 6) + x1) < 2147483648 := by intros; omega) (s3 : ((0 ≤ x1 ∧ x1 ≤ (M 24 5) - 1)) → ((1 ≤ x2 ∧ x2 ≤ 5)) → ∀ M1 : dsMem, R1 M1 → ∀ i107_1 : Int, 0 ≤ i107_1 → i107_1 < ((M1 24 1) + 1) → ∀ i25_1 : Int, ∀ a25_1 : Int, 0 ≤ i25_1 → i25_1 < (M1 51 ((i107_1 * 6) + x1)) → 0 ≤ ((i107_1 * 6) + x1) ∧ ((i107_1 * 6) + x1) < 78 := by intros; omega) (s4 : ((0 ≤ x1 ∧ x1 ≤ (M 24 5) - 1)) → ((1 ≤ x2 ∧ x2 ≤ 5)) → ∀ M1 : dsMem, R1 M1 → ∀ i107_1 : Int, 0 ≤ i107_1 → i107_1 < ((M1 24 1) + 1) → ∀ i25_1 : Int, ∀ a25_1 : Int, 0 ≤ i25_1 → i25_1 < (M1 51 ((i107_1 * 6) + x1)) → 0 ≤ ((((i107_1 * 6) + x1) * 60) + i25_1) ∧ ((((i107_1 * 6) + x1) * 60) + i25_1) < 4680 := by intros; omega) (s5 : ((0 ≤ x1 ∧ x1 ≤ (M 24 5) - 1)) → ((1 ≤ x2 ∧ x2 ≤ 5)) → ∀ M1 : dsMem, R1 M1 → ∀ i107_1 : Int, 0 ≤ i107_1 → i107_1 < ((M1 24 1) + 1) → ∀ i25_1 : Int, ∀ a25_1 : Int, 0 ≤ i25_1 → i25_1 < (M1 51 ((i107_1 * 6) + x1)) → -2147483648 ≤ i25_1 + 1 ∧ i25_1 + 1 < 2147483648 := by intros; omega) (s6 : ((0 ≤ x1 ∧ x1 ≤ (M 24 5) - 1)) → ((1 ≤ x2 ∧ x2 ≤ 5)) → ∀ M1 : dsMem, R1 M1 → ∀ i107_1 : Int, 0 ≤ i107_1 → i107_1 < ((M1 24 1) + 1) → 0 ≤ ((i107_1 * 6) + x1) ∧ ((i107_1 * 6) + x1) < 78 := by intros; omega) (s7 : ((0 ≤ x1 ∧ x1 ≤ (M 24 5) - 1)) → ((1 ≤ x2 ∧ x2 ≤ 5)) → ∀ M1 : dsMem, R1 M1 → ∀ i107_1 : Int, 0 ≤ i107_1 → i107_1 < ((M1 24 1) + 1) → -2147483648 ≤ i107_1 + 1 ∧ i107_1 + 1 < 2147483648 := by intros; omega) (k2 : ((0 ≤ x1 ∧ x1 ≤ (M 24 5) - 1)) → ((1 ≤ x2 ∧ x2 ≤ 5)) → ∀ M1 : dsMem, R1 M1 → ((dsFind (fun (i107_1 : Int) => ¬ ((v25 M1 47 ((i107_1 * 6) + x1) x2) ≤ 0)) 0 ((M1 24 1) + 1)) < ((M1 24 1) + 1)) → Q [uI (dsFind (fun (i107_1 : Int) => ¬ ((v25 M1 47 ((i107_1 * 6) + x1) x2) ≤ 0)) 0 ((M1 24 1) + 1))] M1) (k3 : ((0 ≤ x1 ∧ x1 ≤ (M 24 5) - 1)) → ((1 ≤ x2 ∧ x2 ≤ 5)) → ∀ M1 : dsMem, R1 M1 → (¬ (dsFind (fun (i107_1 : Int) => ¬ ((v25 M1 47 ((i107_1 * 6) + x1) x2) ≤ 0)) 0 ((M1 24 1) + 1)) < ((M1 24 1) + 1)) → Q [uI (-1)] M1) (k4 : ((0 ≤ x1 ∧ x1 ≤ (M 24 5) - 1)) → (¬ (1 ≤ x2 ∧ x2 ≤ 5)) → Q [uI (-2)] M) :
    bB 107 0 [uR 10 0, uI x1, uI x2, uX 0, uX 0] [] M Q := by
  refine b_aload_n (d107 (j := 0) rfl) rfl ?_
  refine b_iload_n (d107 (j := 1) rfl) rfl ?_
  refine b_callV (d107 (j := 2) rfl) rfl rfl (Or.inl rfl) rfl (bCk_mk (n := 0) (k := 2) (by decide +kernel) rfl rfl) (pu151 s1 ?_)
  refine b_stk [uI (if (0 ≤ x1 ∧ x1 ≤ (M 24 5) - 1) then 1 else 0)] rfl ?_
  refine b_ifeqP (d107 (j := 3) rfl) (fun c1 => ?_) (fun c1 => ?_)
  ·
    refine b_bipush (d107 (j := 7) rfl) (by decide) ?_
    exact b_iret (d107 (j := 8) rfl) rfl (k1 c1)
  ·
    refine b_iload_n (d107 (j := 4) rfl) rfl ?_
    refine b_callS (d107 (j := 5) rfl) (Or.inl rfl) rfl (bCk_mk (n := 0) (k := 1) (by decide +kernel) rfl rfl) (pu147  ?_)
    refine b_stk [uI (if (1 ≤ x2 ∧ x2 ≤ 5) then 1 else 0)] rfl ?_
    refine b_ifneP (d107 (j := 6) rfl) (fun c2 => ?_) (fun c2 => ?_)
    ·
      refine b_aload_n (d107 (j := 9) rfl) rfl ?_
      refine b_callV (d107 (j := 10) rfl) rfl rfl (Or.inl rfl) rfl (bCk_mk (n := 0) (k := 1) (by decide +kernel) rfl rfl) ((hA1 c1 c2) _ (fun M1 hR1 => ?_))
      refine b_stk [uR 5 47] rfl ?_
      refine b_astore_n [uR 10 0, uI x1, uI x2, uR 5 47, uX 0] (d107 (j := 11) rfl) (by decide) rfl ?_
      refine b_iconst (d107 (j := 12) rfl) (by decide) ?_
      refine b_istore [uR 10 0, uI x1, uI x2, uR 5 47, uI 0] (d107 (j := 13) rfl) (by decide) rfl ?_
      refine b_find (fun (i107_1 : Int) => [uR 10 0, uI x1, uI x2, uR 5 47, uI i107_1]) (fun (i107_1 : Int) => ¬ ((v25 M1 47 ((i107_1 * 6) + x1) x2) ≤ 0)) 0 ((M1 24 1) + 1) (fun i107_1 h107_1l h107_1r hn hk107_1 => ?_) (fun i107_1 h107_1l h107_1r hp he => ?_) (fun i107_1 h107_1l h107_1r he => ?_)
      ·
        refine b_iload (d107 (j := 14) rfl) rfl ?_
        refine b_aload_n (d107 (j := 15) rfl) rfl ?_
        refine b_getR (d107 (j := 16) rfl) rfl rfl rfl rfl ?_
        refine b_stk [uR 4 24, uI i107_1] rfl ?_
        refine b_getI (d107 (j := 17) rfl) rfl rfl rfl rfl (Or.inl rfl) ?_
        refine b_stk [uI (M1 24 1), uI i107_1] rfl ?_
        refine b_icmp_gt (d107 (j := 18) rfl) (fun c3 => ?_) (fun c3 => ?_)
        · exfalso; omega
        ·
          refine b_aload_n (d107 (j := 19) rfl) rfl ?_
          refine b_iload_n (d107 (j := 20) rfl) rfl ?_
          refine b_iload (d107 (j := 21) rfl) rfl ?_
          refine b_callS (d107 (j := 22) rfl) (Or.inl rfl) rfl (bCk_mk (n := 1) (k := 2) (by decide +kernel) rfl rfl) (pu146 (s2 c1 c2 M1 hR1 i107_1 h107_1l h107_1r) ?_)
          refine b_stk [uI ((i107_1 * 6) + x1), uR 5 47] rfl ?_
          refine b_iload_n (d107 (j := 23) rfl) rfl ?_
          refine b_callV (d107 (j := 24) rfl) rfl rfl (Or.inl rfl) rfl (bCk_mk (n := 0) (k := 3) (by decide +kernel) rfl rfl) (fx25 (s3 c1 c2 M1 hR1 i107_1 h107_1l h107_1r) (s4 c1 c2 M1 hR1 i107_1 h107_1l h107_1r) (s5 c1 c2 M1 hR1 i107_1 h107_1l h107_1r) (s6 c1 c2 M1 hR1 i107_1 h107_1l h107_1r) ?_)
          refine b_stk [uI (v25 M1 47 ((i107_1 * 6) + x1) x2)] rfl ?_
          refine b_if_le (d107 (j := 25) rfl) (fun c4 => ?_) (fun c4 => ?_)
          ·
            refine b_iinc [uR 10 0, uI x1, uI x2, uR 5 47, uI (i107_1 + 1)] (d107 (j := 28) rfl) rfl (by decide) (s7 c1 c2 M1 hR1 i107_1 h107_1l h107_1r) rfl ?_
            refine b_goto (d107 (j := 29) rfl) ?_
            exact hk107_1
          ·
            refine b_iload (d107 (j := 26) rfl) rfl ?_
            exfalso; omega
      ·
        subst he
        refine b_iload (d107 (j := 14) rfl) rfl ?_
        refine b_aload_n (d107 (j := 15) rfl) rfl ?_
        refine b_getR (d107 (j := 16) rfl) rfl rfl rfl rfl ?_
        refine b_stk [uR 4 24, uI (dsFind (fun (i107_1 : Int) => ¬ ((v25 M1 47 ((i107_1 * 6) + x1) x2) ≤ 0)) 0 ((M1 24 1) + 1))] rfl ?_
        refine b_getI (d107 (j := 17) rfl) rfl rfl rfl rfl (Or.inl rfl) ?_
        refine b_stk [uI (M1 24 1), uI (dsFind (fun (i107_1 : Int) => ¬ ((v25 M1 47 ((i107_1 * 6) + x1) x2) ≤ 0)) 0 ((M1 24 1) + 1))] rfl ?_
        refine b_icmp_gt (d107 (j := 18) rfl) (fun c5 => ?_) (fun c5 => ?_)
        · exfalso; omega
        ·
          refine b_aload_n (d107 (j := 19) rfl) rfl ?_
          refine b_iload_n (d107 (j := 20) rfl) rfl ?_
          refine b_iload (d107 (j := 21) rfl) rfl ?_
          refine b_callS (d107 (j := 22) rfl) (Or.inl rfl) rfl (bCk_mk (n := 1) (k := 2) (by decide +kernel) rfl rfl) (pu146 (s2 c1 c2 M1 hR1 (dsFind (fun (i107_1 : Int) => ¬ ((v25 M1 47 ((i107_1 * 6) + x1) x2) ≤ 0)) 0 ((M1 24 1) + 1)) h107_1l h107_1r) ?_)
          refine b_stk [uI (((dsFind (fun (i107_1 : Int) => ¬ ((v25 M1 47 ((i107_1 * 6) + x1) x2) ≤ 0)) 0 ((M1 24 1) + 1)) * 6) + x1), uR 5 47] rfl ?_
          refine b_iload_n (d107 (j := 23) rfl) rfl ?_
          refine b_callV (d107 (j := 24) rfl) rfl rfl (Or.inl rfl) rfl (bCk_mk (n := 0) (k := 3) (by decide +kernel) rfl rfl) (fx25 (s3 c1 c2 M1 hR1 (dsFind (fun (i107_1 : Int) => ¬ ((v25 M1 47 ((i107_1 * 6) + x1) x2) ≤ 0)) 0 ((M1 24 1) + 1)) h107_1l h107_1r) (s4 c1 c2 M1 hR1 (dsFind (fun (i107_1 : Int) => ¬ ((v25 M1 47 ((i107_1 * 6) + x1) x2) ≤ 0)) 0 ((M1 24 1) + 1)) h107_1l h107_1r) (s5 c1 c2 M1 hR1 (dsFind (fun (i107_1 : Int) => ¬ ((v25 M1 47 ((i107_1 * 6) + x1) x2) ≤ 0)) 0 ((M1 24 1) + 1)) h107_1l h107_1r) (s6 c1 c2 M1 hR1 (dsFind (fun (i107_1 : Int) => ¬ ((v25 M1 47 ((i107_1 * 6) + x1) x2) ≤ 0)) 0 ((M1 24 1) + 1)) h107_1l h107_1r) ?_)
          refine b_stk [uI (v25 M1 47 (((dsFind (fun (i107_1 : Int) => ¬ ((v25 M1 47 ((i107_1 * 6) + x1) x2) ≤ 0)) 0 ((M1 24 1) + 1)) * 6) + x1) x2)] rfl ?_
          refine b_if_le (d107 (j := 25) rfl) (fun c6 => ?_) (fun c6 => ?_)
          ·
            refine b_iinc [uR 10 0, uI x1, uI x2, uR 5 47, uI ((dsFind (fun (i107_1 : Int) => ¬ ((v25 M1 47 ((i107_1 * 6) + x1) x2) ≤ 0)) 0 ((M1 24 1) + 1)) + 1)] (d107 (j := 28) rfl) rfl (by decide) (s7 c1 c2 M1 hR1 (dsFind (fun (i107_1 : Int) => ¬ ((v25 M1 47 ((i107_1 * 6) + x1) x2) ≤ 0)) 0 ((M1 24 1) + 1)) h107_1l h107_1r) rfl ?_
            refine b_goto (d107 (j := 29) rfl) ?_
            exfalso; omega
          ·
            refine b_iload (d107 (j := 26) rfl) rfl ?_
            exact b_iret (d107 (j := 27) rfl) rfl (k2 c1 c2 M1 hR1 h107_1r)
      ·
        refine b_iload (d107 (j := 14) rfl) rfl ?_
        refine b_aload_n (d107 (j := 15) rfl) rfl ?_
        refine b_getR (d107 (j := 16) rfl) rfl rfl rfl rfl ?_
        refine b_stk [uR 4 24, uI i107_1] rfl ?_
        refine b_getI (d107 (j := 17) rfl) rfl rfl rfl rfl (Or.inl rfl) ?_
        refine b_stk [uI (M1 24 1), uI i107_1] rfl ?_
        refine b_icmp_gt (d107 (j := 18) rfl) (fun c7 => ?_) (fun c7 => ?_)
        rotate_left
        · exfalso; omega
        ·
          refine b_iconst (d107 (j := 30) rfl) (by decide) ?_
          exact b_iret (d107 (j := 31) rfl) rfl (k3 c1 c2 M1 hR1 he)
    ·
      refine b_bipush (d107 (j := 7) rfl) (by decide) ?_
      exact b_iret (d107 (j := 8) rfl) rfl (k4 c1 c2)
def L108 : List (Nat × Instr × Nat × Nat) := [(0, .aload_n 0, 1, 0), (1, .iload_n 1, 2, 0), (2, .invokevirtual 114, 5, 0), (5, .ifCond .ne 6, 8, 11), (8, .bipush (-2), 10, 0), (10, .ireturn, 11, 0), (11, .aload_n 0, 12, 0), (12, .invokevirtual 149, 15, 0), (15, .astore_n 2, 16, 0), (16, .iconst 0, 17, 0), (17, .istore_n 3, 18, 0), (18, .iconst 1, 19, 0), (19, .istore 4, 21, 0), (21, .iload 4, 23, 0), (23, .aload_n 0, 24, 0), (24, .getfield 23, 27, 0), (27, .getfield 186, 30, 0), (30, .if_icmp .gt 39, 33, 69), (33, .aload_n 2, 34, 0), (34, .getfield 153, 37, 0), (37, .iload_n 1, 38, 0), (38, .iload 4, 40, 0), (40, .invokestatic 156, 43, 0), (43, .iaload, 44, 0), (44, .aload_n 2, 45, 0), (45, .getfield 153, 48, 0), (48, .iload_n 1, 49, 0), (49, .iload 4, 51, 0), (51, .iconst 1, 52, 0), (52, .isub, 53, 0), (53, .invokestatic 156, 56, 0), (56, .iaload, 57, 0), (57, .if_icmp .ge 6, 60, 63), (60, .iinc 3 1, 63, 0), (63, .iinc 4 1, 66, 0), (66, .goto (-45), 69, 21), (69, .iload_n 3, 70, 0), (70, .ireturn, 71, 0)]
set_option maxRecDepth 100000 in
theorem L108_ok : L108.all (dck 108) = true := by decide +kernel
theorem d108 {j pc nx tg : Nat} {ins : Instr} (hj : L108[j]? = some (pc, ins, nx, tg)) : dcd 108 pc ins nx tg := dcl_ok L108_ok hj
set_option maxRecDepth 100000 in
set_option maxHeartbeats 4000000 in
theorem r108_0 {x1 : Int} {R1 : dsMem → Prop} {M : dsMem} {Q : bQT} (s1 : -2147483648 ≤ ((M 24 5) - 1) ∧ ((M 24 5) - 1) < 2147483648 := by intros; omega) (hA1 : ((0 ≤ x1 ∧ x1 ≤ (M 24 5) - 1)) → bCt 157 [uR 10 0] M (fun _ => [uR 5 47]) R1) (s2 : ((0 ≤ x1 ∧ x1 ≤ (M 24 5) - 1)) → ∀ M1 : dsMem, R1 M1 → ∀ i108_1 : Int, ∀ a108_1 : Int, 1 ≤ i108_1 → i108_1 < ((M1 24 1) + 1) → -2147483648 ≤ ((i108_1 * 6) + x1) ∧ ((i108_1 * 6) + x1) < 2147483648 := by intros; omega) (s3 : ((0 ≤ x1 ∧ x1 ≤ (M 24 5) - 1)) → ∀ M1 : dsMem, R1 M1 → ∀ i108_1 : Int, ∀ a108_1 : Int, 1 ≤ i108_1 → i108_1 < ((M1 24 1) + 1) → 0 ≤ ((i108_1 * 6) + x1) ∧ ((i108_1 * 6) + x1) < 78 := by intros; omega) (s4 : ((0 ≤ x1 ∧ x1 ≤ (M 24 5) - 1)) → ∀ M1 : dsMem, R1 M1 → ∀ i108_1 : Int, ∀ a108_1 : Int, 1 ≤ i108_1 → i108_1 < ((M1 24 1) + 1) → -2147483648 ≤ (i108_1 - 1) ∧ (i108_1 - 1) < 2147483648 := by intros; omega) (s5 : ((0 ≤ x1 ∧ x1 ≤ (M 24 5) - 1)) → ∀ M1 : dsMem, R1 M1 → ∀ i108_1 : Int, ∀ a108_1 : Int, 1 ≤ i108_1 → i108_1 < ((M1 24 1) + 1) → -2147483648 ≤ (((i108_1 - 1) * 6) + x1) ∧ (((i108_1 - 1) * 6) + x1) < 2147483648 := by intros; omega) (s6 : ((0 ≤ x1 ∧ x1 ≤ (M 24 5) - 1)) → ∀ M1 : dsMem, R1 M1 → ∀ i108_1 : Int, ∀ a108_1 : Int, 1 ≤ i108_1 → i108_1 < ((M1 24 1) + 1) → 0 ≤ (((i108_1 - 1) * 6) + x1) ∧ (((i108_1 - 1) * 6) + x1) < 78 := by intros; omega) (s7 : ((0 ≤ x1 ∧ x1 ≤ (M 24 5) - 1)) → ∀ M1 : dsMem, R1 M1 → ∀ i108_1 : Int, ∀ a108_1 : Int, 1 ≤ i108_1 → i108_1 < ((M1 24 1) + 1) → -2147483648 ≤ i108_1 + 1 ∧ i108_1 + 1 < 2147483648 := by intros; omega) (s8 : ((0 ≤ x1 ∧ x1 ≤ (M 24 5) - 1)) → ∀ M1 : dsMem, R1 M1 → ∀ i108_1 : Int, ∀ a108_1 : Int, 1 ≤ i108_1 → i108_1 < ((M1 24 1) + 1) → (¬ (M1 52 (((i108_1 - 1) * 6) + x1)) ≤ (M1 52 ((i108_1 * 6) + x1))) → -2147483648 ≤ a108_1 + 1 ∧ a108_1 + 1 < 2147483648 := by intros; omega) (k1 : ((0 ≤ x1 ∧ x1 ≤ (M 24 5) - 1)) → ∀ M1 : dsMem, R1 M1 → Q [uI (dsIter (fun (i108_1 : Int) (a108_1 : Int) => (if (M1 52 (((i108_1 - 1) * 6) + x1)) ≤ (M1 52 ((i108_1 * 6) + x1)) then a108_1 else (a108_1 + 1))) 1 ((M1 24 1) + 1) 0)] M1) (k2 : (¬ (0 ≤ x1 ∧ x1 ≤ (M 24 5) - 1)) → Q [uI (-2)] M) :
    bB 108 0 [uR 10 0, uI x1, uX 0, uX 0, uX 0] [] M Q := by
  refine b_aload_n (d108 (j := 0) rfl) rfl ?_
  refine b_iload_n (d108 (j := 1) rfl) rfl ?_
  refine b_callV (d108 (j := 2) rfl) rfl rfl (Or.inl rfl) rfl (bCk_mk (n := 0) (k := 2) (by decide +kernel) rfl rfl) (pu151 s1 ?_)
  refine b_stk [uI (if (0 ≤ x1 ∧ x1 ≤ (M 24 5) - 1) then 1 else 0)] rfl ?_
  refine b_ifneP (d108 (j := 3) rfl) (fun c1 => ?_) (fun c1 => ?_)
  ·
    refine b_aload_n (d108 (j := 6) rfl) rfl ?_
    refine b_callV (d108 (j := 7) rfl) rfl rfl (Or.inl rfl) rfl (bCk_mk (n := 0) (k := 1) (by decide +kernel) rfl rfl) ((hA1 c1) _ (fun M1 hR1 => ?_))
    refine b_stk [uR 5 47] rfl ?_
    refine b_astore_n [uR 10 0, uI x1, uR 5 47, uX 0, uX 0] (d108 (j := 8) rfl) (by decide) rfl ?_
    refine b_iconst (d108 (j := 9) rfl) (by decide) ?_
    refine b_istore_n [uR 10 0, uI x1, uR 5 47, uI 0, uX 0] (d108 (j := 10) rfl) (by decide) rfl ?_
    refine b_iconst (d108 (j := 11) rfl) (by decide) ?_
    refine b_istore [uR 10 0, uI x1, uR 5 47, uI 0, uI 1] (d108 (j := 12) rfl) (by decide) rfl ?_
    refine b_for (fun (i108_1 : Int) (a108_1 : Int) => [uR 10 0, uI x1, uR 5 47, uI a108_1, uI i108_1]) (fun (i108_1 : Int) (a108_1 : Int) => (if (M1 52 (((i108_1 - 1) * 6) + x1)) ≤ (M1 52 ((i108_1 * 6) + x1)) then a108_1 else (a108_1 + 1))) 1 ((M1 24 1) + 1) 0 (fun i108_1 a108_1 h108_1l h108_1r hk108_1 => ?_) (fun i108_1 h108_1l h108_1r => ?_)
    ·
      refine b_iload (d108 (j := 13) rfl) rfl ?_
      refine b_aload_n (d108 (j := 14) rfl) rfl ?_
      refine b_getR (d108 (j := 15) rfl) rfl rfl rfl rfl ?_
      refine b_stk [uR 4 24, uI i108_1] rfl ?_
      refine b_getI (d108 (j := 16) rfl) rfl rfl rfl rfl (Or.inl rfl) ?_
      refine b_stk [uI (M1 24 1), uI i108_1] rfl ?_
      refine b_icmp_gt (d108 (j := 17) rfl) (fun c2 => ?_) (fun c2 => ?_)
      · exfalso; omega
      ·
        refine b_aload_n (d108 (j := 18) rfl) rfl ?_
        refine b_getR (d108 (j := 19) rfl) rfl rfl rfl rfl ?_
        refine b_stk [uR 25 52] rfl ?_
        refine b_iload_n (d108 (j := 20) rfl) rfl ?_
        refine b_iload (d108 (j := 21) rfl) rfl ?_
        refine b_callS (d108 (j := 22) rfl) (Or.inl rfl) rfl (bCk_mk (n := 1) (k := 2) (by decide +kernel) rfl rfl) (pu146 (s2 c1 M1 hR1 i108_1 a108_1 h108_1l h108_1r) ?_)
        refine b_stk [uI ((i108_1 * 6) + x1), uR 25 52] rfl ?_
        refine b_iaload (d108 (j := 23) rfl) rfl (s3 c1 M1 hR1 i108_1 a108_1 h108_1l h108_1r) ?_
        refine b_aload_n (d108 (j := 24) rfl) rfl ?_
        refine b_getR (d108 (j := 25) rfl) rfl rfl rfl rfl ?_
        refine b_stk [uR 25 52, uI (M1 52 ((i108_1 * 6) + x1))] rfl ?_
        refine b_iload_n (d108 (j := 26) rfl) rfl ?_
        refine b_iload (d108 (j := 27) rfl) rfl ?_
        refine b_iconst (d108 (j := 28) rfl) (by decide) ?_
        refine b_isub (d108 (j := 29) rfl) rfl rfl ?_
        refine b_stk [uI (i108_1 - 1), uI x1, uR 25 52, uI (M1 52 ((i108_1 * 6) + x1))] (by rw [dsw_r (s4 c1 M1 hR1 i108_1 a108_1 h108_1l h108_1r)]) ?_
        refine b_callS (d108 (j := 30) rfl) (Or.inl rfl) rfl (bCk_mk (n := 2) (k := 2) (by decide +kernel) rfl rfl) (pu146 (s5 c1 M1 hR1 i108_1 a108_1 h108_1l h108_1r) ?_)
        refine b_stk [uI (((i108_1 - 1) * 6) + x1), uR 25 52, uI (M1 52 ((i108_1 * 6) + x1))] rfl ?_
        refine b_iaload (d108 (j := 31) rfl) rfl (s6 c1 M1 hR1 i108_1 a108_1 h108_1l h108_1r) ?_
        refine b_icmp_ge (d108 (j := 32) rfl) (fun c3 => ?_) (fun c3 => ?_)
        ·
          rw [if_pos c3] at hk108_1
          refine b_iinc [uR 10 0, uI x1, uR 5 47, uI a108_1, uI (i108_1 + 1)] (d108 (j := 34) rfl) rfl (by decide) (s7 c1 M1 hR1 i108_1 a108_1 h108_1l h108_1r) rfl ?_
          refine b_goto (d108 (j := 35) rfl) ?_
          exact hk108_1
        ·
          rw [if_neg c3] at hk108_1
          refine b_iinc [uR 10 0, uI x1, uR 5 47, uI (a108_1 + 1), uI i108_1] (d108 (j := 33) rfl) rfl (by decide) (s8 c1 M1 hR1 i108_1 a108_1 h108_1l h108_1r c3) rfl ?_
          refine b_iinc [uR 10 0, uI x1, uR 5 47, uI (a108_1 + 1), uI (i108_1 + 1)] (d108 (j := 34) rfl) rfl (by decide) (s7 c1 M1 hR1 i108_1 a108_1 h108_1l h108_1r) rfl ?_
          refine b_goto (d108 (j := 35) rfl) ?_
          exact hk108_1
    ·
      refine b_iload (d108 (j := 13) rfl) rfl ?_
      refine b_aload_n (d108 (j := 14) rfl) rfl ?_
      refine b_getR (d108 (j := 15) rfl) rfl rfl rfl rfl ?_
      refine b_stk [uR 4 24, uI i108_1] rfl ?_
      refine b_getI (d108 (j := 16) rfl) rfl rfl rfl rfl (Or.inl rfl) ?_
      refine b_stk [uI (M1 24 1), uI i108_1] rfl ?_
      refine b_icmp_gt (d108 (j := 17) rfl) (fun c4 => ?_) (fun c4 => ?_)
      rotate_left
      · exfalso; omega
      ·
        refine b_iload_n (d108 (j := 36) rfl) rfl ?_
        exact b_iret (d108 (j := 37) rfl) rfl (k1 c1 M1 hR1)
  ·
    refine b_bipush (d108 (j := 4) rfl) (by decide) ?_
    exact b_iret (d108 (j := 5) rfl) rfl (k2 c1)
