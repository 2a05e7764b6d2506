def L44 : List (Nat × Instr × Nat × Nat) := [(0, .bipush 24, 2, 0), (2, .istore_n 2, 3, 0), (3, .iload_n 2, 4, 0), (4, .ifCond .lt 42, 7, 46), (7, .aload_n 0, 8, 0), (8, .getfield 9, 11, 0), (11, .sipush 600, 14, 0), (14, .if_icmp .ge 32, 17, 46), (17, .aload_n 0, 18, 0), (18, .getfield 21, 21, 0), (21, .aload_n 0, 22, 0), (22, .getfield 9, 25, 0), (25, .iload_n 1, 26, 0), (26, .iload_n 2, 27, 0), (27, .ishr, 28, 0), (28, .i2b, 29, 0), (29, .bastore, 30, 0), (30, .aload_n 0, 31, 0), (31, .dup, 32, 0), (32, .getfield 9, 35, 0), (35, .iconst 1, 36, 0), (36, .iadd, 37, 0), (37, .putfield 9, 40, 0), (40, .iinc 2 (-8), 43, 0), (43, .goto (-40), 46, 3), (46, .return_, 47, 0)]
set_option maxRecDepth 100000 in
theorem L44_ok : L44.all (dck 44) = true := by decide +kernel
theorem d44 {j pc nx tg : Nat} {ins : Instr} (hj : L44[j]? = some (pc, ins, nx, tg)) : dcd 44 pc ins nx tg := dcl_ok L44_ok hj
set_option maxRecDepth 100000 in
set_option maxHeartbeats 4000000 in
theorem r44_0 {x1 : Int}  {M : dsMem} {Q : bQT} (k1 : bB 44 3 [uR 6 1, uI x1, uI 24] [] M Q) :
    bB 44 0 [uR 6 1, uI x1, uX 0] [] M Q := by
  refine b_bipush (d44 (j := 0) rfl) (by decide) ?_
  refine b_istore_n [uR 6 1, uI x1, uI 24] (d44 (j := 1) rfl) (by decide) rfl ?_
  exact k1
set_option maxRecDepth 100000 in
set_option maxHeartbeats 4000000 in
theorem r44_3 {x1 x2 : Int}  {M : dsMem} {Q : bQT} (k1 : (x2 < 0) → Q [] M) (k2 : (¬ x2 < 0) → (600 ≤ (M 1 0)) → Q [] M) (s1 : (¬ x2 < 0) → (¬ 600 ≤ (M 1 0)) → 0 ≤ (M 1 0) ∧ (M 1 0) < 600 := by intros; omega) (s2 : (¬ x2 < 0) → (¬ 600 ≤ (M 1 0)) → -128 ≤ (dsB (dsShr x1 x2)) ∧ (dsB (dsShr x1 x2)) ≤ 127 := by intros; omega) (s3 : (¬ x2 < 0) → (¬ 600 ≤ (M 1 0)) → -2147483648 ≤ ((M 1 0) + 1) ∧ ((M 1 0) + 1) < 2147483648 := by intros; omega) (s4 : (¬ x2 < 0) → (¬ 600 ≤ (M 1 0)) → -2147483648 ≤ x2 + (-8) ∧ x2 + (-8) < 2147483648 := by intros; omega) (k3 : (¬ x2 < 0) → (¬ 600 ≤ (M 1 0)) → bB 44 3 [uR 6 1, uI x1, uI (x2 + (-8))] [] (dsSet (dsSet M 2 (M 1 0) (dsB (dsShr x1 x2))) 1 0 ((M 1 0) + 1)) Q) :
    bB 44 3 [uR 6 1, uI x1, uI x2] [] M Q := by
  refine b_iload_n (d44 (j := 2) rfl) rfl ?_
  refine b_if_lt (d44 (j := 3) rfl) (fun c1 => ?_) (fun c1 => ?_)
  ·
    exact b_vret (d44 (j := 25) rfl) rfl (k1 c1)
  ·
    refine b_aload_n (d44 (j := 4) rfl) rfl ?_
    refine b_getI (d44 (j := 5) rfl) rfl rfl rfl rfl (Or.inl rfl) ?_
    refine b_stk [uI (M 1 0)] rfl ?_
    refine b_sipush (d44 (j := 6) rfl) (by decide) ?_
    refine b_icmp_ge (d44 (j := 7) rfl) (fun c2 => ?_) (fun c2 => ?_)
    ·
      exact b_vret (d44 (j := 25) rfl) rfl (k2 c1 c2)
    ·
      refine b_aload_n (d44 (j := 8) rfl) rfl ?_
      refine b_getR (d44 (j := 9) rfl) rfl rfl rfl rfl ?_
      refine b_stk [uR 29 2] rfl ?_
      refine b_aload_n (d44 (j := 10) rfl) rfl ?_
      refine b_getI (d44 (j := 11) rfl) rfl rfl rfl rfl (Or.inl rfl) ?_
      refine b_stk [uI (M 1 0), uR 29 2] rfl ?_
      refine b_iload_n (d44 (j := 12) rfl) rfl ?_
      refine b_iload_n (d44 (j := 13) rfl) rfl ?_
      refine b_ishr (d44 (j := 14) rfl) ?_
      refine b_i2b (d44 (j := 15) rfl) ?_
      refine b_bastore (d44 (j := 16) rfl) rfl (s2 c1 c2) (s1 c1 c2) ?_
      refine b_aload_n (d44 (j := 17) rfl) rfl ?_
      refine b_dup (d44 (j := 18) rfl) rfl ?_
      refine b_getI (d44 (j := 19) rfl) rfl rfl rfl rfl (Or.inl rfl) ?_
      refine b_stk [uI (M 1 0), uR 6 1] (by rw [ds_get_ne (by omega)] <;> rfl) ?_
      refine b_iconst (d44 (j := 20) rfl) (by decide) ?_
      refine b_iadd (d44 (j := 21) rfl) rfl rfl ?_
      refine b_stk [uI ((M 1 0) + 1), uR 6 1] (by rw [dsw_r (s3 c1 c2)]) ?_
      refine b_putI (d44 (j := 22) rfl) rfl ⟨rfl, rfl⟩ rfl rfl ?_
      refine b_iinc [uR 6 1, uI x1, uI (x2 + (-8))] (d44 (j := 23) rfl) rfl (by decide) (s4 c1 c2) rfl ?_
      refine b_goto (d44 (j := 24) rfl) ?_
      exact (k3 c1 c2)
def L45 : List (Nat × Instr × Nat × Nat) := [(0, .aload_n 0, 1, 0), (1, .iconst 0, 2, 0), (2, .putfield 15, 5, 0), (5, .aload_n 0, 6, 0), (6, .iconst (-1), 7, 0), (7, .putfield 18, 10, 0), (10, .aload_n 0, 11, 0), (11, .iconst 0, 12, 0), (12, .putfield 25, 15, 0), (15, .aload_n 0, 16, 0), (16, .iconst 0, 17, 0), (17, .putfield 28, 20, 0), (20, .aload_n 1, 21, 0), (21, .invokevirtual 31, 24, 0), (24, .iconst 0, 25, 0), (25, .istore_n 2, 26, 0), (26, .iload_n 2, 27, 0), (27, .aload_n 0, 28, 0), (28, .getfield 9, 31, 0), (31, .if_icmp .gt 28, 34, 59), (34, .aload_n 0, 35, 0), (35, .getfield 15, 38, 0), (38, .ifCond .ne 21, 41, 59), (41, .aload_n 0, 42, 0), (42, .invokevirtual 36, 45, 0), (45, .ifCond .eq 14, 48, 59), (48, .aload_n 0, 49, 0), (49, .aload_n 1, 50, 0), (50, .invokevirtual 40, 53, 0), (53, .iinc 2 1, 56, 0), (56, .goto (-30), 59, 26), (59, .aload_n 0, 60, 0), (60, .getfield 15, 63, 0), (63, .ifCond .ne 7, 66, 70), (66, .iconst 1, 67, 0), (67, .goto 4, 70, 71), (70, .iconst 0, 71, 0), (71, .ireturn, 72, 0)]
set_option maxRecDepth 100000 in
theorem L45_ok : L45.all (dck 45) = true := by decide +kernel
theorem d45 {j pc nx tg : Nat} {ins : Instr} (hj : L45[j]? = some (pc, ins, nx, tg)) : dcd 45 pc ins nx tg := dcl_ok L45_ok hj
set_option maxRecDepth 100000 in
set_option maxHeartbeats 4000000 in
theorem r45_0  {R1 : dsMem → Prop} {M : dsMem} {Q : bQT} (hA1 : bCt 61 [uR 4 3] (dsSet (dsSet (dsSet (dsSet M 1 1 0) 1 2 (-1)) 1 4 0) 1 5 0) (fun _ => []) R1) (k1 : ∀ M1 : dsMem, R1 M1 → bB 45 26 [uR 6 1, uR 4 3, uI 0] [] M1 Q) :
    bB 45 0 [uR 6 1, uR 4 3, uX 0] [] M Q := by
  refine b_aload_n (d45 (j := 0) rfl) rfl ?_
  refine b_iconst (d45 (j := 1) rfl) (by decide) ?_
  refine b_putI (d45 (j := 2) rfl) rfl ⟨rfl, rfl⟩ rfl rfl ?_
  refine b_aload_n (d45 (j := 3) rfl) rfl ?_
  refine b_iconst (d45 (j := 4) rfl) (by decide) ?_
  refine b_putI (d45 (j := 5) rfl) rfl ⟨rfl, rfl⟩ rfl rfl ?_
  refine b_aload_n (d45 (j := 6) rfl) rfl ?_
  refine b_iconst (d45 (j := 7) rfl) (by decide) ?_
  refine b_putI (d45 (j := 8) rfl) rfl ⟨rfl, rfl⟩ rfl rfl ?_
  refine b_aload_n (d45 (j := 9) rfl) rfl ?_
  refine b_iconst (d45 (j := 10) rfl) (by decide) ?_
  refine b_putI (d45 (j := 11) rfl) rfl ⟨rfl, rfl⟩ rfl rfl ?_
  refine b_aload_n (d45 (j := 12) rfl) rfl ?_
  refine b_callV (d45 (j := 13) rfl) rfl rfl (Or.inl rfl) rfl (bCk_mk (n := 0) (k := 1) (by decide +kernel) rfl rfl) ((hA1) _ (fun M1 hR1 => ?_))
  refine b_stk [] rfl ?_
  refine b_iconst (d45 (j := 14) rfl) (by decide) ?_
  refine b_istore_n [uR 6 1, uR 4 3, uI 0] (d45 (j := 15) rfl) (by decide) rfl ?_
  exact (k1 M1 hR1)
set_option maxRecDepth 100000 in
set_option maxHeartbeats 4000000 in
theorem r45_26 {x2 : Int} {R1 : dsMem → Prop} {g1 : dsMem → Int} {R2 : dsMem → dsMem → Prop} {M : dsMem} {Q : bQT} (k1 : ((M 1 0) < x2) → (¬ (M 1 1) = 0) → Q [uI 0] M) (k2 : ((M 1 0) < x2) → ((M 1 1) = 0) → Q [uI 1] M) (k3 : (¬ (M 1 0) < x2) → (¬ (M 1 1) = 0) → (¬ (M 1 1) = 0) → Q [uI 0] M) (k4 : (¬ (M 1 0) < x2) → (¬ (M 1 1) = 0) → ((M 1 1) = 0) → Q [uI 1] M) (hA1 : (¬ (M 1 0) < x2) → ((M 1 1) = 0) → bCt 57 [uR 6 1, uX 0] M (fun M1 => [uI (g1 M1)]) R1) (k5 : (¬ (M 1 0) < x2) → ((M 1 1) = 0) → ∀ M1 : dsMem, R1 M1 → ((g1 M1) = 0) → (¬ (M1 1 1) = 0) → Q [uI 0] M1) (k6 : (¬ (M 1 0) < x2) → ((M 1 1) = 0) → ∀ M1 : dsMem, R1 M1 → ((g1 M1) = 0) → ((M1 1 1) = 0) → Q [uI 1] M1) (hA2 : (¬ (M 1 0) < x2) → ((M 1 1) = 0) → ∀ M1 : dsMem, R1 M1 → (¬ (g1 M1) = 0) → bCt 46 [uR 6 1, uR 4 3, uX 0] M1 (fun _ => []) (R2 M1)) (s1 : (¬ (M 1 0) < x2) → ((M 1 1) = 0) → ∀ M1 : dsMem, R1 M1 → (¬ (g1 M1) = 0) → ∀ M2 : dsMem, R2 M1 M2 → -2147483648 ≤ x2 + 1 ∧ x2 + 1 < 2147483648 := by intros; omega) (k7 : (¬ (M 1 0) < x2) → ((M 1 1) = 0) → ∀ M1 : dsMem, R1 M1 → (¬ (g1 M1) = 0) → ∀ M2 : dsMem, R2 M1 M2 → bB 45 26 [uR 6 1, uR 4 3, uI (x2 + 1)] [] M2 Q) :
    bB 45 26 [uR 6 1, uR 4 3, uI x2] [] M Q := by
  refine b_iload_n (d45 (j := 16) rfl) rfl ?_
  refine b_aload_n (d45 (j := 17) rfl) rfl ?_
  refine b_getI (d45 (j := 18) rfl) rfl rfl rfl rfl (Or.inl rfl) ?_
  refine b_stk [uI (M 1 0), uI x2] rfl ?_
  refine b_icmp_gt (d45 (j := 19) rfl) (fun c1 => ?_) (fun c1 => ?_)
  ·
    refine b_aload_n (d45 (j := 31) rfl) rfl ?_
    refine b_getI (d45 (j := 32) rfl) rfl rfl rfl rfl (Or.inl rfl) ?_
    refine b_stk [uI (M 1 1)] rfl ?_
    refine b_if_ne (d45 (j := 33) rfl) (fun c2 => ?_) (fun c2 => ?_)
    ·
      refine b_iconst (d45 (j := 36) rfl) (by decide) ?_
      exact b_zret (d45 (j := 37) rfl) rfl (by decide) (k1 c1 c2)
    ·
      refine b_iconst (d45 (j := 34) rfl) (by decide) ?_
      refine b_goto (d45 (j := 35) rfl) ?_
      exact b_zret (d45 (j := 37) rfl) rfl (by decide) (k2 c1 c2)
  ·
    refine b_aload_n (d45 (j := 20) rfl) rfl ?_
    refine b_getI (d45 (j := 21) rfl) rfl rfl rfl rfl (Or.inl rfl) ?_
    refine b_stk [uI (M 1 1)] rfl ?_
    refine b_if_ne (d45 (j := 22) rfl) (fun c3 => ?_) (fun c3 => ?_)
    ·
      refine b_aload_n (d45 (j := 31) rfl) rfl ?_
      refine b_getI (d45 (j := 32) rfl) rfl rfl rfl rfl (Or.inl rfl) ?_
      refine b_stk [uI (M 1 1)] rfl ?_
      refine b_if_ne (d45 (j := 33) rfl) (fun c4 => ?_) (fun c4 => ?_)
      ·
        refine b_iconst (d45 (j := 36) rfl) (by decide) ?_
        exact b_zret (d45 (j := 37) rfl) rfl (by decide) (k3 c1 c3 c4)
      ·
        refine b_iconst (d45 (j := 34) rfl) (by decide) ?_
        refine b_goto (d45 (j := 35) rfl) ?_
        exact b_zret (d45 (j := 37) rfl) rfl (by decide) (k4 c1 c3 c4)
    ·
      refine b_aload_n (d45 (j := 23) rfl) rfl ?_
      refine b_callV (d45 (j := 24) rfl) rfl rfl (Or.inl rfl) rfl (bCk_mk (n := 0) (k := 1) (by decide +kernel) rfl rfl) ((hA1 c1 c3) _ (fun M1 hR1 => ?_))
      refine b_stk [uI (g1 M1)] rfl ?_
      refine b_if_eq (d45 (j := 25) rfl) (fun c5 => ?_) (fun c5 => ?_)
      ·
        refine b_aload_n (d45 (j := 31) rfl) rfl ?_
        refine b_getI (d45 (j := 32) rfl) rfl rfl rfl rfl (Or.inl rfl) ?_
        refine b_stk [uI (M1 1 1)] rfl ?_
        refine b_if_ne (d45 (j := 33) rfl) (fun c6 => ?_) (fun c6 => ?_)
        ·
          refine b_iconst (d45 (j := 36) rfl) (by decide) ?_
          exact b_zret (d45 (j := 37) rfl) rfl (by decide) (k5 c1 c3 M1 hR1 c5 c6)
        ·
          refine b_iconst (d45 (j := 34) rfl) (by decide) ?_
          refine b_goto (d45 (j := 35) rfl) ?_
          exact b_zret (d45 (j := 37) rfl) rfl (by decide) (k6 c1 c3 M1 hR1 c5 c6)
      ·
        refine b_aload_n (d45 (j := 26) rfl) rfl ?_
        refine b_aload_n (d45 (j := 27) rfl) rfl ?_
        refine b_callV (d45 (j := 28) rfl) rfl rfl (Or.inl rfl) rfl (bCk_mk (n := 0) (k := 2) (by decide +kernel) rfl rfl) ((hA2 c1 c3 M1 hR1 c5) _ (fun M2 hR2 => ?_))
        refine b_stk [] rfl ?_
        refine b_iinc [uR 6 1, uR 4 3, uI (x2 + 1)] (d45 (j := 29) rfl) rfl (by decide) (s1 c1 c3 M1 hR1 c5 M2 hR2) rfl ?_
        refine b_goto (d45 (j := 30) rfl) ?_
        exact (k7 c1 c3 M1 hR1 c5 M2 hR2)
def L46 : List (Nat × Instr × Nat × Nat) := [(0, .aload_n 1, 1, 0), (1, .getfield 44, 4, 0), (4, .ifCond .ne 7, 7, 11), (7, .iconst 1, 8, 0), (8, .goto 4, 11, 12), (11, .iconst 0, 12, 0), (12, .istore_n 2, 13, 0), (13, .aload_n 0, 14, 0), (14, .ldc 47, 16, 0), (16, .invokevirtual 49, 19, 0), (19, .iload_n 2, 20, 0), (20, .if_icmp .eq 11, 23, 31), (23, .aload_n 0, 24, 0), (24, .iconst 1, 25, 0), (25, .invokevirtual 53, 28, 0), (28, .goto 88, 31, 116), (31, .iload_n 2, 32, 0), (32, .ifCond .eq 11, 35, 43), (35, .aload_n 0, 36, 0), (36, .aload_n 1, 37, 0), (37, .invokevirtual 57, 40, 0), (40, .goto 76, 43, 116), (43, .aload_n 0, 44, 0), (44, .ldc 60, 46, 0), (46, .invokevirtual 49, 49, 0), (49, .ifCond .eq 11, 52, 60), (52, .aload_n 0, 53, 0), (53, .aload_n 1, 54, 0), (54, .invokevirtual 62, 57, 0), (57, .goto 59, 60, 116), (60, .aload_n 0, 61, 0), (61, .ldc 65, 63, 0), (63, .invokevirtual 49, 66, 0), (66, .ifCond .eq 11, 69, 77), (69, .aload_n 0, 70, 0), (70, .aload_n 1, 71, 0), (71, .invokevirtual 67, 74, 0), (74, .goto 42, 77, 116), (77, .aload_n 0, 78, 0), (78, .ldc 70, 80, 0), (80, .invokevirtual 49, 83, 0), (83, .ifCond .eq 11, 86, 94), (86, .aload_n 0, 87, 0), (87, .aload_n 1, 88, 0), (88, .invokevirtual 72, 91, 0), (91, .goto 25, 94, 116), (94, .aload_n 0, 95, 0), (95, .ldc 75, 97, 0), (97, .invokevirtual 49, 100, 0), (100, .ifCond .eq 11, 103, 111), (103, .aload_n 0, 104, 0), (104, .aload_n 1, 105, 0), (105, .invokevirtual 77, 108, 0), (108, .goto 8, 111, 116), (111, .aload_n 0, 112, 0), (112, .iconst 1, 113, 0), (113, .invokevirtual 53, 116, 0), (116, .aload_n 1, 117, 0), (117, .dup, 118, 0), (118, .getfield 44, 121, 0), (121, .iconst 1, 122, 0), (122, .iadd, 123, 0), (123, .putfield 44, 126, 0), (126, .return_, 127, 0)]
set_option maxRecDepth 100000 in
theorem L46_ok : L46.all (dck 46) = true := by decide +kernel
theorem d46 {j pc nx tg : Nat} {ins : Instr} (hj : L46[j]? = some (pc, ins, nx, tg)) : dcd 46 pc ins nx tg := dcl_ok L46_ok hj
set_option maxRecDepth 100000 in
set_option maxHeartbeats 4000000 in
theorem r46_0  {R1 : dsMem → Prop} {g1 : dsMem → Int} {R2 : dsMem → dsMem → Prop} {g2 : dsMem → dsMem → Int} {R3 : dsMem → dsMem → dsMem → Prop} {g3 : dsMem → dsMem → dsMem → Int} {R4 : dsMem → dsMem → dsMem → dsMem → Prop} {g4 : dsMem → dsMem → dsMem → dsMem → Int} {R5 : dsMem → dsMem → dsMem → dsMem → dsMem → Prop} {g5 : dsMem → dsMem → dsMem → dsMem → dsMem → Int} {R6 : dsMem → dsMem → dsMem → dsMem → dsMem → dsMem → Prop} {R7 : dsMem → dsMem → dsMem → dsMem → dsMem → dsMem → Prop} {R8 : dsMem → dsMem → dsMem → dsMem → dsMem → Prop} {R9 : dsMem → dsMem → dsMem → dsMem → Prop} {R10 : dsMem → dsMem → dsMem → Prop} {R11 : dsMem → dsMem → Prop} {R12 : dsMem → Prop} {g12 : dsMem → Int} {R13 : dsMem → dsMem → Prop} {R14 : dsMem → dsMem → Prop} {M : dsMem} {Q : bQT} (hA1 : (¬ (M 3 0) = 0) → bCt 59 [uR 6 1, uX 2, uX 0] M (fun M1 => [uI (g1 M1)]) R1) (hA2 : (¬ (M 3 0) = 0) → ∀ M1 : dsMem, R1 M1 → ((g1 M1) = 0) → bCt 59 [uR 6 1, uX 6, uX 0] M1 (fun M2 => [uI (g2 M1 M2)]) (R2 M1)) (hA3 : (¬ (M 3 0) = 0) → ∀ M1 : dsMem, R1 M1 → ((g1 M1) = 0) → ∀ M2 : dsMem, R2 M1 M2 → ((g2 M1 M2) = 0) → bCt 59 [uR 6 1, uX 9, uX 0] M2 (fun M3 => [uI (g3 M1 M2 M3)]) (R3 M1 M2)) (hA4 : (¬ (M 3 0) = 0) → ∀ M1 : dsMem, R1 M1 → ((g1 M1) = 0) → ∀ M2 : dsMem, R2 M1 M2 → ((g2 M1 M2) = 0) → ∀ M3 : dsMem, R3 M1 M2 M3 → ((g3 M1 M2 M3) = 0) → bCt 59 [uR 6 1, uX 13, uX 0] M3 (fun M4 => [uI (g4 M1 M2 M3 M4)]) (R4 M1 M2 M3)) (hA5 : (¬ (M 3 0) = 0) → ∀ M1 : dsMem, R1 M1 → ((g1 M1) = 0) → ∀ M2 : dsMem, R2 M1 M2 → ((g2 M1 M2) = 0) → ∀ M3 : dsMem, R3 M1 M2 M3 → ((g3 M1 M2 M3) = 0) → ∀ M4 : dsMem, R4 M1 M2 M3 M4 → ((g4 M1 M2 M3 M4) = 0) → bCt 59 [uR 6 1, uX 16, uX 0] M4 (fun M5 => [uI (g5 M1 M2 M3 M4 M5)]) (R5 M1 M2 M3 M4)) (hA6 : (¬ (M 3 0) = 0) → ∀ M1 : dsMem, R1 M1 → ((g1 M1) = 0) → ∀ M2 : dsMem, R2 M1 M2 → ((g2 M1 M2) = 0) → ∀ M3 : dsMem, R3 M1 M2 M3 → ((g3 M1 M2 M3) = 0) → ∀ M4 : dsMem, R4 M1 M2 M3 M4 → ((g4 M1 M2 M3 M4) = 0) → ∀ M5 : dsMem, R5 M1 M2 M3 M4 M5 → ((g5 M1 M2 M3 M4 M5) = 0) → bCt 53 [uR 6 1, uI 1] M5 (fun _ => []) (R6 M1 M2 M3 M4 M5)) (s1 : (¬ (M 3 0) = 0) → ∀ M1 : dsMem, R1 M1 → ((g1 M1) = 0) → ∀ M2 : dsMem, R2 M1 M2 → ((g2 M1 M2) = 0) → ∀ M3 : dsMem, R3 M1 M2 M3 → ((g3 M1 M2 M3) = 0) → ∀ M4 : dsMem, R4 M1 M2 M3 M4 → ((g4 M1 M2 M3 M4) = 0) → ∀ M5 : dsMem, R5 M1 M2 M3 M4 M5 → ((g5 M1 M2 M3 M4 M5) = 0) → ∀ M6 : dsMem, R6 M1 M2 M3 M4 M5 M6 → -2147483648 ≤ ((M6 3 0) + 1) ∧ ((M6 3 0) + 1) < 2147483648 := by intros; omega) (k1 : (¬ (M 3 0) = 0) → ∀ M1 : dsMem, R1 M1 → ((g1 M1) = 0) → ∀ M2 : dsMem, R2 M1 M2 → ((g2 M1 M2) = 0) → ∀ M3 : dsMem, R3 M1 M2 M3 → ((g3 M1 M2 M3) = 0) → ∀ M4 : dsMem, R4 M1 M2 M3 M4 → ((g4 M1 M2 M3 M4) = 0) → ∀ M5 : dsMem, R5 M1 M2 M3 M4 M5 → ((g5 M1 M2 M3 M4 M5) = 0) → ∀ M6 : dsMem, R6 M1 M2 M3 M4 M5 M6 → Q [] (dsSet M6 3 0 ((M6 3 0) + 1))) (hA7 : (¬ (M 3 0) = 0) → ∀ M1 : dsMem, R1 M1 → ((g1 M1) = 0) → ∀ M2 : dsMem, R2 M1 M2 → ((g2 M1 M2) = 0) → ∀ M3 : dsMem, R3 M1 M2 M3 → ((g3 M1 M2 M3) = 0) → ∀ M4 : dsMem, R4 M1 M2 M3 M4 → ((g4 M1 M2 M3 M4) = 0) → ∀ M5 : dsMem, R5 M1 M2 M3 M4 M5 → (¬ (g5 M1 M2 M3 M4 M5) = 0) → bCt 51 [uR 6 1, uR 4 3, uX 0, uX 0, uX 0] M5 (fun _ => []) (R7 M1 M2 M3 M4 M5)) (s2 : (¬ (M 3 0) = 0) → ∀ M1 : dsMem, R1 M1 → ((g1 M1) = 0) → ∀ M2 : dsMem, R2 M1 M2 → ((g2 M1 M2) = 0) → ∀ M3 : dsMem, R3 M1 M2 M3 → ((g3 M1 M2 M3) = 0) → ∀ M4 : dsMem, R4 M1 M2 M3 M4 → ((g4 M1 M2 M3 M4) = 0) → ∀ M5 : dsMem, R5 M1 M2 M3 M4 M5 → (¬ (g5 M1 M2 M3 M4 M5) = 0) → ∀ M7 : dsMem, R7 M1 M2 M3 M4 M5 M7 → -2147483648 ≤ ((M7 3 0) + 1) ∧ ((M7 3 0) + 1) < 2147483648 := by intros; omega) (k2 : (¬ (M 3 0) = 0) → ∀ M1 : dsMem, R1 M1 → ((g1 M1) = 0) → ∀ M2 : dsMem, R2 M1 M2 → ((g2 M1 M2) = 0) → ∀ M3 : dsMem, R3 M1 M2 M3 → ((g3 M1 M2 M3) = 0) → ∀ M4 : dsMem, R4 M1 M2 M3 M4 → ((g4 M1 M2 M3 M4) = 0) → ∀ M5 : dsMem, R5 M1 M2 M3 M4 M5 → (¬ (g5 M1 M2 M3 M4 M5) = 0) → ∀ M7 : dsMem, R7 M1 M2 M3 M4 M5 M7 → Q [] (dsSet M7 3 0 ((M7 3 0) + 1))) (hA8 : (¬ (M 3 0) = 0) → ∀ M1 : dsMem, R1 M1 → ((g1 M1) = 0) → ∀ M2 : dsMem, R2 M1 M2 → ((g2 M1 M2) = 0) → ∀ M3 : dsMem, R3 M1 M2 M3 → ((g3 M1 M2 M3) = 0) → ∀ M4 : dsMem, R4 M1 M2 M3 M4 → (¬ (g4 M1 M2 M3 M4) = 0) → bCt 50 [uR 6 1, uR 4 3, uX 0, uX 0, uX 0] M4 (fun _ => []) (R8 M1 M2 M3 M4)) (s3 : (¬ (M 3 0) = 0) → ∀ M1 : dsMem, R1 M1 → ((g1 M1) = 0) → ∀ M2 : dsMem, R2 M1 M2 → ((g2 M1 M2) = 0) → ∀ M3 : dsMem, R3 M1 M2 M3 → ((g3 M1 M2 M3) = 0) → ∀ M4 : dsMem, R4 M1 M2 M3 M4 → (¬ (g4 M1 M2 M3 M4) = 0) → ∀ M8 : dsMem, R8 M1 M2 M3 M4 M8 → -2147483648 ≤ ((M8 3 0) + 1) ∧ ((M8 3 0) + 1) < 2147483648 := by intros; omega) (k3 : (¬ (M 3 0) = 0) → ∀ M1 : dsMem, R1 M1 → ((g1 M1) = 0) → ∀ M2 : dsMem, R2 M1 M2 → ((g2 M1 M2) = 0) → ∀ M3 : dsMem, R3 M1 M2 M3 → ((g3 M1 M2 M3) = 0) → ∀ M4 : dsMem, R4 M1 M2 M3 M4 → (¬ (g4 M1 M2 M3 M4) = 0) → ∀ M8 : dsMem, R8 M1 M2 M3 M4 M8 → Q [] (dsSet M8 3 0 ((M8 3 0) + 1))) (hA9 : (¬ (M 3 0) = 0) → ∀ M1 : dsMem, R1 M1 → ((g1 M1) = 0) → ∀ M2 : dsMem, R2 M1 M2 → ((g2 M1 M2) = 0) → ∀ M3 : dsMem, R3 M1 M2 M3 → (¬ (g3 M1 M2 M3) = 0) → bCt 49 [uR 6 1, uR 4 3, uX 0, uX 0, uX 0] M3 (fun _ => []) (R9 M1 M2 M3)) (s4 : (¬ (M 3 0) = 0) → ∀ M1 : dsMem, R1 M1 → ((g1 M1) = 0) → ∀ M2 : dsMem, R2 M1 M2 → ((g2 M1 M2) = 0) → ∀ M3 : dsMem, R3 M1 M2 M3 → (¬ (g3 M1 M2 M3) = 0) → ∀ M9 : dsMem, R9 M1 M2 M3 M9 → -2147483648 ≤ ((M9 3 0) + 1) ∧ ((M9 3 0) + 1) < 2147483648 := by intros; omega) (k4 : (¬ (M 3 0) = 0) → ∀ M1 : dsMem, R1 M1 → ((g1 M1) = 0) → ∀ M2 : dsMem, R2 M1 M2 → ((g2 M1 M2) = 0) → ∀ M3 : dsMem, R3 M1 M2 M3 → (¬ (g3 M1 M2 M3) = 0) → ∀ M9 : dsMem, R9 M1 M2 M3 M9 → Q [] (dsSet M9 3 0 ((M9 3 0) + 1))) (hA10 : (¬ (M 3 0) = 0) → ∀ M1 : dsMem, R1 M1 → ((g1 M1) = 0) → ∀ M2 : dsMem, R2 M1 M2 → (¬ (g2 M1 M2) = 0) → bCt 48 [uR 6 1, uR 4 3, uX 0, uX 0] M2 (fun _ => []) (R10 M1 M2)) (s5 : (¬ (M 3 0) = 0) → ∀ M1 : dsMem, R1 M1 → ((g1 M1) = 0) → ∀ M2 : dsMem, R2 M1 M2 → (¬ (g2 M1 M2) = 0) → ∀ M10 : dsMem, R10 M1 M2 M10 → -2147483648 ≤ ((M10 3 0) + 1) ∧ ((M10 3 0) + 1) < 2147483648 := by intros; omega) (k5 : (¬ (M 3 0) = 0) → ∀ M1 : dsMem, R1 M1 → ((g1 M1) = 0) → ∀ M2 : dsMem, R2 M1 M2 → (¬ (g2 M1 M2) = 0) → ∀ M10 : dsMem, R10 M1 M2 M10 → Q [] (dsSet M10 3 0 ((M10 3 0) + 1))) (hA11 : (¬ (M 3 0) = 0) → ∀ M1 : dsMem, R1 M1 → (¬ (g1 M1) = 0) → bCt 53 [uR 6 1, uI 1] M1 (fun _ => []) (R11 M1)) (s6 : (¬ (M 3 0) = 0) → ∀ M1 : dsMem, R1 M1 → (¬ (g1 M1) = 0) → ∀ M11 : dsMem, R11 M1 M11 → -2147483648 ≤ ((M11 3 0) + 1) ∧ ((M11 3 0) + 1) < 2147483648 := by intros; omega) (k6 : (¬ (M 3 0) = 0) → ∀ M1 : dsMem, R1 M1 → (¬ (g1 M1) = 0) → ∀ M11 : dsMem, R11 M1 M11 → Q [] (dsSet M11 3 0 ((M11 3 0) + 1))) (hA12 : ((M 3 0) = 0) → bCt 59 [uR 6 1, uX 2, uX 0] M (fun M12 => [uI (g12 M12)]) R12) (hA13 : ((M 3 0) = 0) → ∀ M12 : dsMem, R12 M12 → ((g12 M12) = 1) → bCt 47 [uR 6 1, uR 4 3] M12 (fun _ => []) (R13 M12)) (s7 : ((M 3 0) = 0) → ∀ M12 : dsMem, R12 M12 → ((g12 M12) = 1) → ∀ M13 : dsMem, R13 M12 M13 → -2147483648 ≤ ((M13 3 0) + 1) ∧ ((M13 3 0) + 1) < 2147483648 := by intros; omega) (k7 : ((M 3 0) = 0) → ∀ M12 : dsMem, R12 M12 → ((g12 M12) = 1) → ∀ M13 : dsMem, R13 M12 M13 → Q [] (dsSet M13 3 0 ((M13 3 0) + 1))) (hA14 : ((M 3 0) = 0) → ∀ M12 : dsMem, R12 M12 → (¬ (g12 M12) = 1) → bCt 53 [uR 6 1, uI 1] M12 (fun _ => []) (R14 M12)) (s8 : ((M 3 0) = 0) → ∀ M12 : dsMem, R12 M12 → (¬ (g12 M12) = 1) → ∀ M14 : dsMem, R14 M12 M14 → -2147483648 ≤ ((M14 3 0) + 1) ∧ ((M14 3 0) + 1) < 2147483648 := by intros; omega) (k8 : ((M 3 0) = 0) → ∀ M12 : dsMem, R12 M12 → (¬ (g12 M12) = 1) → ∀ M14 : dsMem, R14 M12 M14 → Q [] (dsSet M14 3 0 ((M14 3 0) + 1))) :
    bB 46 0 [uR 6 1, uR 4 3, uX 0] [] M Q := by
  refine b_aload_n (d46 (j := 0) rfl) rfl ?_
  refine b_getI (d46 (j := 1) rfl) rfl rfl rfl rfl (Or.inl rfl) ?_
  refine b_stk [uI (M 3 0)] rfl ?_
  refine b_if_ne (d46 (j := 2) rfl) (fun c1 => ?_) (fun c1 => ?_)
  ·
    refine b_iconst (d46 (j := 5) rfl) (by decide) ?_
    refine b_istore_n [uR 6 1, uR 4 3, uI 0] (d46 (j := 6) rfl) (by decide) rfl ?_
    refine b_aload_n (d46 (j := 7) rfl) rfl ?_
    refine b_ldcS (d46 (j := 8) rfl) rfl rfl ?_
    refine b_stk [uX 2, uR 6 1] rfl ?_
    refine b_callV (d46 (j := 9) rfl) rfl rfl (Or.inl rfl) rfl (bCk_mk (n := 0) (k := 2) (by decide +kernel) rfl rfl) ((hA1 c1) _ (fun M1 hR1 => ?_))
    refine b_stk [uI (g1 M1)] rfl ?_
    refine b_iload_n (d46 (j := 10) rfl) rfl ?_
    refine b_icmp_eq (d46 (j := 11) rfl) (fun c2 => ?_) (fun c2 => ?_)
    ·
      refine b_iload_n (d46 (j := 16) rfl) rfl ?_
      refine b_if_eq (d46 (j := 17) rfl) (fun _ => ?_) (fun q => absurd q (by decide))
      refine b_aload_n (d46 (j := 22) rfl) rfl ?_
      refine b_ldcS (d46 (j := 23) rfl) rfl rfl ?_
      refine b_stk [uX 6, uR 6 1] rfl ?_
      refine b_callV (d46 (j := 24) rfl) rfl rfl (Or.inl rfl) rfl (bCk_mk (n := 0) (k := 2) (by decide +kernel) rfl rfl) ((hA2 c1 M1 hR1 c2) _ (fun M2 hR2 => ?_))
      refine b_stk [uI (g2 M1 M2)] rfl ?_
      refine b_if_eq (d46 (j := 25) rfl) (fun c4 => ?_) (fun c4 => ?_)
      ·
        refine b_aload_n (d46 (j := 30) rfl) rfl ?_
        refine b_ldcS (d46 (j := 31) rfl) rfl rfl ?_
        refine b_stk [uX 9, uR 6 1] rfl ?_
        refine b_callV (d46 (j := 32) rfl) rfl rfl (Or.inl rfl) rfl (bCk_mk (n := 0) (k := 2) (by decide +kernel) rfl rfl) ((hA3 c1 M1 hR1 c2 M2 hR2 c4) _ (fun M3 hR3 => ?_))
        refine b_stk [uI (g3 M1 M2 M3)] rfl ?_
        refine b_if_eq (d46 (j := 33) rfl) (fun c5 => ?_) (fun c5 => ?_)
        ·
          refine b_aload_n (d46 (j := 38) rfl) rfl ?_
          refine b_ldcS (d46 (j := 39) rfl) rfl rfl ?_
          refine b_stk [uX 13, uR 6 1] rfl ?_
          refine b_callV (d46 (j := 40) rfl) rfl rfl (Or.inl rfl) rfl (bCk_mk (n := 0) (k := 2) (by decide +kernel) rfl rfl) ((hA4 c1 M1 hR1 c2 M2 hR2 c4 M3 hR3 c5) _ (fun M4 hR4 => ?_))
          refine b_stk [uI (g4 M1 M2 M3 M4)] rfl ?_
          refine b_if_eq (d46 (j := 41) rfl) (fun c6 => ?_) (fun c6 => ?_)
          ·
            refine b_aload_n (d46 (j := 46) rfl) rfl ?_
            refine b_ldcS (d46 (j := 47) rfl) rfl rfl ?_
            refine b_stk [uX 16, uR 6 1] rfl ?_
            refine b_callV (d46 (j := 48) rfl) rfl rfl (Or.inl rfl) rfl (bCk_mk (n := 0) (k := 2) (by decide +kernel) rfl rfl) ((hA5 c1 M1 hR1 c2 M2 hR2 c4 M3 hR3 c5 M4 hR4 c6) _ (fun M5 hR5 => ?_))
            refine b_stk [uI (g5 M1 M2 M3 M4 M5)] rfl ?_
            refine b_if_eq (d46 (j := 49) rfl) (fun c7 => ?_) (fun c7 => ?_)
            ·
              refine b_aload_n (d46 (j := 54) rfl) rfl ?_
              refine b_iconst (d46 (j := 55) rfl) (by decide) ?_
              refine b_callV (d46 (j := 56) rfl) rfl rfl (Or.inl rfl) rfl (bCk_mk (n := 0) (k := 2) (by decide +kernel) rfl rfl) ((hA6 c1 M1 hR1 c2 M2 hR2 c4 M3 hR3 c5 M4 hR4 c6 M5 hR5 c7) _ (fun M6 hR6 => ?_))
              refine b_stk [] rfl ?_
              refine b_aload_n (d46 (j := 57) rfl) rfl ?_
              refine b_dup (d46 (j := 58) rfl) rfl ?_
              refine b_getI (d46 (j := 59) rfl) rfl rfl rfl rfl (Or.inl rfl) ?_
              refine b_stk [uI (M6 3 0), uR 4 3] rfl ?_
              refine b_iconst (d46 (j := 60) rfl) (by decide) ?_
              refine b_iadd (d46 (j := 61) rfl) rfl rfl ?_
              refine b_stk [uI ((M6 3 0) + 1), uR 4 3] (by rw [dsw_r (s1 c1 M1 hR1 c2 M2 hR2 c4 M3 hR3 c5 M4 hR4 c6 M5 hR5 c7 M6 hR6)]) ?_
              refine b_putI (d46 (j := 62) rfl) rfl ⟨rfl, rfl⟩ rfl rfl ?_
              exact b_vret (d46 (j := 63) rfl) rfl (k1 c1 M1 hR1 c2 M2 hR2 c4 M3 hR3 c5 M4 hR4 c6 M5 hR5 c7 M6 hR6)
            ·
              refine b_aload_n (d46 (j := 50) rfl) rfl ?_
              refine b_aload_n (d46 (j := 51) rfl) rfl ?_
              refine b_callV (d46 (j := 52) rfl) rfl rfl (Or.inl rfl) rfl (bCk_mk (n := 0) (k := 2) (by decide +kernel) rfl rfl) ((hA7 c1 M1 hR1 c2 M2 hR2 c4 M3 hR3 c5 M4 hR4 c6 M5 hR5 c7) _ (fun M7 hR7 => ?_))
              refine b_stk [] rfl ?_
              refine b_goto (d46 (j := 53) rfl) ?_
              refine b_aload_n (d46 (j := 57) rfl) rfl ?_
              refine b_dup (d46 (j := 58) rfl) rfl ?_
              refine b_getI (d46 (j := 59) rfl) rfl rfl rfl rfl (Or.inl rfl) ?_
              refine b_stk [uI (M7 3 0), uR 4 3] rfl ?_
              refine b_iconst (d46 (j := 60) rfl) (by decide) ?_
              refine b_iadd (d46 (j := 61) rfl) rfl rfl ?_
              refine b_stk [uI ((M7 3 0) + 1), uR 4 3] (by rw [dsw_r (s2 c1 M1 hR1 c2 M2 hR2 c4 M3 hR3 c5 M4 hR4 c6 M5 hR5 c7 M7 hR7)]) ?_
              refine b_putI (d46 (j := 62) rfl) rfl ⟨rfl, rfl⟩ rfl rfl ?_
              exact b_vret (d46 (j := 63) rfl) rfl (k2 c1 M1 hR1 c2 M2 hR2 c4 M3 hR3 c5 M4 hR4 c6 M5 hR5 c7 M7 hR7)
          ·
            refine b_aload_n (d46 (j := 42) rfl) rfl ?_
            refine b_aload_n (d46 (j := 43) rfl) rfl ?_
            refine b_callV (d46 (j := 44) rfl) rfl rfl (Or.inl rfl) rfl (bCk_mk (n := 0) (k := 2) (by decide +kernel) rfl rfl) ((hA8 c1 M1 hR1 c2 M2 hR2 c4 M3 hR3 c5 M4 hR4 c6) _ (fun M8 hR8 => ?_))
            refine b_stk [] rfl ?_
            refine b_goto (d46 (j := 45) rfl) ?_
            refine b_aload_n (d46 (j := 57) rfl) rfl ?_
            refine b_dup (d46 (j := 58) rfl) rfl ?_
            refine b_getI (d46 (j := 59) rfl) rfl rfl rfl rfl (Or.inl rfl) ?_
            refine b_stk [uI (M8 3 0), uR 4 3] rfl ?_
            refine b_iconst (d46 (j := 60) rfl) (by decide) ?_
            refine b_iadd (d46 (j := 61) rfl) rfl rfl ?_
            refine b_stk [uI ((M8 3 0) + 1), uR 4 3] (by rw [dsw_r (s3 c1 M1 hR1 c2 M2 hR2 c4 M3 hR3 c5 M4 hR4 c6 M8 hR8)]) ?_
            refine b_putI (d46 (j := 62) rfl) rfl ⟨rfl, rfl⟩ rfl rfl ?_
            exact b_vret (d46 (j := 63) rfl) rfl (k3 c1 M1 hR1 c2 M2 hR2 c4 M3 hR3 c5 M4 hR4 c6 M8 hR8)
        ·
          refine b_aload_n (d46 (j := 34) rfl) rfl ?_
          refine b_aload_n (d46 (j := 35) rfl) rfl ?_
          refine b_callV (d46 (j := 36) rfl) rfl rfl (Or.inl rfl) rfl (bCk_mk (n := 0) (k := 2) (by decide +kernel) rfl rfl) ((hA9 c1 M1 hR1 c2 M2 hR2 c4 M3 hR3 c5) _ (fun M9 hR9 => ?_))
          refine b_stk [] rfl ?_
          refine b_goto (d46 (j := 37) rfl) ?_
          refine b_aload_n (d46 (j := 57) rfl) rfl ?_
          refine b_dup (d46 (j := 58) rfl) rfl ?_
          refine b_getI (d46 (j := 59) rfl) rfl rfl rfl rfl (Or.inl rfl) ?_
          refine b_stk [uI (M9 3 0), uR 4 3] rfl ?_
          refine b_iconst (d46 (j := 60) rfl) (by decide) ?_
          refine b_iadd (d46 (j := 61) rfl) rfl rfl ?_
          refine b_stk [uI ((M9 3 0) + 1), uR 4 3] (by rw [dsw_r (s4 c1 M1 hR1 c2 M2 hR2 c4 M3 hR3 c5 M9 hR9)]) ?_
          refine b_putI (d46 (j := 62) rfl) rfl ⟨rfl, rfl⟩ rfl rfl ?_
          exact b_vret (d46 (j := 63) rfl) rfl (k4 c1 M1 hR1 c2 M2 hR2 c4 M3 hR3 c5 M9 hR9)
      ·
        refine b_aload_n (d46 (j := 26) rfl) rfl ?_
        refine b_aload_n (d46 (j := 27) rfl) rfl ?_
        refine b_callV (d46 (j := 28) rfl) rfl rfl (Or.inl rfl) rfl (bCk_mk (n := 0) (k := 2) (by decide +kernel) rfl rfl) ((hA10 c1 M1 hR1 c2 M2 hR2 c4) _ (fun M10 hR10 => ?_))
        refine b_stk [] rfl ?_
        refine b_goto (d46 (j := 29) rfl) ?_
        refine b_aload_n (d46 (j := 57) rfl) rfl ?_
        refine b_dup (d46 (j := 58) rfl) rfl ?_
        refine b_getI (d46 (j := 59) rfl) rfl rfl rfl rfl (Or.inl rfl) ?_
        refine b_stk [uI (M10 3 0), uR 4 3] rfl ?_
        refine b_iconst (d46 (j := 60) rfl) (by decide) ?_
        refine b_iadd (d46 (j := 61) rfl) rfl rfl ?_
        refine b_stk [uI ((M10 3 0) + 1), uR 4 3] (by rw [dsw_r (s5 c1 M1 hR1 c2 M2 hR2 c4 M10 hR10)]) ?_
        refine b_putI (d46 (j := 62) rfl) rfl ⟨rfl, rfl⟩ rfl rfl ?_
        exact b_vret (d46 (j := 63) rfl) rfl (k5 c1 M1 hR1 c2 M2 hR2 c4 M10 hR10)
    ·
      refine b_aload_n (d46 (j := 12) rfl) rfl ?_
      refine b_iconst (d46 (j := 13) rfl) (by decide) ?_
      refine b_callV (d46 (j := 14) rfl) rfl rfl (Or.inl rfl) rfl (bCk_mk (n := 0) (k := 2) (by decide +kernel) rfl rfl) ((hA11 c1 M1 hR1 c2) _ (fun M11 hR11 => ?_))
      refine b_stk [] rfl ?_
      refine b_goto (d46 (j := 15) rfl) ?_
      refine b_aload_n (d46 (j := 57) rfl) rfl ?_
      refine b_dup (d46 (j := 58) rfl) rfl ?_
      refine b_getI (d46 (j := 59) rfl) rfl rfl rfl rfl (Or.inl rfl) ?_
      refine b_stk [uI (M11 3 0), uR 4 3] rfl ?_
      refine b_iconst (d46 (j := 60) rfl) (by decide) ?_
      refine b_iadd (d46 (j := 61) rfl) rfl rfl ?_
      refine b_stk [uI ((M11 3 0) + 1), uR 4 3] (by rw [dsw_r (s6 c1 M1 hR1 c2 M11 hR11)]) ?_
      refine b_putI (d46 (j := 62) rfl) rfl ⟨rfl, rfl⟩ rfl rfl ?_
      exact b_vret (d46 (j := 63) rfl) rfl (k6 c1 M1 hR1 c2 M11 hR11)
  ·
    refine b_iconst (d46 (j := 3) rfl) (by decide) ?_
    refine b_goto (d46 (j := 4) rfl) ?_
    refine b_istore_n [uR 6 1, uR 4 3, uI 1] (d46 (j := 6) rfl) (by decide) rfl ?_
    refine b_aload_n (d46 (j := 7) rfl) rfl ?_
    refine b_ldcS (d46 (j := 8) rfl) rfl rfl ?_
    refine b_stk [uX 2, uR 6 1] rfl ?_
    refine b_callV (d46 (j := 9) rfl) rfl rfl (Or.inl rfl) rfl (bCk_mk (n := 0) (k := 2) (by decide +kernel) rfl rfl) ((hA12 c1) _ (fun M12 hR12 => ?_))
    refine b_stk [uI (g12 M12)] rfl ?_
    refine b_iload_n (d46 (j := 10) rfl) rfl ?_
    refine b_icmp_eq (d46 (j := 11) rfl) (fun c8 => ?_) (fun c8 => ?_)
    ·
      refine b_iload_n (d46 (j := 16) rfl) rfl ?_
      refine b_if_eq (d46 (j := 17) rfl) (fun q => absurd q (by decide)) (fun _ => ?_)
      refine b_aload_n (d46 (j := 18) rfl) rfl ?_
      refine b_aload_n (d46 (j := 19) rfl) rfl ?_
      refine b_callV (d46 (j := 20) rfl) rfl rfl (Or.inl rfl) rfl (bCk_mk (n := 0) (k := 2) (by decide +kernel) rfl rfl) ((hA13 c1 M12 hR12 c8) _ (fun M13 hR13 => ?_))
      refine b_stk [] rfl ?_
      refine b_goto (d46 (j := 21) rfl) ?_
      refine b_aload_n (d46 (j := 57) rfl) rfl ?_
      refine b_dup (d46 (j := 58) rfl) rfl ?_
      refine b_getI (d46 (j := 59) rfl) rfl rfl rfl rfl (Or.inl rfl) ?_
      refine b_stk [uI (M13 3 0), uR 4 3] rfl ?_
      refine b_iconst (d46 (j := 60) rfl) (by decide) ?_
      refine b_iadd (d46 (j := 61) rfl) rfl rfl ?_
      refine b_stk [uI ((M13 3 0) + 1), uR 4 3] (by rw [dsw_r (s7 c1 M12 hR12 c8 M13 hR13)]) ?_
      refine b_putI (d46 (j := 62) rfl) rfl ⟨rfl, rfl⟩ rfl rfl ?_
      exact b_vret (d46 (j := 63) rfl) rfl (k7 c1 M12 hR12 c8 M13 hR13)
    ·
      refine b_aload_n (d46 (j := 12) rfl) rfl ?_
      refine b_iconst (d46 (j := 13) rfl) (by decide) ?_
      refine b_callV (d46 (j := 14) rfl) rfl rfl (Or.inl rfl) rfl (bCk_mk (n := 0) (k := 2) (by decide +kernel) rfl rfl) ((hA14 c1 M12 hR12 c8) _ (fun M14 hR14 => ?_))
      refine b_stk [] rfl ?_
      refine b_goto (d46 (j := 15) rfl) ?_
      refine b_aload_n (d46 (j := 57) rfl) rfl ?_
      refine b_dup (d46 (j := 58) rfl) rfl ?_
      refine b_getI (d46 (j := 59) rfl) rfl rfl rfl rfl (Or.inl rfl) ?_
      refine b_stk [uI (M14 3 0), uR 4 3] rfl ?_
      refine b_iconst (d46 (j := 60) rfl) (by decide) ?_
      refine b_iadd (d46 (j := 61) rfl) rfl rfl ?_
      refine b_stk [uI ((M14 3 0) + 1), uR 4 3] (by rw [dsw_r (s8 c1 M12 hR12 c8 M14 hR14)]) ?_
      refine b_putI (d46 (j := 62) rfl) rfl ⟨rfl, rfl⟩ rfl rfl ?_
      exact b_vret (d46 (j := 63) rfl) rfl (k8 c1 M12 hR12 c8 M14 hR14)
def L47 : List (Nat × Instr × Nat × Nat) := [(0, .aload_n 1, 1, 0), (1, .aload_n 0, 2, 0), (2, .ldc 80, 4, 0), (4, .iconst 1, 5, 0), (5, .bipush 12, 7, 0), (7, .invokevirtual 82, 10, 0), (10, .putfield 86, 13, 0), (13, .aload_n 1, 14, 0), (14, .aload_n 0, 15, 0), (15, .ldc 88, 17, 0), (17, .iconst 0, 18, 0), (18, .iconst 3, 19, 0), (19, .invokevirtual 82, 22, 0), (22, .putfield 90, 25, 0), (25, .aload_n 1, 26, 0), (26, .aload_n 0, 27, 0), (27, .ldc 93, 29, 0), (29, .iconst 0, 30, 0), (30, .bipush 10, 32, 0), (32, .invokevirtual 82, 35, 0), (35, .putfield 95, 38, 0), (38, .aload_n 0, 39, 0), (39, .invokevirtual 97, 42, 0), (42, .return_, 43, 0)]
set_option maxRecDepth 100000 in
theorem L47_ok : L47.all (dck 47) = true := by decide +kernel
theorem d47 {j pc nx tg : Nat} {ins : Instr} (hj : L47[j]? = some (pc, ins, nx, tg)) : dcd 47 pc ins nx tg := dcl_ok L47_ok hj
set_option maxRecDepth 100000 in
set_option maxHeartbeats 4000000 in
theorem r47_0  {R1 : dsMem → Prop} {g1 : dsMem → Int} {R2 : dsMem → dsMem → Prop} {g2 : dsMem → dsMem → Int} {R3 : dsMem → dsMem → dsMem → Prop} {g3 : dsMem → dsMem → dsMem → Int} {R4 : dsMem → dsMem → dsMem → dsMem → Prop} {M : dsMem} {Q : bQT} (hA1 : bCt 54 [uR 6 1, uX 3, uI 1, uI 12] M (fun M1 => [uI (g1 M1)]) R1) (hA2 : ∀ M1 : dsMem, R1 M1 → bCt 54 [uR 6 1, uX 4, uI 0, uI 3] (dsSet M1 3 1 (g1 M1)) (fun M2 => [uI (g2 M1 M2)]) (R2 M1)) (hA3 : ∀ M1 : dsMem, R1 M1 → ∀ M2 : dsMem, R2 M1 M2 → bCt 54 [uR 6 1, uX 5, uI 0, uI 10] (dsSet M2 3 2 (g2 M1 M2)) (fun M3 => [uI (g3 M1 M2 M3)]) (R3 M1 M2)) (hA4 : ∀ M1 : dsMem, R1 M1 → ∀ M2 : dsMem, R2 M1 M2 → ∀ M3 : dsMem, R3 M1 M2 M3 → bCt 56 [uR 6 1] (dsSet M3 3 3 (g3 M1 M2 M3)) (fun _ => []) (R4 M1 M2 M3)) (k1 : ∀ M1 : dsMem, R1 M1 → ∀ M2 : dsMem, R2 M1 M2 → ∀ M3 : dsMem, R3 M1 M2 M3 → ∀ M4 : dsMem, R4 M1 M2 M3 M4 → Q [] M4) :
    bB 47 0 [uR 6 1, uR 4 3] [] M Q := by
  refine b_aload_n (d47 (j := 0) rfl) rfl ?_
  refine b_aload_n (d47 (j := 1) rfl) rfl ?_
  refine b_ldcS (d47 (j := 2) rfl) rfl rfl ?_
  refine b_stk [uX 3, uR 6 1, uR 4 3] rfl ?_
  refine b_iconst (d47 (j := 3) rfl) (by decide) ?_
  refine b_bipush (d47 (j := 4) rfl) (by decide) ?_
  refine b_callV (d47 (j := 5) rfl) rfl rfl (Or.inl rfl) rfl (bCk_mk (n := 1) (k := 4) (by decide +kernel) rfl rfl) ((hA1) _ (fun M1 hR1 => ?_))
  refine b_stk [uI (g1 M1), uR 4 3] rfl ?_
  refine b_putI (d47 (j := 6) rfl) rfl ⟨rfl, rfl⟩ rfl rfl ?_
  refine b_aload_n (d47 (j := 7) rfl) rfl ?_
  refine b_aload_n (d47 (j := 8) rfl) rfl ?_
  refine b_ldcS (d47 (j := 9) rfl) rfl rfl ?_
  refine b_stk [uX 4, uR 6 1, uR 4 3] rfl ?_
  refine b_iconst (d47 (j := 10) rfl) (by decide) ?_
  refine b_iconst (d47 (j := 11) rfl) (by decide) ?_
  refine b_callV (d47 (j := 12) rfl) rfl rfl (Or.inl rfl) rfl (bCk_mk (n := 1) (k := 4) (by decide +kernel) rfl rfl) ((hA2 M1 hR1) _ (fun M2 hR2 => ?_))
  refine b_stk [uI (g2 M1 M2), uR 4 3] rfl ?_
  refine b_putI (d47 (j := 13) rfl) rfl ⟨rfl, rfl⟩ rfl rfl ?_
  refine b_aload_n (d47 (j := 14) rfl) rfl ?_
  refine b_aload_n (d47 (j := 15) rfl) rfl ?_
  refine b_ldcS (d47 (j := 16) rfl) rfl rfl ?_
  refine b_stk [uX 5, uR 6 1, uR 4 3] rfl ?_
  refine b_iconst (d47 (j := 17) rfl) (by decide) ?_
  refine b_bipush (d47 (j := 18) rfl) (by decide) ?_
  refine b_callV (d47 (j := 19) rfl) rfl rfl (Or.inl rfl) rfl (bCk_mk (n := 1) (k := 4) (by decide +kernel) rfl rfl) ((hA3 M1 hR1 M2 hR2) _ (fun M3 hR3 => ?_))
  refine b_stk [uI (g3 M1 M2 M3), uR 4 3] rfl ?_
  refine b_putI (d47 (j := 20) rfl) rfl ⟨rfl, rfl⟩ rfl rfl ?_
  refine b_aload_n (d47 (j := 21) rfl) rfl ?_
  refine b_callV (d47 (j := 22) rfl) rfl rfl (Or.inl rfl) rfl (bCk_mk (n := 0) (k := 1) (by decide +kernel) rfl rfl) ((hA4 M1 hR1 M2 hR2 M3 hR3) _ (fun M4 hR4 => ?_))
  refine b_stk [] rfl ?_
  exact b_vret (d47 (j := 23) rfl) rfl (k1 M1 hR1 M2 hR2 M3 hR3 M4 hR4)
def L48 : List (Nat × Instr × Nat × Nat) := [(0, .aload_n 0, 1, 0), (1, .aload_n 1, 2, 0), (2, .getfield 100, 5, 0), (5, .iconst 3, 6, 0), (6, .if_icmp .lt 7, 9, 13), (9, .iconst 1, 10, 0), (10, .goto 4, 13, 14), (13, .iconst 0, 14, 0), (14, .invokevirtual 103, 17, 0), (17, .aload_n 0, 18, 0), (18, .ldc 107, 20, 0), (20, .iconst 0, 21, 0), (21, .sipush 300, 24, 0), (24, .invokevirtual 82, 27, 0), (27, .istore_n 2, 28, 0), (28, .aload_n 0, 29, 0), (29, .ldc 109, 31, 0), (31, .iconst 1, 32, 0), (32, .bipush 60, 34, 0), (34, .invokevirtual 82, 37, 0), (37, .istore_n 3, 38, 0), (38, .aload_n 0, 39, 0), (39, .invokevirtual 97, 42, 0), (42, .aload_n 1, 43, 0), (43, .iload_n 2, 44, 0), (44, .iload_n 3, 45, 0), (45, .invokevirtual 111, 48, 0), (48, .return_, 49, 0)]
set_option maxRecDepth 100000 in
theorem L48_ok : L48.all (dck 48) = true := by decide +kernel
theorem d48 {j pc nx tg : Nat} {ins : Instr} (hj : L48[j]? = some (pc, ins, nx, tg)) : dcd 48 pc ins nx tg := dcl_ok L48_ok hj
set_option maxRecDepth 100000 in
set_option maxHeartbeats 4000000 in
theorem r48_0  {R1 : dsMem → Prop} {R2 : dsMem → dsMem → Prop} {g2 : dsMem → dsMem → Int} {R3 : dsMem → dsMem → dsMem → Prop} {g3 : dsMem → dsMem → dsMem → Int} {R4 : dsMem → dsMem → dsMem → dsMem → Prop} {R5 : dsMem → dsMem → dsMem → dsMem → dsMem → Prop} {R6 : dsMem → Prop} {R7 : dsMem → dsMem → Prop} {g7 : dsMem → dsMem → Int} {R8 : dsMem → dsMem → dsMem → Prop} {g8 : dsMem → dsMem → dsMem → Int} {R9 : dsMem → dsMem → dsMem → dsMem → Prop} {R10 : dsMem → dsMem → dsMem → dsMem → dsMem → Prop} {M : dsMem} {Q : bQT} (hA1 : ((M 3 4) < 3) → bCt 52 [uR 6 1, uI 0] M (fun _ => []) R1) (hA2 : ((M 3 4) < 3) → ∀ M1 : dsMem, R1 M1 → bCt 54 [uR 6 1, uX 7, uI 0, uI 300] M1 (fun M2 => [uI (g2 M1 M2)]) (R2 M1)) (hA3 : ((M 3 4) < 3) → ∀ M1 : dsMem, R1 M1 → ∀ M2 : dsMem, R2 M1 M2 → bCt 54 [uR 6 1, uX 8, uI 1, uI 60] M2 (fun M3 => [uI (g3 M1 M2 M3)]) (R3 M1 M2)) (hA4 : ((M 3 4) < 3) → ∀ M1 : dsMem, R1 M1 → ∀ M2 : dsMem, R2 M1 M2 → ∀ M3 : dsMem, R3 M1 M2 M3 → bCt 56 [uR 6 1] M3 (fun _ => []) (R4 M1 M2 M3)) (hA5 : ((M 3 4) < 3) → ∀ M1 : dsMem, R1 M1 → ∀ M2 : dsMem, R2 M1 M2 → ∀ M3 : dsMem, R3 M1 M2 M3 → ∀ M4 : dsMem, R4 M1 M2 M3 M4 → bCt 66 [uR 4 3, uI (g2 M1 M2), uI (g3 M1 M2 M3)] M4 (fun _ => []) (R5 M1 M2 M3 M4)) (k1 : ((M 3 4) < 3) → ∀ M1 : dsMem, R1 M1 → ∀ M2 : dsMem, R2 M1 M2 → ∀ M3 : dsMem, R3 M1 M2 M3 → ∀ M4 : dsMem, R4 M1 M2 M3 M4 → ∀ M5 : dsMem, R5 M1 M2 M3 M4 M5 → Q [] M5) (hA6 : (¬ (M 3 4) < 3) → bCt 52 [uR 6 1, uI 1] M (fun _ => []) R6) (hA7 : (¬ (M 3 4) < 3) → ∀ M6 : dsMem, R6 M6 → bCt 54 [uR 6 1, uX 7, uI 0, uI 300] M6 (fun M7 => [uI (g7 M6 M7)]) (R7 M6)) (hA8 : (¬ (M 3 4) < 3) → ∀ M6 : dsMem, R6 M6 → ∀ M7 : dsMem, R7 M6 M7 → bCt 54 [uR 6 1, uX 8, uI 1, uI 60] M7 (fun M8 => [uI (g8 M6 M7 M8)]) (R8 M6 M7)) (hA9 : (¬ (M 3 4) < 3) → ∀ M6 : dsMem, R6 M6 → ∀ M7 : dsMem, R7 M6 M7 → ∀ M8 : dsMem, R8 M6 M7 M8 → bCt 56 [uR 6 1] M8 (fun _ => []) (R9 M6 M7 M8)) (hA10 : (¬ (M 3 4) < 3) → ∀ M6 : dsMem, R6 M6 → ∀ M7 : dsMem, R7 M6 M7 → ∀ M8 : dsMem, R8 M6 M7 M8 → ∀ M9 : dsMem, R9 M6 M7 M8 M9 → bCt 66 [uR 4 3, uI (g7 M6 M7), uI (g8 M6 M7 M8)] M9 (fun _ => []) (R10 M6 M7 M8 M9)) (k2 : (¬ (M 3 4) < 3) → ∀ M6 : dsMem, R6 M6 → ∀ M7 : dsMem, R7 M6 M7 → ∀ M8 : dsMem, R8 M6 M7 M8 → ∀ M9 : dsMem, R9 M6 M7 M8 M9 → ∀ M10 : dsMem, R10 M6 M7 M8 M9 M10 → Q [] M10) :
    bB 48 0 [uR 6 1, uR 4 3, uX 0, uX 0] [] M Q := by
  refine b_aload_n (d48 (j := 0) rfl) rfl ?_
  refine b_aload_n (d48 (j := 1) rfl) rfl ?_
  refine b_getI (d48 (j := 2) rfl) rfl rfl rfl rfl (Or.inl rfl) ?_
  refine b_stk [uI (M 3 4), uR 6 1] rfl ?_
  refine b_iconst (d48 (j := 3) rfl) (by decide) ?_
  refine b_icmp_lt (d48 (j := 4) rfl) (fun c1 => ?_) (fun c1 => ?_)
  ·
    refine b_iconst (d48 (j := 7) rfl) (by decide) ?_
    refine b_callV (d48 (j := 8) rfl) rfl rfl (Or.inl rfl) rfl (bCk_mk (n := 0) (k := 2) (by decide +kernel) rfl rfl) ((hA1 c1) _ (fun M1 hR1 => ?_))
    refine b_stk [] rfl ?_
    refine b_aload_n (d48 (j := 9) rfl) rfl ?_
    refine b_ldcS (d48 (j := 10) rfl) rfl rfl ?_
    refine b_stk [uX 7, uR 6 1] rfl ?_
    refine b_iconst (d48 (j := 11) rfl) (by decide) ?_
    refine b_sipush (d48 (j := 12) rfl) (by decide) ?_
    refine b_callV (d48 (j := 13) rfl) rfl rfl (Or.inl rfl) rfl (bCk_mk (n := 0) (k := 4) (by decide +kernel) rfl rfl) ((hA2 c1 M1 hR1) _ (fun M2 hR2 => ?_))
    refine b_stk [uI (g2 M1 M2)] rfl ?_
    refine b_istore_n [uR 6 1, uR 4 3, uI (g2 M1 M2), uX 0] (d48 (j := 14) rfl) (by decide) rfl ?_
    refine b_aload_n (d48 (j := 15) rfl) rfl ?_
    refine b_ldcS (d48 (j := 16) rfl) rfl rfl ?_
    refine b_stk [uX 8, uR 6 1] rfl ?_
    refine b_iconst (d48 (j := 17) rfl) (by decide) ?_
    refine b_bipush (d48 (j := 18) rfl) (by decide) ?_
    refine b_callV (d48 (j := 19) rfl) rfl rfl (Or.inl rfl) rfl (bCk_mk (n := 0) (k := 4) (by decide +kernel) rfl rfl) ((hA3 c1 M1 hR1 M2 hR2) _ (fun M3 hR3 => ?_))
    refine b_stk [uI (g3 M1 M2 M3)] rfl ?_
    refine b_istore_n [uR 6 1, uR 4 3, uI (g2 M1 M2), uI (g3 M1 M2 M3)] (d48 (j := 20) rfl) (by decide) rfl ?_
    refine b_aload_n (d48 (j := 21) rfl) rfl ?_
    refine b_callV (d48 (j := 22) rfl) rfl rfl (Or.inl rfl) rfl (bCk_mk (n := 0) (k := 1) (by decide +kernel) rfl rfl) ((hA4 c1 M1 hR1 M2 hR2 M3 hR3) _ (fun M4 hR4 => ?_))
    refine b_stk [] rfl ?_
    refine b_aload_n (d48 (j := 23) rfl) rfl ?_
    refine b_iload_n (d48 (j := 24) rfl) rfl ?_
    refine b_iload_n (d48 (j := 25) rfl) rfl ?_
    refine b_callV (d48 (j := 26) rfl) rfl rfl (Or.inl rfl) rfl (bCk_mk (n := 0) (k := 3) (by decide +kernel) rfl rfl) ((hA5 c1 M1 hR1 M2 hR2 M3 hR3 M4 hR4) _ (fun M5 hR5 => ?_))
    refine b_stk [] rfl ?_
    exact b_vret (d48 (j := 27) rfl) rfl (k1 c1 M1 hR1 M2 hR2 M3 hR3 M4 hR4 M5 hR5)
  ·
    refine b_iconst (d48 (j := 5) rfl) (by decide) ?_
    refine b_goto (d48 (j := 6) rfl) ?_
    refine b_callV (d48 (j := 8) rfl) rfl rfl (Or.inl rfl) rfl (bCk_mk (n := 0) (k := 2) (by decide +kernel) rfl rfl) ((hA6 c1) _ (fun M6 hR6 => ?_))
    refine b_stk [] rfl ?_
    refine b_aload_n (d48 (j := 9) rfl) rfl ?_
    refine b_ldcS (d48 (j := 10) rfl) rfl rfl ?_
    refine b_stk [uX 7, uR 6 1] rfl ?_
    refine b_iconst (d48 (j := 11) rfl) (by decide) ?_
    refine b_sipush (d48 (j := 12) rfl) (by decide) ?_
    refine b_callV (d48 (j := 13) rfl) rfl rfl (Or.inl rfl) rfl (bCk_mk (n := 0) (k := 4) (by decide +kernel) rfl rfl) ((hA7 c1 M6 hR6) _ (fun M7 hR7 => ?_))
    refine b_stk [uI (g7 M6 M7)] rfl ?_
    refine b_istore_n [uR 6 1, uR 4 3, uI (g7 M6 M7), uX 0] (d48 (j := 14) rfl) (by decide) rfl ?_
    refine b_aload_n (d48 (j := 15) rfl) rfl ?_
    refine b_ldcS (d48 (j := 16) rfl) rfl rfl ?_
    refine b_stk [uX 8, uR 6 1] rfl ?_
    refine b_iconst (d48 (j := 17) rfl) (by decide) ?_
    refine b_bipush (d48 (j := 18) rfl) (by decide) ?_
    refine b_callV (d48 (j := 19) rfl) rfl rfl (Or.inl rfl) rfl (bCk_mk (n := 0) (k := 4) (by decide +kernel) rfl rfl) ((hA8 c1 M6 hR6 M7 hR7) _ (fun M8 hR8 => ?_))
    refine b_stk [uI (g8 M6 M7 M8)] rfl ?_
    refine b_istore_n [uR 6 1, uR 4 3, uI (g7 M6 M7), uI (g8 M6 M7 M8)] (d48 (j := 20) rfl) (by decide) rfl ?_
    refine b_aload_n (d48 (j := 21) rfl) rfl ?_
    refine b_callV (d48 (j := 22) rfl) rfl rfl (Or.inl rfl) rfl (bCk_mk (n := 0) (k := 1) (by decide +kernel) rfl rfl) ((hA9 c1 M6 hR6 M7 hR7 M8 hR8) _ (fun M9 hR9 => ?_))
    refine b_stk [] rfl ?_
    refine b_aload_n (d48 (j := 23) rfl) rfl ?_
    refine b_iload_n (d48 (j := 24) rfl) rfl ?_
    refine b_iload_n (d48 (j := 25) rfl) rfl ?_
    refine b_callV (d48 (j := 26) rfl) rfl rfl (Or.inl rfl) rfl (bCk_mk (n := 0) (k := 3) (by decide +kernel) rfl rfl) ((hA10 c1 M6 hR6 M7 hR7 M8 hR8 M9 hR9) _ (fun M10 hR10 => ?_))
    refine b_stk [] rfl ?_
    exact b_vret (d48 (j := 27) rfl) rfl (k2 c1 M6 hR6 M7 hR7 M8 hR8 M9 hR9 M10 hR10)
def L49 : List (Nat × Instr × Nat × Nat) := [(0, .aload_n 0, 1, 0), (1, .aload_n 1, 2, 0), (2, .getfield 115, 5, 0), (5, .bipush 6, 7, 0), (7, .if_icmp .lt 7, 10, 14), (10, .iconst 1, 11, 0), (11, .goto 4, 14, 15), (14, .iconst 0, 15, 0), (15, .invokevirtual 103, 18, 0), (18, .aload_n 0, 19, 0), (19, .ldc 118, 21, 0), (21, .iconst 1, 22, 0), (22, .bipush 60, 24, 0), (24, .invokevirtual 82, 27, 0), (27, .istore_n 2, 28, 0), (28, .aload_n 0, 29, 0), (29, .ldc 120, 31, 0), (31, .iconst 1, 32, 0), (32, .iconst 4, 33, 0), (33, .invokevirtual 82, 36, 0), (36, .istore_n 3, 37, 0), (37, .aload_n 0, 38, 0), (38, .ldc 122, 40, 0), (40, .iconst 0, 41, 0), (41, .aload_n 1, 42, 0), (42, .getfield 100, 45, 0), (45, .iconst 1, 46, 0), (46, .isub, 47, 0), (47, .invokevirtual 82, 50, 0), (50, .istore 4, 52, 0), (52, .aload_n 0, 53, 0), (53, .invokevirtual 97, 56, 0), (56, .aload_n 1, 57, 0), (57, .iload_n 2, 58, 0), (58, .iload_n 3, 59, 0), (59, .iload 4, 61, 0), (61, .invokevirtual 124, 64, 0), (64, .return_, 65, 0)]
set_option maxRecDepth 100000 in
theorem L49_ok : L49.all (dck 49) = true := by decide +kernel
theorem d49 {j pc nx tg : Nat} {ins : Instr} (hj : L49[j]? = some (pc, ins, nx, tg)) : dcd 49 pc ins nx tg := dcl_ok L49_ok hj
set_option maxRecDepth 100000 in
set_option maxHeartbeats 4000000 in
theorem r49_0  {R1 : dsMem → Prop} {R2 : dsMem → dsMem → Prop} {g2 : dsMem → dsMem → Int} {R3 : dsMem → dsMem → dsMem → Prop} {g3 : dsMem → dsMem → dsMem → Int} {R4 : dsMem → dsMem → dsMem → dsMem → Prop} {g4 : dsMem → dsMem → dsMem → dsMem → Int} {R5 : dsMem → dsMem → dsMem → dsMem → dsMem → Prop} {R6 : dsMem → dsMem → dsMem → dsMem → dsMem → dsMem → Prop} {R7 : dsMem → Prop} {R8 : dsMem → dsMem → Prop} {g8 : dsMem → dsMem → Int} {R9 : dsMem → dsMem → dsMem → Prop} {g9 : dsMem → dsMem → dsMem → Int} {R10 : dsMem → dsMem → dsMem → dsMem → Prop} {g10 : dsMem → dsMem → dsMem → dsMem → Int} {R11 : dsMem → dsMem → dsMem → dsMem → dsMem → Prop} {R12 : dsMem → dsMem → dsMem → dsMem → dsMem → dsMem → Prop} {M : dsMem} {Q : bQT} (hA1 : ((M 3 5) < 6) → bCt 52 [uR 6 1, uI 0] M (fun _ => []) R1) (hA2 : ((M 3 5) < 6) → ∀ M1 : dsMem, R1 M1 → bCt 54 [uR 6 1, uX 10, uI 1, uI 60] M1 (fun M2 => [uI (g2 M1 M2)]) (R2 M1)) (hA3 : ((M 3 5) < 6) → ∀ M1 : dsMem, R1 M1 → ∀ M2 : dsMem, R2 M1 M2 → bCt 54 [uR 6 1, uX 11, uI 1, uI 4] M2 (fun M3 => [uI (g3 M1 M2 M3)]) (R3 M1 M2)) (s1 : ((M 3 5) < 6) → ∀ M1 : dsMem, R1 M1 → ∀ M2 : dsMem, R2 M1 M2 → ∀ M3 : dsMem, R3 M1 M2 M3 → -2147483648 ≤ ((M3 3 4) - 1) ∧ ((M3 3 4) - 1) < 2147483648 := by intros; omega) (hA4 : ((M 3 5) < 6) → ∀ M1 : dsMem, R1 M1 → ∀ M2 : dsMem, R2 M1 M2 → ∀ M3 : dsMem, R3 M1 M2 M3 → bCt 54 [uR 6 1, uX 12, uI 0, uI ((M3 3 4) - 1)] M3 (fun M4 => [uI (g4 M1 M2 M3 M4)]) (R4 M1 M2 M3)) (hA5 : ((M 3 5) < 6) → ∀ M1 : dsMem, R1 M1 → ∀ M2 : dsMem, R2 M1 M2 → ∀ M3 : dsMem, R3 M1 M2 M3 → ∀ M4 : dsMem, R4 M1 M2 M3 M4 → bCt 56 [uR 6 1] M4 (fun _ => []) (R5 M1 M2 M3 M4)) (hA6 : ((M 3 5) < 6) → ∀ M1 : dsMem, R1 M1 → ∀ M2 : dsMem, R2 M1 M2 → ∀ M3 : dsMem, R3 M1 M2 M3 → ∀ M4 : dsMem, R4 M1 M2 M3 M4 → ∀ M5 : dsMem, R5 M1 M2 M3 M4 M5 → bCt 67 [uR 4 3, uI (g2 M1 M2), uI (g3 M1 M2 M3), uI (g4 M1 M2 M3 M4)] M5 (fun _ => []) (R6 M1 M2 M3 M4 M5)) (k1 : ((M 3 5) < 6) → ∀ M1 : dsMem, R1 M1 → ∀ M2 : dsMem, R2 M1 M2 → ∀ M3 : dsMem, R3 M1 M2 M3 → ∀ M4 : dsMem, R4 M1 M2 M3 M4 → ∀ M5 : dsMem, R5 M1 M2 M3 M4 M5 → ∀ M6 : dsMem, R6 M1 M2 M3 M4 M5 M6 → Q [] M6) (hA7 : (¬ (M 3 5) < 6) → bCt 52 [uR 6 1, uI 1] M (fun _ => []) R7) (hA8 : (¬ (M 3 5) < 6) → ∀ M7 : dsMem, R7 M7 → bCt 54 [uR 6 1, uX 10, uI 1, uI 60] M7 (fun M8 => [uI (g8 M7 M8)]) (R8 M7)) (hA9 : (¬ (M 3 5) < 6) → ∀ M7 : dsMem, R7 M7 → ∀ M8 : dsMem, R8 M7 M8 → bCt 54 [uR 6 1, uX 11, uI 1, uI 4] M8 (fun M9 => [uI (g9 M7 M8 M9)]) (R9 M7 M8)) (s2 : (¬ (M 3 5) < 6) → ∀ M7 : dsMem, R7 M7 → ∀ M8 : dsMem, R8 M7 M8 → ∀ M9 : dsMem, R9 M7 M8 M9 → -2147483648 ≤ ((M9 3 4) - 1) ∧ ((M9 3 4) - 1) < 2147483648 := by intros; omega) (hA10 : (¬ (M 3 5) < 6) → ∀ M7 : dsMem, R7 M7 → ∀ M8 : dsMem, R8 M7 M8 → ∀ M9 : dsMem, R9 M7 M8 M9 → bCt 54 [uR 6 1, uX 12, uI 0, uI ((M9 3 4) - 1)] M9 (fun M10 => [uI (g10 M7 M8 M9 M10)]) (R10 M7 M8 M9)) (hA11 : (¬ (M 3 5) < 6) → ∀ M7 : dsMem, R7 M7 → ∀ M8 : dsMem, R8 M7 M8 → ∀ M9 : dsMem, R9 M7 M8 M9 → ∀ M10 : dsMem, R10 M7 M8 M9 M10 → bCt 56 [uR 6 1] M10 (fun _ => []) (R11 M7 M8 M9 M10)) (hA12 : (¬ (M 3 5) < 6) → ∀ M7 : dsMem, R7 M7 → ∀ M8 : dsMem, R8 M7 M8 → ∀ M9 : dsMem, R9 M7 M8 M9 → ∀ M10 : dsMem, R10 M7 M8 M9 M10 → ∀ M11 : dsMem, R11 M7 M8 M9 M10 M11 → bCt 67 [uR 4 3, uI (g8 M7 M8), uI (g9 M7 M8 M9), uI (g10 M7 M8 M9 M10)] M11 (fun _ => []) (R12 M7 M8 M9 M10 M11)) (k2 : (¬ (M 3 5) < 6) → ∀ M7 : dsMem, R7 M7 → ∀ M8 : dsMem, R8 M7 M8 → ∀ M9 : dsMem, R9 M7 M8 M9 → ∀ M10 : dsMem, R10 M7 M8 M9 M10 → ∀ M11 : dsMem, R11 M7 M8 M9 M10 M11 → ∀ M12 : dsMem, R12 M7 M8 M9 M10 M11 M12 → Q [] M12) :
    bB 49 0 [uR 6 1, uR 4 3, uX 0, uX 0, uX 0] [] M Q := by
  refine b_aload_n (d49 (j := 0) rfl) rfl ?_
  refine b_aload_n (d49 (j := 1) rfl) rfl ?_
  refine b_getI (d49 (j := 2) rfl) rfl rfl rfl rfl (Or.inl rfl) ?_
  refine b_stk [uI (M 3 5), uR 6 1] rfl ?_
  refine b_bipush (d49 (j := 3) rfl) (by decide) ?_
  refine b_icmp_lt (d49 (j := 4) rfl) (fun c1 => ?_) (fun c1 => ?_)
  ·
    refine b_iconst (d49 (j := 7) rfl) (by decide) ?_
    refine b_callV (d49 (j := 8) rfl) rfl rfl (Or.inl rfl) rfl (bCk_mk (n := 0) (k := 2) (by decide +kernel) rfl rfl) ((hA1 c1) _ (fun M1 hR1 => ?_))
    refine b_stk [] rfl ?_
    refine b_aload_n (d49 (j := 9) rfl) rfl ?_
    refine b_ldcS (d49 (j := 10) rfl) rfl rfl ?_
    refine b_stk [uX 10, uR 6 1] rfl ?_
    refine b_iconst (d49 (j := 11) rfl) (by decide) ?_
    refine b_bipush (d49 (j := 12) rfl) (by decide) ?_
    refine b_callV (d49 (j := 13) rfl) rfl rfl (Or.inl rfl) rfl (bCk_mk (n := 0) (k := 4) (by decide +kernel) rfl rfl) ((hA2 c1 M1 hR1) _ (fun M2 hR2 => ?_))
    refine b_stk [uI (g2 M1 M2)] rfl ?_
    refine b_istore_n [uR 6 1, uR 4 3, uI (g2 M1 M2), uX 0, uX 0] (d49 (j := 14) rfl) (by decide) rfl ?_
    refine b_aload_n (d49 (j := 15) rfl) rfl ?_
    refine b_ldcS (d49 (j := 16) rfl) rfl rfl ?_
    refine b_stk [uX 11, uR 6 1] rfl ?_
    refine b_iconst (d49 (j := 17) rfl) (by decide) ?_
    refine b_iconst (d49 (j := 18) rfl) (by decide) ?_
    refine b_callV (d49 (j := 19) rfl) rfl rfl (Or.inl rfl) rfl (bCk_mk (n := 0) (k := 4) (by decide +kernel) rfl rfl) ((hA3 c1 M1 hR1 M2 hR2) _ (fun M3 hR3 => ?_))
    refine b_stk [uI (g3 M1 M2 M3)] rfl ?_
    refine b_istore_n [uR 6 1, uR 4 3, uI (g2 M1 M2), uI (g3 M1 M2 M3), uX 0] (d49 (j := 20) rfl) (by decide) rfl ?_
    refine b_aload_n (d49 (j := 21) rfl) rfl ?_
    refine b_ldcS (d49 (j := 22) rfl) rfl rfl ?_
    refine b_stk [uX 12, uR 6 1] rfl ?_
    refine b_iconst (d49 (j := 23) rfl) (by decide) ?_
    refine b_aload_n (d49 (j := 24) rfl) rfl ?_
    refine b_getI (d49 (j := 25) rfl) rfl rfl rfl rfl (Or.inl rfl) ?_
    refine b_stk [uI (M3 3 4), uI 0, uX 12, uR 6 1] rfl ?_
    refine b_iconst (d49 (j := 26) rfl) (by decide) ?_
    refine b_isub (d49 (j := 27) rfl) rfl rfl ?_
    refine b_stk [uI ((M3 3 4) - 1), uI 0, uX 12, uR 6 1] (by rw [dsw_r (s1 c1 M1 hR1 M2 hR2 M3 hR3)]) ?_
    refine b_callV (d49 (j := 28) rfl) rfl rfl (Or.inl rfl) rfl (bCk_mk (n := 0) (k := 4) (by decide +kernel) rfl rfl) ((hA4 c1 M1 hR1 M2 hR2 M3 hR3) _ (fun M4 hR4 => ?_))
    refine b_stk [uI (g4 M1 M2 M3 M4)] rfl ?_
    refine b_istore [uR 6 1, uR 4 3, uI (g2 M1 M2), uI (g3 M1 M2 M3), uI (g4 M1 M2 M3 M4)] (d49 (j := 29) rfl) (by decide) rfl ?_
    refine b_aload_n (d49 (j := 30) rfl) rfl ?_
    refine b_callV (d49 (j := 31) rfl) rfl rfl (Or.inl rfl) rfl (bCk_mk (n := 0) (k := 1) (by decide +kernel) rfl rfl) ((hA5 c1 M1 hR1 M2 hR2 M3 hR3 M4 hR4) _ (fun M5 hR5 => ?_))
    refine b_stk [] rfl ?_
    refine b_aload_n (d49 (j := 32) rfl) rfl ?_
    refine b_iload_n (d49 (j := 33) rfl) rfl ?_
    refine b_iload_n (d49 (j := 34) rfl) rfl ?_
    refine b_iload (d49 (j := 35) rfl) rfl ?_
    refine b_callV (d49 (j := 36) rfl) rfl rfl (Or.inl rfl) rfl (bCk_mk (n := 0) (k := 4) (by decide +kernel) rfl rfl) ((hA6 c1 M1 hR1 M2 hR2 M3 hR3 M4 hR4 M5 hR5) _ (fun M6 hR6 => ?_))
    refine b_stk [] rfl ?_
    exact b_vret (d49 (j := 37) rfl) rfl (k1 c1 M1 hR1 M2 hR2 M3 hR3 M4 hR4 M5 hR5 M6 hR6)
  ·
    refine b_iconst (d49 (j := 5) rfl) (by decide) ?_
    refine b_goto (d49 (j := 6) rfl) ?_
    refine b_callV (d49 (j := 8) rfl) rfl rfl (Or.inl rfl) rfl (bCk_mk (n := 0) (k := 2) (by decide +kernel) rfl rfl) ((hA7 c1) _ (fun M7 hR7 => ?_))
    refine b_stk [] rfl ?_
    refine b_aload_n (d49 (j := 9) rfl) rfl ?_
    refine b_ldcS (d49 (j := 10) rfl) rfl rfl ?_
    refine b_stk [uX 10, uR 6 1] rfl ?_
    refine b_iconst (d49 (j := 11) rfl) (by decide) ?_
    refine b_bipush (d49 (j := 12) rfl) (by decide) ?_
    refine b_callV (d49 (j := 13) rfl) rfl rfl (Or.inl rfl) rfl (bCk_mk (n := 0) (k := 4) (by decide +kernel) rfl rfl) ((hA8 c1 M7 hR7) _ (fun M8 hR8 => ?_))
    refine b_stk [uI (g8 M7 M8)] rfl ?_
    refine b_istore_n [uR 6 1, uR 4 3, uI (g8 M7 M8), uX 0, uX 0] (d49 (j := 14) rfl) (by decide) rfl ?_
    refine b_aload_n (d49 (j := 15) rfl) rfl ?_
    refine b_ldcS (d49 (j := 16) rfl) rfl rfl ?_
    refine b_stk [uX 11, uR 6 1] rfl ?_
    refine b_iconst (d49 (j := 17) rfl) (by decide) ?_
    refine b_iconst (d49 (j := 18) rfl) (by decide) ?_
    refine b_callV (d49 (j := 19) rfl) rfl rfl (Or.inl rfl) rfl (bCk_mk (n := 0) (k := 4) (by decide +kernel) rfl rfl) ((hA9 c1 M7 hR7 M8 hR8) _ (fun M9 hR9 => ?_))
    refine b_stk [uI (g9 M7 M8 M9)] rfl ?_
    refine b_istore_n [uR 6 1, uR 4 3, uI (g8 M7 M8), uI (g9 M7 M8 M9), uX 0] (d49 (j := 20) rfl) (by decide) rfl ?_
    refine b_aload_n (d49 (j := 21) rfl) rfl ?_
    refine b_ldcS (d49 (j := 22) rfl) rfl rfl ?_
    refine b_stk [uX 12, uR 6 1] rfl ?_
    refine b_iconst (d49 (j := 23) rfl) (by decide) ?_
    refine b_aload_n (d49 (j := 24) rfl) rfl ?_
    refine b_getI (d49 (j := 25) rfl) rfl rfl rfl rfl (Or.inl rfl) ?_
    refine b_stk [uI (M9 3 4), uI 0, uX 12, uR 6 1] rfl ?_
    refine b_iconst (d49 (j := 26) rfl) (by decide) ?_
    refine b_isub (d49 (j := 27) rfl) rfl rfl ?_
    refine b_stk [uI ((M9 3 4) - 1), uI 0, uX 12, uR 6 1] (by rw [dsw_r (s2 c1 M7 hR7 M8 hR8 M9 hR9)]) ?_
    refine b_callV (d49 (j := 28) rfl) rfl rfl (Or.inl rfl) rfl (bCk_mk (n := 0) (k := 4) (by decide +kernel) rfl rfl) ((hA10 c1 M7 hR7 M8 hR8 M9 hR9) _ (fun M10 hR10 => ?_))
    refine b_stk [uI (g10 M7 M8 M9 M10)] rfl ?_
    refine b_istore [uR 6 1, uR 4 3, uI (g8 M7 M8), uI (g9 M7 M8 M9), uI (g10 M7 M8 M9 M10)] (d49 (j := 29) rfl) (by decide) rfl ?_
    refine b_aload_n (d49 (j := 30) rfl) rfl ?_
    refine b_callV (d49 (j := 31) rfl) rfl rfl (Or.inl rfl) rfl (bCk_mk (n := 0) (k := 1) (by decide +kernel) rfl rfl) ((hA11 c1 M7 hR7 M8 hR8 M9 hR9 M10 hR10) _ (fun M11 hR11 => ?_))
    refine b_stk [] rfl ?_
    refine b_aload_n (d49 (j := 32) rfl) rfl ?_
    refine b_iload_n (d49 (j := 33) rfl) rfl ?_
    refine b_iload_n (d49 (j := 34) rfl) rfl ?_
    refine b_iload (d49 (j := 35) rfl) rfl ?_
    refine b_callV (d49 (j := 36) rfl) rfl rfl (Or.inl rfl) rfl (bCk_mk (n := 0) (k := 4) (by decide +kernel) rfl rfl) ((hA12 c1 M7 hR7 M8 hR8 M9 hR9 M10 hR10 M11 hR11) _ (fun M12 hR12 => ?_))
    refine b_stk [] rfl ?_
    exact b_vret (d49 (j := 37) rfl) rfl (k2 c1 M7 hR7 M8 hR8 M9 hR9 M10 hR10 M11 hR11 M12 hR12)
def L50 : List (Nat × Instr × Nat × Nat) := [(0, .aload_n 0, 1, 0), (1, .aload_n 1, 2, 0), (2, .getfield 128, 5, 0), (5, .invokevirtual 132, 8, 0), (8, .invokevirtual 103, 11, 0), (11, .aload_n 0, 12, 0), (12, .iconst 1, 13, 0), (13, .bipush 20, 15, 0), (15, .invokevirtual 137, 18, 0), (18, .istore_n 2, 19, 0), (19, .aload_n 0, 20, 0), (20, .ldc 141, 22, 0), (22, .iconst 1, 23, 0), (23, .iconst 5, 24, 0), (24, .invokevirtual 82, 27, 0), (27, .istore_n 3, 28, 0), (28, .aload_n 0, 29, 0), (29, .ldc 143, 31, 0), (31, .iconst 0, 32, 0), (32, .bipush 11, 34, 0), (34, .invokevirtual 82, 37, 0), (37, .istore 4, 39, 0), (39, .aload_n 0, 40, 0), (40, .invokevirtual 97, 43, 0), (43, .aload_n 1, 44, 0), (44, .getfield 128, 47, 0), (47, .iconst 0, 48, 0), (48, .iload_n 3, 49, 0), (49, .iload_n 2, 50, 0), (50, .iload 4, 52, 0), (52, .invokevirtual 145, 55, 0), (55, .return_, 56, 0)]
set_option maxRecDepth 100000 in
theorem L50_ok : L50.all (dck 50) = true := by decide +kernel
theorem d50 {j pc nx tg : Nat} {ins : Instr} (hj : L50[j]? = some (pc, ins, nx, tg)) : dcd 50 pc ins nx tg := dcl_ok L50_ok hj
set_option maxRecDepth 100000 in
set_option maxHeartbeats 4000000 in
theorem r50_0  {R1 : dsMem → Prop} {R2 : dsMem → dsMem → Prop} {g2 : dsMem → dsMem → Int} {R3 : dsMem → dsMem → dsMem → Prop} {g3 : dsMem → dsMem → dsMem → Int} {R4 : dsMem → dsMem → dsMem → dsMem → Prop} {g4 : dsMem → dsMem → dsMem → dsMem → Int} {R5 : dsMem → dsMem → dsMem → dsMem → dsMem → Prop} {R6 : dsMem → dsMem → dsMem → dsMem → dsMem → dsMem → Prop} {M : dsMem} {Q : bQT} (hA1 : bCt 52 [uR 6 1, uI (if (¬ ((M 9 0) < 8)) then 1 else 0)] M (fun _ => []) R1) (hA2 : ∀ M1 : dsMem, R1 M1 → bCt 55 [uR 6 1, uI 1, uI 20, uX 0, uX 0] M1 (fun M2 => [uI (g2 M1 M2)]) (R2 M1)) (hA3 : ∀ M1 : dsMem, R1 M1 → ∀ M2 : dsMem, R2 M1 M2 → bCt 54 [uR 6 1, uX 14, uI 1, uI 5] M2 (fun M3 => [uI (g3 M1 M2 M3)]) (R3 M1 M2)) (hA4 : ∀ M1 : dsMem, R1 M1 → ∀ M2 : dsMem, R2 M1 M2 → ∀ M3 : dsMem, R3 M1 M2 M3 → bCt 54 [uR 6 1, uX 15, uI 0, uI 11] M3 (fun M4 => [uI (g4 M1 M2 M3 M4)]) (R4 M1 M2 M3)) (hA5 : ∀ M1 : dsMem, R1 M1 → ∀ M2 : dsMem, R2 M1 M2 → ∀ M3 : dsMem, R3 M1 M2 M3 → ∀ M4 : dsMem, R4 M1 M2 M3 M4 → bCt 56 [uR 6 1] M4 (fun _ => []) (R5 M1 M2 M3 M4)) (hA6 : ∀ M1 : dsMem, R1 M1 → ∀ M2 : dsMem, R2 M1 M2 → ∀ M3 : dsMem, R3 M1 M2 M3 → ∀ M4 : dsMem, R4 M1 M2 M3 M4 → ∀ M5 : dsMem, R5 M1 M2 M3 M4 M5 → bCt 4 [uR 1 9, uI 0, uI (g3 M1 M2 M3), uI (g2 M1 M2), uI (g4 M1 M2 M3 M4)] M5 (fun _ => []) (R6 M1 M2 M3 M4 M5)) (k1 : ∀ M1 : dsMem, R1 M1 → ∀ M2 : dsMem, R2 M1 M2 → ∀ M3 : dsMem, R3 M1 M2 M3 → ∀ M4 : dsMem, R4 M1 M2 M3 M4 → ∀ M5 : dsMem, R5 M1 M2 M3 M4 M5 → ∀ M6 : dsMem, R6 M1 M2 M3 M4 M5 M6 → Q [] M6) :
    bB 50 0 [uR 6 1, uR 4 3, uX 0, uX 0, uX 0] [] M Q := by
  refine b_aload_n (d50 (j := 0) rfl) rfl ?_
  refine b_aload_n (d50 (j := 1) rfl) rfl ?_
  refine b_getR (d50 (j := 2) rfl) rfl rfl rfl rfl ?_
  refine b_stk [uR 1 9, uR 6 1] rfl ?_
  refine b_callV (d50 (j := 3) rfl) rfl rfl (Or.inl rfl) rfl (bCk_mk (n := 1) (k := 1) (by decide +kernel) rfl rfl) (fx3a  ?_)
  refine b_stk [uI (if (¬ ((M 9 0) < 8)) then 1 else 0), uR 6 1] rfl ?_
  refine b_callV (d50 (j := 4) rfl) rfl rfl (Or.inl rfl) rfl (bCk_mk (n := 0) (k := 2) (by decide +kernel) rfl rfl) ((hA1) _ (fun M1 hR1 => ?_))
  refine b_stk [] rfl ?_
  refine b_aload_n (d50 (j := 5) rfl) rfl ?_
  refine b_iconst (d50 (j := 6) rfl) (by decide) ?_
  refine b_bipush (d50 (j := 7) rfl) (by decide) ?_
  refine b_callV (d50 (j := 8) rfl) rfl rfl (Or.inl rfl) rfl (bCk_mk (n := 0) (k := 3) (by decide +kernel) rfl rfl) ((hA2 M1 hR1) _ (fun M2 hR2 => ?_))
  refine b_stk [uI (g2 M1 M2)] rfl ?_
  refine b_istore_n [uR 6 1, uR 4 3, uI (g2 M1 M2), uX 0, uX 0] (d50 (j := 9) rfl) (by decide) rfl ?_
  refine b_aload_n (d50 (j := 10) rfl) rfl ?_
  refine b_ldcS (d50 (j := 11) rfl) rfl rfl ?_
  refine b_stk [uX 14, uR 6 1] rfl ?_
  refine b_iconst (d50 (j := 12) rfl) (by decide) ?_
  refine b_iconst (d50 (j := 13) rfl) (by decide) ?_
  refine b_callV (d50 (j := 14) rfl) rfl rfl (Or.inl rfl) rfl (bCk_mk (n := 0) (k := 4) (by decide +kernel) rfl rfl) ((hA3 M1 hR1 M2 hR2) _ (fun M3 hR3 => ?_))
  refine b_stk [uI (g3 M1 M2 M3)] rfl ?_
  refine b_istore_n [uR 6 1, uR 4 3, uI (g2 M1 M2), uI (g3 M1 M2 M3), uX 0] (d50 (j := 15) rfl) (by decide) rfl ?_
  refine b_aload_n (d50 (j := 16) rfl) rfl ?_
  refine b_ldcS (d50 (j := 17) rfl) rfl rfl ?_
  refine b_stk [uX 15, uR 6 1] rfl ?_
  refine b_iconst (d50 (j := 18) rfl) (by decide) ?_
  refine b_bipush (d50 (j := 19) rfl) (by decide) ?_
  refine b_callV (d50 (j := 20) rfl) rfl rfl (Or.inl rfl) rfl (bCk_mk (n := 0) (k := 4) (by decide +kernel) rfl rfl) ((hA4 M1 hR1 M2 hR2 M3 hR3) _ (fun M4 hR4 => ?_))
  refine b_stk [uI (g4 M1 M2 M3 M4)] rfl ?_
  refine b_istore [uR 6 1, uR 4 3, uI (g2 M1 M2), uI (g3 M1 M2 M3), uI (g4 M1 M2 M3 M4)] (d50 (j := 21) rfl) (by decide) rfl ?_
  refine b_aload_n (d50 (j := 22) rfl) rfl ?_
  refine b_callV (d50 (j := 23) rfl) rfl rfl (Or.inl rfl) rfl (bCk_mk (n := 0) (k := 1) (by decide +kernel) rfl rfl) ((hA5 M1 hR1 M2 hR2 M3 hR3 M4 hR4) _ (fun M5 hR5 => ?_))
  refine b_stk [] rfl ?_
  refine b_aload_n (d50 (j := 24) rfl) rfl ?_
  refine b_getR (d50 (j := 25) rfl) rfl rfl rfl rfl ?_
  refine b_stk [uR 1 9] rfl ?_
  refine b_iconst (d50 (j := 26) rfl) (by decide) ?_
  refine b_iload_n (d50 (j := 27) rfl) rfl ?_
  refine b_iload_n (d50 (j := 28) rfl) rfl ?_
  refine b_iload (d50 (j := 29) rfl) rfl ?_
  refine b_callV (d50 (j := 30) rfl) rfl rfl (Or.inl rfl) rfl (bCk_mk (n := 0) (k := 5) (by decide +kernel) rfl rfl) ((hA6 M1 hR1 M2 hR2 M3 hR3 M4 hR4 M5 hR5) _ (fun M6 hR6 => ?_))
  refine b_stk [] rfl ?_
  exact b_vret (d50 (j := 31) rfl) rfl (k1 M1 hR1 M2 hR2 M3 hR3 M4 hR4 M5 hR5 M6 hR6)
def L51 : List (Nat × Instr × Nat × Nat) := [(0, .aload_n 0, 1, 0), (1, .aload_n 1, 2, 0), (2, .getfield 149, 5, 0), (5, .invokevirtual 132, 8, 0), (8, .invokevirtual 103, 11, 0), (11, .aload_n 0, 12, 0), (12, .iconst 0, 13, 0), (13, .aload_n 1, 14, 0), (14, .getfield 115, 17, 0), (17, .iconst 1, 18, 0), (18, .isub, 19, 0), (19, .invokevirtual 137, 22, 0), (22, .istore_n 2, 23, 0), (23, .aload_n 0, 24, 0), (24, .iconst 1, 25, 0), (25, .bipush 60, 27, 0), (27, .invokevirtual 137, 30, 0), (30, .istore_n 3, 31, 0), (31, .aload_n 0, 32, 0), (32, .ldc 143, 34, 0), (34, .iconst 0, 35, 0), (35, .bipush 11, 37, 0), (37, .invokevirtual 82, 40, 0), (40, .istore 4, 42, 0), (42, .aload_n 0, 43, 0), (43, .invokevirtual 97, 46, 0), (46, .aload_n 1, 47, 0), (47, .getfield 149, 50, 0), (50, .iconst 1, 51, 0), (51, .iload_n 2, 52, 0), (52, .iload_n 3, 53, 0), (53, .iload 4, 55, 0), (55, .invokevirtual 145, 58, 0), (58, .return_, 59, 0)]
set_option maxRecDepth 100000 in
theorem L51_ok : L51.all (dck 51) = true := by decide +kernel
theorem d51 {j pc nx tg : Nat} {ins : Instr} (hj : L51[j]? = some (pc, ins, nx, tg)) : dcd 51 pc ins nx tg := dcl_ok L51_ok hj
set_option maxRecDepth 100000 in
set_option maxHeartbeats 4000000 in
theorem r51_0  {R1 : dsMem → Prop} {R2 : dsMem → dsMem → Prop} {g2 : dsMem → dsMem → Int} {R3 : dsMem → dsMem → dsMem → Prop} {g3 : dsMem → dsMem → dsMem → Int} {R4 : dsMem → dsMem → dsMem → dsMem → Prop} {g4 : dsMem → dsMem → dsMem → dsMem → Int} {R5 : dsMem → dsMem → dsMem → dsMem → dsMem → Prop} {R6 : dsMem → dsMem → dsMem → dsMem → dsMem → dsMem → Prop} {M : dsMem} {Q : bQT} (hA1 : bCt 52 [uR 6 1, uI (if (¬ ((M 14 0) < 6)) then 1 else 0)] M (fun _ => []) R1) (s1 : ∀ M1 : dsMem, R1 M1 → -2147483648 ≤ ((M1 3 5) - 1) ∧ ((M1 3 5) - 1) < 2147483648 := by intros; omega) (hA2 : ∀ M1 : dsMem, R1 M1 → bCt 55 [uR 6 1, uI 0, uI ((M1 3 5) - 1), uX 0, uX 0] M1 (fun M2 => [uI (g2 M1 M2)]) (R2 M1)) (hA3 : ∀ M1 : dsMem, R1 M1 → ∀ M2 : dsMem, R2 M1 M2 → bCt 55 [uR 6 1, uI 1, uI 60, uX 0, uX 0] M2 (fun M3 => [uI (g3 M1 M2 M3)]) (R3 M1 M2)) (hA4 : ∀ M1 : dsMem, R1 M1 → ∀ M2 : dsMem, R2 M1 M2 → ∀ M3 : dsMem, R3 M1 M2 M3 → bCt 54 [uR 6 1, uX 15, uI 0, uI 11] M3 (fun M4 => [uI (g4 M1 M2 M3 M4)]) (R4 M1 M2 M3)) (hA5 : ∀ M1 : dsMem, R1 M1 → ∀ M2 : dsMem, R2 M1 M2 → ∀ M3 : dsMem, R3 M1 M2 M3 → ∀ M4 : dsMem, R4 M1 M2 M3 M4 → bCt 56 [uR 6 1] M4 (fun _ => []) (R5 M1 M2 M3 M4)) (hA6 : ∀ M1 : dsMem, R1 M1 → ∀ M2 : dsMem, R2 M1 M2 → ∀ M3 : dsMem, R3 M1 M2 M3 → ∀ M4 : dsMem, R4 M1 M2 M3 M4 → ∀ M5 : dsMem, R5 M1 M2 M3 M4 M5 → bCt 4 [uR 2 14, uI 1, uI (g2 M1 M2), uI (g3 M1 M2 M3), uI (g4 M1 M2 M3 M4)] M5 (fun _ => []) (R6 M1 M2 M3 M4 M5)) (k1 : ∀ M1 : dsMem, R1 M1 → ∀ M2 : dsMem, R2 M1 M2 → ∀ M3 : dsMem, R3 M1 M2 M3 → ∀ M4 : dsMem, R4 M1 M2 M3 M4 → ∀ M5 : dsMem, R5 M1 M2 M3 M4 M5 → ∀ M6 : dsMem, R6 M1 M2 M3 M4 M5 M6 → Q [] M6) :
    bB 51 0 [uR 6 1, uR 4 3, uX 0, uX 0, uX 0] [] M Q := by
  refine b_aload_n (d51 (j := 0) rfl) rfl ?_
  refine b_aload_n (d51 (j := 1) rfl) rfl ?_
  refine b_getR (d51 (j := 2) rfl) rfl rfl rfl rfl ?_
  refine b_stk [uR 2 14, uR 6 1] rfl ?_
  refine b_callV (d51 (j := 3) rfl) rfl rfl (Or.inl rfl) rfl (bCk_mk (n := 1) (k := 1) (by decide +kernel) rfl rfl) (fx3b  ?_)
  refine b_stk [uI (if (¬ ((M 14 0) < 6)) then 1 else 0), uR 6 1] rfl ?_
  refine b_callV (d51 (j := 4) rfl) rfl rfl (Or.inl rfl) rfl (bCk_mk (n := 0) (k := 2) (by decide +kernel) rfl rfl) ((hA1) _ (fun M1 hR1 => ?_))
  refine b_stk [] rfl ?_
  refine b_aload_n (d51 (j := 5) rfl) rfl ?_
  refine b_iconst (d51 (j := 6) rfl) (by decide) ?_
  refine b_aload_n (d51 (j := 7) rfl) rfl ?_
  refine b_getI (d51 (j := 8) rfl) rfl rfl rfl rfl (Or.inl rfl) ?_
  refine b_stk [uI (M1 3 5), uI 0, uR 6 1] rfl ?_
  refine b_iconst (d51 (j := 9) rfl) (by decide) ?_
  refine b_isub (d51 (j := 10) rfl) rfl rfl ?_
  refine b_stk [uI ((M1 3 5) - 1), uI 0, uR 6 1] (by rw [dsw_r (s1 M1 hR1)]) ?_
  refine b_callV (d51 (j := 11) rfl) rfl rfl (Or.inl rfl) rfl (bCk_mk (n := 0) (k := 3) (by decide +kernel) rfl rfl) ((hA2 M1 hR1) _ (fun M2 hR2 => ?_))
  refine b_stk [uI (g2 M1 M2)] rfl ?_
  refine b_istore_n [uR 6 1, uR 4 3, uI (g2 M1 M2), uX 0, uX 0] (d51 (j := 12) rfl) (by decide) rfl ?_
  refine b_aload_n (d51 (j := 13) rfl) rfl ?_
  refine b_iconst (d51 (j := 14) rfl) (by decide) ?_
  refine b_bipush (d51 (j := 15) rfl) (by decide) ?_
  refine b_callV (d51 (j := 16) rfl) rfl rfl (Or.inl rfl) rfl (bCk_mk (n := 0) (k := 3) (by decide +kernel) rfl rfl) ((hA3 M1 hR1 M2 hR2) _ (fun M3 hR3 => ?_))
  refine b_stk [uI (g3 M1 M2 M3)] rfl ?_
  refine b_istore_n [uR 6 1, uR 4 3, uI (g2 M1 M2), uI (g3 M1 M2 M3), uX 0] (d51 (j := 17) rfl) (by decide) rfl ?_
  refine b_aload_n (d51 (j := 18) rfl) rfl ?_
  refine b_ldcS (d51 (j := 19) rfl) rfl rfl ?_
  refine b_stk [uX 15, uR 6 1] rfl ?_
  refine b_iconst (d51 (j := 20) rfl) (by decide) ?_
  refine b_bipush (d51 (j := 21) rfl) (by decide) ?_
  refine b_callV (d51 (j := 22) rfl) rfl rfl (Or.inl rfl) rfl (bCk_mk (n := 0) (k := 4) (by decide +kernel) rfl rfl) ((hA4 M1 hR1 M2 hR2 M3 hR3) _ (fun M4 hR4 => ?_))
  refine b_stk [uI (g4 M1 M2 M3 M4)] rfl ?_
  refine b_istore [uR 6 1, uR 4 3, uI (g2 M1 M2), uI (g3 M1 M2 M3), uI (g4 M1 M2 M3 M4)] (d51 (j := 23) rfl) (by decide) rfl ?_
  refine b_aload_n (d51 (j := 24) rfl) rfl ?_
  refine b_callV (d51 (j := 25) rfl) rfl rfl (Or.inl rfl) rfl (bCk_mk (n := 0) (k := 1) (by decide +kernel) rfl rfl) ((hA5 M1 hR1 M2 hR2 M3 hR3 M4 hR4) _ (fun M5 hR5 => ?_))
  refine b_stk [] rfl ?_
  refine b_aload_n (d51 (j := 26) rfl) rfl ?_
  refine b_getR (d51 (j := 27) rfl) rfl rfl rfl rfl ?_
  refine b_stk [uR 2 14] rfl ?_
  refine b_iconst (d51 (j := 28) rfl) (by decide) ?_
  refine b_iload_n (d51 (j := 29) rfl) rfl ?_
  refine b_iload_n (d51 (j := 30) rfl) rfl ?_
  refine b_iload (d51 (j := 31) rfl) rfl ?_
  refine b_callV (d51 (j := 32) rfl) rfl rfl (Or.inl rfl) rfl (bCk_mk (n := 0) (k := 5) (by decide +kernel) rfl rfl) ((hA6 M1 hR1 M2 hR2 M3 hR3 M4 hR4 M5 hR5) _ (fun M6 hR6 => ?_))
  refine b_stk [] rfl ?_
  exact b_vret (d51 (j := 33) rfl) rfl (k1 M1 hR1 M2 hR2 M3 hR3 M4 hR4 M5 hR5 M6 hR6)
def L52 : List (Nat × Instr × Nat × Nat) := [(0, .iload_n 1, 1, 0), (1, .ifCond .eq 8, 4, 9), (4, .aload_n 0, 5, 0), (5, .iconst 3, 6, 0), (6, .invokevirtual 53, 9, 0), (9, .return_, 10, 0)]
set_option maxRecDepth 100000 in
theorem L52_ok : L52.all (dck 52) = true := by decide +kernel
theorem d52 {j pc nx tg : Nat} {ins : Instr} (hj : L52[j]? = some (pc, ins, nx, tg)) : dcd 52 pc ins nx tg := dcl_ok L52_ok hj
set_option maxRecDepth 100000 in
set_option maxHeartbeats 4000000 in
theorem r52_0 {x1 : Int} {R1 : dsMem → Prop} {M : dsMem} {Q : bQT} (k1 : (x1 = 0) → Q [] M) (hA1 : (¬ x1 = 0) → bCt 53 [uR 6 1, uI 3] M (fun _ => []) R1) (k2 : (¬ x1 = 0) → ∀ M1 : dsMem, R1 M1 → Q [] M1) :
    bB 52 0 [uR 6 1, uI x1] [] M Q := by
  refine b_iload_n (d52 (j := 0) rfl) rfl ?_
  refine b_if_eq (d52 (j := 1) rfl) (fun c1 => ?_) (fun c1 => ?_)
  ·
    exact b_vret (d52 (j := 5) rfl) rfl (k1 c1)
  ·
    refine b_aload_n (d52 (j := 2) rfl) rfl ?_
    refine b_iconst (d52 (j := 3) rfl) (by decide) ?_
    refine b_callV (d52 (j := 4) rfl) rfl rfl (Or.inl rfl) rfl (bCk_mk (n := 0) (k := 2) (by decide +kernel) rfl rfl) ((hA1 c1) _ (fun M1 hR1 => ?_))
    refine b_stk [] rfl ?_
    exact b_vret (d52 (j := 5) rfl) rfl (k2 c1 M1 hR1)
def L53 : List (Nat × Instr × Nat × Nat) := [(0, .aload_n 0, 1, 0), (1, .iload_n 1, 2, 0), (2, .putfield 15, 5, 0), (5, .aload_n 0, 6, 0), (6, .aload_n 0, 7, 0), (7, .getfield 25, 10, 0), (10, .putfield 18, 13, 0), (13, .return_, 14, 0)]
set_option maxRecDepth 100000 in
theorem L53_ok : L53.all (dck 53) = true := by decide +kernel
theorem d53 {j pc nx tg : Nat} {ins : Instr} (hj : L53[j]? = some (pc, ins, nx, tg)) : dcd 53 pc ins nx tg := dcl_ok L53_ok hj
set_option maxRecDepth 100000 in
set_option maxHeartbeats 4000000 in
theorem r53_0 {x1 : Int}  {M : dsMem} {Q : bQT} (k1 : Q [] (dsSet (dsSet M 1 1 x1) 1 2 (M 1 4))) :
    bB 53 0 [uR 6 1, uI x1] [] M Q := by
  refine b_aload_n (d53 (j := 0) rfl) rfl ?_
  refine b_iload_n (d53 (j := 1) rfl) rfl ?_
  refine b_putI (d53 (j := 2) rfl) rfl ⟨rfl, rfl⟩ rfl rfl ?_
  refine b_aload_n (d53 (j := 3) rfl) rfl ?_
  refine b_aload_n (d53 (j := 4) rfl) rfl ?_
  refine b_getI (d53 (j := 5) rfl) rfl rfl rfl rfl (Or.inl rfl) ?_
  refine b_stk [uI (M 1 4), uR 6 1] (by rw [ds_get_ni (by omega)] <;> rfl) ?_
  refine b_putI (d53 (j := 6) rfl) rfl ⟨rfl, rfl⟩ rfl rfl ?_
  exact b_vret (d53 (j := 7) rfl) rfl k1
def L54 : List (Nat × Instr × Nat × Nat) := [(0, .aload_n 0, 1, 0), (1, .getfield 15, 4, 0), (4, .ifCond .ne 21, 7, 25), (7, .aload_n 0, 8, 0), (8, .invokevirtual 36, 11, 0), (11, .pop, 12, 0), (12, .aload_n 0, 13, 0), (13, .aload_n 1, 14, 0), (14, .invokevirtual 49, 17, 0), (17, .ifCond .ne 8, 20, 25), (20, .aload_n 0, 21, 0), (21, .iconst 1, 22, 0), (22, .invokevirtual 53, 25, 0), (25, .aload_n 0, 26, 0), (26, .iload_n 2, 27, 0), (27, .iload_n 3, 28, 0), (28, .invokevirtual 137, 31, 0), (31, .ireturn, 32, 0)]
set_option maxRecDepth 100000 in
theorem L54_ok : L54.all (dck 54) = true := by decide +kernel
theorem d54 {j pc nx tg : Nat} {ins : Instr} (hj : L54[j]? = some (pc, ins, nx, tg)) : dcd 54 pc ins nx tg := dcl_ok L54_ok hj
set_option maxRecDepth 100000 in
set_option maxHeartbeats 4000000 in
theorem r54_0 {x2 x3 : Int} {x1 : Nat} {R1 : dsMem → Prop} {g1 : dsMem → Int} {R2 : dsMem → Prop} {g2 : dsMem → Int} {R3 : dsMem → dsMem → Prop} {g3 : dsMem → dsMem → Int} {R4 : dsMem → dsMem → dsMem → Prop} {g4 : dsMem → dsMem → dsMem → Int} {R5 : dsMem → dsMem → dsMem → Prop} {R6 : dsMem → dsMem → dsMem → dsMem → Prop} {g6 : dsMem → dsMem → dsMem → dsMem → Int} {M : dsMem} {Q : bQT} (hA1 : (¬ (M 1 1) = 0) → bCt 55 [uR 6 1, uI x2, uI x3, uX 0, uX 0] M (fun M1 => [uI (g1 M1)]) R1) (k1 : (¬ (M 1 1) = 0) → ∀ M1 : dsMem, R1 M1 → Q [uI (g1 M1)] M1) (hA2 : ((M 1 1) = 0) → bCt 57 [uR 6 1, uX 0] M (fun M2 => [uI (g2 M2)]) R2) (hA3 : ((M 1 1) = 0) → ∀ M2 : dsMem, R2 M2 → bCt 59 [uR 6 1, uX (x1 + 2), uX 0] M2 (fun M3 => [uI (g3 M2 M3)]) (R3 M2)) (hA4 : ((M 1 1) = 0) → ∀ M2 : dsMem, R2 M2 → ∀ M3 : dsMem, R3 M2 M3 → (¬ (g3 M2 M3) = 0) → bCt 55 [uR 6 1, uI x2, uI x3, uX 0, uX 0] M3 (fun M4 => [uI (g4 M2 M3 M4)]) (R4 M2 M3)) (k2 : ((M 1 1) = 0) → ∀ M2 : dsMem, R2 M2 → ∀ M3 : dsMem, R3 M2 M3 → (¬ (g3 M2 M3) = 0) → ∀ M4 : dsMem, R4 M2 M3 M4 → Q [uI (g4 M2 M3 M4)] M4) (hA5 : ((M 1 1) = 0) → ∀ M2 : dsMem, R2 M2 → ∀ M3 : dsMem, R3 M2 M3 → ((g3 M2 M3) = 0) → bCt 53 [uR 6 1, uI 1] M3 (fun _ => []) (R5 M2 M3)) (hA6 : ((M 1 1) = 0) → ∀ M2 : dsMem, R2 M2 → ∀ M3 : dsMem, R3 M2 M3 → ((g3 M2 M3) = 0) → ∀ M5 : dsMem, R5 M2 M3 M5 → bCt 55 [uR 6 1, uI x2, uI x3, uX 0, uX 0] M5 (fun M6 => [uI (g6 M2 M3 M5 M6)]) (R6 M2 M3 M5)) (k3 : ((M 1 1) = 0) → ∀ M2 : dsMem, R2 M2 → ∀ M3 : dsMem, R3 M2 M3 → ((g3 M2 M3) = 0) → ∀ M5 : dsMem, R5 M2 M3 M5 → ∀ M6 : dsMem, R6 M2 M3 M5 M6 → Q [uI (g6 M2 M3 M5 M6)] M6) :
    bB 54 0 [uR 6 1, uX (x1 + 2), uI x2, uI x3] [] M Q := by
  refine b_aload_n (d54 (j := 0) rfl) rfl ?_
  refine b_getI (d54 (j := 1) rfl) rfl rfl rfl rfl (Or.inl rfl) ?_
  refine b_stk [uI (M 1 1)] rfl ?_
  refine b_if_ne (d54 (j := 2) rfl) (fun c1 => ?_) (fun c1 => ?_)
  ·
    refine b_aload_n (d54 (j := 13) rfl) rfl ?_
    refine b_iload_n (d54 (j := 14) rfl) rfl ?_
    refine b_iload_n (d54 (j := 15) rfl) rfl ?_
    refine b_callV (d54 (j := 16) rfl) rfl rfl (Or.inl rfl) rfl (bCk_mk (n := 0) (k := 3) (by decide +kernel) rfl rfl) ((hA1 c1) _ (fun M1 hR1 => ?_))
    refine b_stk [uI (g1 M1)] rfl ?_
    exact b_iret (d54 (j := 17) rfl) rfl (k1 c1 M1 hR1)
  ·
    refine b_aload_n (d54 (j := 3) rfl) rfl ?_
    refine b_callV (d54 (j := 4) rfl) rfl rfl (Or.inl rfl) rfl (bCk_mk (n := 0) (k := 1) (by decide +kernel) rfl rfl) ((hA2 c1) _ (fun M2 hR2 => ?_))
    refine b_stk [uI (g2 M2)] rfl ?_
    refine b_pop (d54 (j := 5) rfl) rfl ?_
    refine b_aload_n (d54 (j := 6) rfl) rfl ?_
    refine b_aload_nX (d54 (j := 7) rfl) rfl ?_
    refine b_callV (d54 (j := 8) rfl) rfl rfl (Or.inl rfl) rfl (bCk_mk (n := 0) (k := 2) (by decide +kernel) rfl rfl) ((hA3 c1 M2 hR2) _ (fun M3 hR3 => ?_))
    refine b_stk [uI (g3 M2 M3)] rfl ?_
    refine b_if_ne (d54 (j := 9) rfl) (fun c2 => ?_) (fun c2 => ?_)
    ·
      refine b_aload_n (d54 (j := 13) rfl) rfl ?_
      refine b_iload_n (d54 (j := 14) rfl) rfl ?_
      refine b_iload_n (d54 (j := 15) rfl) rfl ?_
      refine b_callV (d54 (j := 16) rfl) rfl rfl (Or.inl rfl) rfl (bCk_mk (n := 0) (k := 3) (by decide +kernel) rfl rfl) ((hA4 c1 M2 hR2 M3 hR3 c2) _ (fun M4 hR4 => ?_))
      refine b_stk [uI (g4 M2 M3 M4)] rfl ?_
      exact b_iret (d54 (j := 17) rfl) rfl (k2 c1 M2 hR2 M3 hR3 c2 M4 hR4)
    ·
      refine b_aload_n (d54 (j := 10) rfl) rfl ?_
      refine b_iconst (d54 (j := 11) rfl) (by decide) ?_
      refine b_callV (d54 (j := 12) rfl) rfl rfl (Or.inl rfl) rfl (bCk_mk (n := 0) (k := 2) (by decide +kernel) rfl rfl) ((hA5 c1 M2 hR2 M3 hR3 c2) _ (fun M5 hR5 => ?_))
      refine b_stk [] rfl ?_
      refine b_aload_n (d54 (j := 13) rfl) rfl ?_
      refine b_iload_n (d54 (j := 14) rfl) rfl ?_
      refine b_iload_n (d54 (j := 15) rfl) rfl ?_
      refine b_callV (d54 (j := 16) rfl) rfl rfl (Or.inl rfl) rfl (bCk_mk (n := 0) (k := 3) (by decide +kernel) rfl rfl) ((hA6 c1 M2 hR2 M3 hR3 c2 M5 hR5) _ (fun M6 hR6 => ?_))
      refine b_stk [uI (g6 M2 M3 M5 M6)] rfl ?_
      exact b_iret (d54 (j := 17) rfl) rfl (k3 c1 M2 hR2 M3 hR3 c2 M5 hR5 M6 hR6)
def L55 : List (Nat × Instr × Nat × Nat) := [(0, .aload_n 0, 1, 0), (1, .getfield 15, 4, 0), (4, .ifCond .eq 5, 7, 9), (7, .iconst 0, 8, 0), (8, .ireturn, 9, 0), (9, .aload_n 0, 10, 0), (10, .invokevirtual 36, 13, 0), (13, .pop, 14, 0), (14, .aload_n 0, 15, 0), (15, .aload_n 0, 16, 0), (16, .getfield 25, 19, 0), (19, .invokevirtual 152, 22, 0), (22, .iconst 2, 23, 0), (23, .if_icmp .eq 10, 26, 33), (26, .aload_n 0, 27, 0), (27, .iconst 1, 28, 0), (28, .invokevirtual 53, 31, 0), (31, .iconst 0, 32, 0), (32, .ireturn, 33, 0), (33, .iconst 0, 34, 0), (34, .istore_n 3, 35, 0), (35, .aload_n 0, 36, 0), (36, .getfield 25, 39, 0), (39, .istore 4, 41, 0), (41, .iload 4, 43, 0), (43, .aload_n 0, 44, 0), (44, .getfield 28, 47, 0), (47, .if_icmp .ge 30, 50, 77), (50, .ldc 156, 52, 0), (52, .iload_n 3, 53, 0), (53, .bipush 10, 55, 0), (55, .imul, 56, 0), (56, .aload_n 0, 57, 0), (57, .getfield 21, 60, 0), (60, .iload 4, 62, 0), (62, .baload, 63, 0), (63, .iadd, 64, 0), (64, .bipush 48, 66, 0), (66, .isub, 67, 0), (67, .invokestatic 157, 70, 0), (70, .istore_n 3, 71, 0), (71, .iinc 4 1, 74, 0), (74, .goto (-33), 77, 41), (77, .iload_n 3, 78, 0), (78, .iload_n 1, 79, 0), (79, .if_icmp .lt 8, 82, 87), (82, .iload_n 3, 83, 0), (83, .iload_n 2, 84, 0), (84, .if_icmp .le 8, 87, 92), (87, .aload_n 0, 88, 0), (88, .iconst 2, 89, 0), (89, .invokevirtual 53, 92, 0), (92, .iload_n 3, 93, 0), (93, .ireturn, 94, 0)]
set_option maxRecDepth 100000 in
theorem L55_ok : L55.all (dck 55) = true := by decide +kernel
theorem d55 {j pc nx tg : Nat} {ins : Instr} (hj : L55[j]? = some (pc, ins, nx, tg)) : dcd 55 pc ins nx tg := dcl_ok L55_ok hj
set_option maxRecDepth 100000 in
set_option maxHeartbeats 4000000 in
theorem r55_0 {x1 x2 : Int} {R1 : dsMem → Prop} {g1 : dsMem → Int} {R2 : dsMem → dsMem → Prop} {R3 : dsMem → dsMem → Prop} {R4 : dsMem → dsMem → Prop} {M : dsMem} {Q : bQT} (hA1 : ((M 1 1) = 0) → bCt 57 [uR 6 1, uX 0] M (fun M1 => [uI (g1 M1)]) R1) (s1 : ((M 1 1) = 0) → ∀ M1 : dsMem, R1 M1 → (¬ (M1 1 4) < 0) → ((M1 1 4) < (M1 1 0)) → 0 ≤ (M1 1 4) ∧ (M1 1 4) < 600 := by intros; omega) (s2 : ((M 1 1) = 0) → ∀ M1 : dsMem, R1 M1 → ((v58 M1 (M1 1 4)) = 2) → ∀ i55_1 : Int, ∀ a55_1 : Int, (M1 1 4) ≤ i55_1 → i55_1 < (M1 1 5) → 0 ≤ i55_1 ∧ i55_1 < 600 := by intros; omega) (s3 : ((M 1 1) = 0) → ∀ M1 : dsMem, R1 M1 → ((v58 M1 (M1 1 4)) = 2) → ∀ i55_1 : Int, ∀ a55_1 : Int, (M1 1 4) ≤ i55_1 → i55_1 < (M1 1 5) → -2147483648 ≤ i55_1 + 1 ∧ i55_1 + 1 < 2147483648 := by intros; omega) (hA2 : ((M 1 1) = 0) → ∀ M1 : dsMem, R1 M1 → ((v58 M1 (M1 1 4)) = 2) → ((dsIter (fun (i55_1 : Int) (a55_1 : Int) => (if (dsw ((((a55_1 * 10) + (M1 2 i55_1)) - 48))) < 1000000 then (dsw ((((a55_1 * 10) + (M1 2 i55_1)) - 48))) else 1000000)) (M1 1 4) (M1 1 5) 0) < x1) → bCt 53 [uR 6 1, uI 2] M1 (fun _ => []) (R2 M1)) (k1 : ((M 1 1) = 0) → ∀ M1 : dsMem, R1 M1 → ((v58 M1 (M1 1 4)) = 2) → ((dsIter (fun (i55_1 : Int) (a55_1 : Int) => (if (dsw ((((a55_1 * 10) + (M1 2 i55_1)) - 48))) < 1000000 then (dsw ((((a55_1 * 10) + (M1 2 i55_1)) - 48))) else 1000000)) (M1 1 4) (M1 1 5) 0) < x1) → ∀ M2 : dsMem, R2 M1 M2 → Q [uI (dsIter (fun (i55_1 : Int) (a55_1 : Int) => (if (dsw ((((a55_1 * 10) + (M1 2 i55_1)) - 48))) < 1000000 then (dsw ((((a55_1 * 10) + (M1 2 i55_1)) - 48))) else 1000000)) (M1 1 4) (M1 1 5) 0)] M2) (k2 : ((M 1 1) = 0) → ∀ M1 : dsMem, R1 M1 → ((v58 M1 (M1 1 4)) = 2) → (¬ (dsIter (fun (i55_1 : Int) (a55_1 : Int) => (if (dsw ((((a55_1 * 10) + (M1 2 i55_1)) - 48))) < 1000000 then (dsw ((((a55_1 * 10) + (M1 2 i55_1)) - 48))) else 1000000)) (M1 1 4) (M1 1 5) 0) < x1) → ((dsIter (fun (i55_1 : Int) (a55_1 : Int) => (if (dsw ((((a55_1 * 10) + (M1 2 i55_1)) - 48))) < 1000000 then (dsw ((((a55_1 * 10) + (M1 2 i55_1)) - 48))) else 1000000)) (M1 1 4) (M1 1 5) 0) ≤ x2) → Q [uI (dsIter (fun (i55_1 : Int) (a55_1 : Int) => (if (dsw ((((a55_1 * 10) + (M1 2 i55_1)) - 48))) < 1000000 then (dsw ((((a55_1 * 10) + (M1 2 i55_1)) - 48))) else 1000000)) (M1 1 4) (M1 1 5) 0)] M1) (hA3 : ((M 1 1) = 0) → ∀ M1 : dsMem, R1 M1 → ((v58 M1 (M1 1 4)) = 2) → (¬ (dsIter (fun (i55_1 : Int) (a55_1 : Int) => (if (dsw ((((a55_1 * 10) + (M1 2 i55_1)) - 48))) < 1000000 then (dsw ((((a55_1 * 10) + (M1 2 i55_1)) - 48))) else 1000000)) (M1 1 4) (M1 1 5) 0) < x1) → (¬ (dsIter (fun (i55_1 : Int) (a55_1 : Int) => (if (dsw ((((a55_1 * 10) + (M1 2 i55_1)) - 48))) < 1000000 then (dsw ((((a55_1 * 10) + (M1 2 i55_1)) - 48))) else 1000000)) (M1 1 4) (M1 1 5) 0) ≤ x2) → bCt 53 [uR 6 1, uI 2] M1 (fun _ => []) (R3 M1)) (k3 : ((M 1 1) = 0) → ∀ M1 : dsMem, R1 M1 → ((v58 M1 (M1 1 4)) = 2) → (¬ (dsIter (fun (i55_1 : Int) (a55_1 : Int) => (if (dsw ((((a55_1 * 10) + (M1 2 i55_1)) - 48))) < 1000000 then (dsw ((((a55_1 * 10) + (M1 2 i55_1)) - 48))) else 1000000)) (M1 1 4) (M1 1 5) 0) < x1) → (¬ (dsIter (fun (i55_1 : Int) (a55_1 : Int) => (if (dsw ((((a55_1 * 10) + (M1 2 i55_1)) - 48))) < 1000000 then (dsw ((((a55_1 * 10) + (M1 2 i55_1)) - 48))) else 1000000)) (M1 1 4) (M1 1 5) 0) ≤ x2) → ∀ M3 : dsMem, R3 M1 M3 → Q [uI (dsIter (fun (i55_1 : Int) (a55_1 : Int) => (if (dsw ((((a55_1 * 10) + (M1 2 i55_1)) - 48))) < 1000000 then (dsw ((((a55_1 * 10) + (M1 2 i55_1)) - 48))) else 1000000)) (M1 1 4) (M1 1 5) 0)] M3) (hA4 : ((M 1 1) = 0) → ∀ M1 : dsMem, R1 M1 → (¬ (v58 M1 (M1 1 4)) = 2) → bCt 53 [uR 6 1, uI 1] M1 (fun _ => []) (R4 M1)) (k4 : ((M 1 1) = 0) → ∀ M1 : dsMem, R1 M1 → (¬ (v58 M1 (M1 1 4)) = 2) → ∀ M4 : dsMem, R4 M1 M4 → Q [uI 0] M4) (k5 : (¬ (M 1 1) = 0) → Q [uI 0] M) :
    bB 55 0 [uR 6 1, uI x1, uI x2, uX 0, uX 0] [] M Q := by
  refine b_aload_n (d55 (j := 0) rfl) rfl ?_
  refine b_getI (d55 (j := 1) rfl) rfl rfl rfl rfl (Or.inl rfl) ?_
  refine b_stk [uI (M 1 1)] rfl ?_
  refine b_if_eq (d55 (j := 2) rfl) (fun c1 => ?_) (fun c1 => ?_)
  ·
    refine b_aload_n (d55 (j := 5) rfl) rfl ?_
    refine b_callV (d55 (j := 6) rfl) rfl rfl (Or.inl rfl) rfl (bCk_mk (n := 0) (k := 1) (by decide +kernel) rfl rfl) ((hA1 c1) _ (fun M1 hR1 => ?_))
    refine b_stk [uI (g1 M1)] rfl ?_
    refine b_pop (d55 (j := 7) rfl) rfl ?_
    refine b_aload_n (d55 (j := 8) rfl) rfl ?_
    refine b_aload_n (d55 (j := 9) rfl) rfl ?_
    refine b_getI (d55 (j := 10) rfl) rfl rfl rfl rfl (Or.inl rfl) ?_
    refine b_stk [uI (M1 1 4), uR 6 1] rfl ?_
    refine b_callV (d55 (j := 11) rfl) rfl rfl (Or.inl rfl) rfl (bCk_mk (n := 0) (k := 2) (by decide +kernel) rfl rfl) (fx58 (s1 c1 M1 hR1) ?_)
    refine b_stk [uI (v58 M1 (M1 1 4))] rfl ?_
    refine b_iconst (d55 (j := 12) rfl) (by decide) ?_
    refine b_icmp_eq (d55 (j := 13) rfl) (fun c2 => ?_) (fun c2 => ?_)
    ·
      refine b_iconst (d55 (j := 19) rfl) (by decide) ?_
      refine b_istore_n [uR 6 1, uI x1, uI x2, uI 0, uX 0] (d55 (j := 20) rfl) (by decide) rfl ?_
      refine b_aload_n (d55 (j := 21) rfl) rfl ?_
      refine b_getI (d55 (j := 22) rfl) rfl rfl rfl rfl (Or.inl rfl) ?_
      refine b_stk [uI (M1 1 4)] rfl ?_
      refine b_istore [uR 6 1, uI x1, uI x2, uI 0, uI (M1 1 4)] (d55 (j := 23) rfl) (by decide) rfl ?_
      refine b_for (fun (i55_1 : Int) (a55_1 : Int) => [uR 6 1, uI x1, uI x2, uI a55_1, uI i55_1]) (fun (i55_1 : Int) (a55_1 : Int) => (if (dsw ((((a55_1 * 10) + (M1 2 i55_1)) - 48))) < 1000000 then (dsw ((((a55_1 * 10) + (M1 2 i55_1)) - 48))) else 1000000)) (M1 1 4) (M1 1 5) 0 (fun i55_1 a55_1 h55_1l h55_1r hk55_1 => ?_) (fun i55_1 h55_1l h55_1r => ?_)
      ·
        refine b_iload (d55 (j := 24) rfl) rfl ?_
        refine b_aload_n (d55 (j := 25) rfl) rfl ?_
        refine b_getI (d55 (j := 26) rfl) rfl rfl rfl rfl (Or.inl rfl) ?_
        refine b_stk [uI (M1 1 5), uI i55_1] rfl ?_
        refine b_icmp_ge (d55 (j := 27) rfl) (fun c3 => ?_) (fun c3 => ?_)
        · exfalso; omega
        ·
          refine b_ldcI (d55 (j := 28) rfl) rfl ?_
          refine b_iload_n (d55 (j := 29) rfl) rfl ?_
          refine b_bipush (d55 (j := 30) rfl) (by decide) ?_
          refine b_imul (d55 (j := 31) rfl) rfl rfl ?_
          refine b_aload_n (d55 (j := 32) rfl) rfl ?_
          refine b_getR (d55 (j := 33) rfl) rfl rfl rfl rfl ?_
          refine b_stk [uR 29 2, uI (dsw ((a55_1 * 10))), uI 1000000] rfl ?_
          refine b_iload (d55 (j := 34) rfl) rfl ?_
          refine b_baload (d55 (j := 35) rfl) (Or.inl rfl) (s2 c1 M1 hR1 c2 i55_1 a55_1 h55_1l h55_1r) ?_
          refine b_iadd (d55 (j := 36) rfl) (dsw_dsw _) rfl ?_
          refine b_bipush (d55 (j := 37) rfl) (by decide) ?_
          refine b_isub (d55 (j := 38) rfl) (dsw_dsw _) rfl ?_
          refine b_min (d55 (j := 39) rfl) rfl ⟨by decide, Nat.le_of_ble_eq_true rfl⟩ ?_
          refine b_istore_n [uR 6 1, uI x1, uI x2, uI (if (dsw ((((a55_1 * 10) + (M1 2 i55_1)) - 48))) < 1000000 then (dsw ((((a55_1 * 10) + (M1 2 i55_1)) - 48))) else 1000000), uI i55_1] (d55 (j := 40) rfl) (by decide) rfl ?_
          refine b_iinc [uR 6 1, uI x1, uI x2, uI (if (dsw ((((a55_1 * 10) + (M1 2 i55_1)) - 48))) < 1000000 then (dsw ((((a55_1 * 10) + (M1 2 i55_1)) - 48))) else 1000000), uI (i55_1 + 1)] (d55 (j := 41) rfl) rfl (by decide) (s3 c1 M1 hR1 c2 i55_1 a55_1 h55_1l h55_1r) rfl ?_
          refine b_goto (d55 (j := 42) rfl) ?_
          exact hk55_1
      ·
        refine b_iload (d55 (j := 24) rfl) rfl ?_
        refine b_aload_n (d55 (j := 25) rfl) rfl ?_
        refine b_getI (d55 (j := 26) rfl) rfl rfl rfl rfl (Or.inl rfl) ?_
        refine b_stk [uI (M1 1 5), uI i55_1] rfl ?_
        refine b_icmp_ge (d55 (j := 27) rfl) (fun c4 => ?_) (fun c4 => ?_)
        rotate_left
        · exfalso; omega
        ·
          refine b_iload_n (d55 (j := 43) rfl) rfl ?_
          refine b_iload_n (d55 (j := 44) rfl) rfl ?_
          refine b_icmp_lt (d55 (j := 45) rfl) (fun c5 => ?_) (fun c5 => ?_)
          ·
            refine b_aload_n (d55 (j := 49) rfl) rfl ?_
            refine b_iconst (d55 (j := 50) rfl) (by decide) ?_
            refine b_callV (d55 (j := 51) rfl) rfl rfl (Or.inl rfl) rfl (bCk_mk (n := 0) (k := 2) (by decide +kernel) rfl rfl) ((hA2 c1 M1 hR1 c2 c5) _ (fun M2 hR2 => ?_))
            refine b_stk [] rfl ?_
            refine b_iload_n (d55 (j := 52) rfl) rfl ?_
            exact b_iret (d55 (j := 53) rfl) rfl (k1 c1 M1 hR1 c2 c5 M2 hR2)
          ·
            refine b_iload_n (d55 (j := 46) rfl) rfl ?_
            refine b_iload_n (d55 (j := 47) rfl) rfl ?_
            refine b_icmp_le (d55 (j := 48) rfl) (fun c6 => ?_) (fun c6 => ?_)
            ·
              refine b_iload_n (d55 (j := 52) rfl) rfl ?_
              exact b_iret (d55 (j := 53) rfl) rfl (k2 c1 M1 hR1 c2 c5 c6)
            ·
              refine b_aload_n (d55 (j := 49) rfl) rfl ?_
              refine b_iconst (d55 (j := 50) rfl) (by decide) ?_
              refine b_callV (d55 (j := 51) rfl) rfl rfl (Or.inl rfl) rfl (bCk_mk (n := 0) (k := 2) (by decide +kernel) rfl rfl) ((hA3 c1 M1 hR1 c2 c5 c6) _ (fun M3 hR3 => ?_))
              refine b_stk [] rfl ?_
              refine b_iload_n (d55 (j := 52) rfl) rfl ?_
              exact b_iret (d55 (j := 53) rfl) rfl (k3 c1 M1 hR1 c2 c5 c6 M3 hR3)
    ·
      refine b_aload_n (d55 (j := 14) rfl) rfl ?_
      refine b_iconst (d55 (j := 15) rfl) (by decide) ?_
      refine b_callV (d55 (j := 16) rfl) rfl rfl (Or.inl rfl) rfl (bCk_mk (n := 0) (k := 2) (by decide +kernel) rfl rfl) ((hA4 c1 M1 hR1 c2) _ (fun M4 hR4 => ?_))
      refine b_stk [] rfl ?_
      refine b_iconst (d55 (j := 17) rfl) (by decide) ?_
      exact b_iret (d55 (j := 18) rfl) rfl (k4 c1 M1 hR1 c2 M4 hR4)
  ·
    refine b_iconst (d55 (j := 3) rfl) (by decide) ?_
    exact b_iret (d55 (j := 4) rfl) rfl (k5 c1)
def L56 : List (Nat × Instr × Nat × Nat) := [(0, .aload_n 0, 1, 0), (1, .getfield 15, 4, 0), (4, .ifCond .ne 25, 7, 29), (7, .aload_n 0, 8, 0), (8, .invokevirtual 36, 11, 0), (11, .pop, 12, 0), (12, .aload_n 0, 13, 0), (13, .aload_n 0, 14, 0), (14, .getfield 25, 17, 0), (17, .invokevirtual 152, 20, 0), (20, .iconst 3, 21, 0), (21, .if_icmp .eq 8, 24, 29), (24, .aload_n 0, 25, 0), (25, .iconst 1, 26, 0), (26, .invokevirtual 53, 29, 0), (29, .return_, 30, 0)]
set_option maxRecDepth 100000 in
theorem L56_ok : L56.all (dck 56) = true := by decide +kernel
theorem d56 {j pc nx tg : Nat} {ins : Instr} (hj : L56[j]? = some (pc, ins, nx, tg)) : dcd 56 pc ins nx tg := dcl_ok L56_ok hj
set_option maxRecDepth 100000 in
set_option maxHeartbeats 4000000 in
theorem r56_0  {R1 : dsMem → Prop} {g1 : dsMem → Int} {R2 : dsMem → dsMem → Prop} {M : dsMem} {Q : bQT} (k1 : (¬ (M 1 1) = 0) → Q [] M) (hA1 : ((M 1 1) = 0) → bCt 57 [uR 6 1, uX 0] M (fun M1 => [uI (g1 M1)]) R1) (s1 : ((M 1 1) = 0) → ∀ M1 : dsMem, R1 M1 → (¬ (M1 1 4) < 0) → ((M1 1 4) < (M1 1 0)) → 0 ≤ (M1 1 4) ∧ (M1 1 4) < 600 := by intros; omega) (k2 : ((M 1 1) = 0) → ∀ M1 : dsMem, R1 M1 → ((v58 M1 (M1 1 4)) = 3) → Q [] M1) (hA2 : ((M 1 1) = 0) → ∀ M1 : dsMem, R1 M1 → (¬ (v58 M1 (M1 1 4)) = 3) → bCt 53 [uR 6 1, uI 1] M1 (fun _ => []) (R2 M1)) (k3 : ((M 1 1) = 0) → ∀ M1 : dsMem, R1 M1 → (¬ (v58 M1 (M1 1 4)) = 3) → ∀ M2 : dsMem, R2 M1 M2 → Q [] M2) :
    bB 56 0 [uR 6 1] [] M Q := by
  refine b_aload_n (d56 (j := 0) rfl) rfl ?_
  refine b_getI (d56 (j := 1) rfl) rfl rfl rfl rfl (Or.inl rfl) ?_
  refine b_stk [uI (M 1 1)] rfl ?_
  refine b_if_ne (d56 (j := 2) rfl) (fun c1 => ?_) (fun c1 => ?_)
  ·
    exact b_vret (d56 (j := 15) rfl) rfl (k1 c1)
  ·
    refine b_aload_n (d56 (j := 3) rfl) rfl ?_
    refine b_callV (d56 (j := 4) rfl) rfl rfl (Or.inl rfl) rfl (bCk_mk (n := 0) (k := 1) (by decide +kernel) rfl rfl) ((hA1 c1) _ (fun M1 hR1 => ?_))
    refine b_stk [uI (g1 M1)] rfl ?_
    refine b_pop (d56 (j := 5) rfl) rfl ?_
    refine b_aload_n (d56 (j := 6) rfl) rfl ?_
    refine b_aload_n (d56 (j := 7) rfl) rfl ?_
    refine b_getI (d56 (j := 8) rfl) rfl rfl rfl rfl (Or.inl rfl) ?_
    refine b_stk [uI (M1 1 4), uR 6 1] rfl ?_
    refine b_callV (d56 (j := 9) rfl) rfl rfl (Or.inl rfl) rfl (bCk_mk (n := 0) (k := 2) (by decide +kernel) rfl rfl) (fx58 (s1 c1 M1 hR1) ?_)
    refine b_stk [uI (v58 M1 (M1 1 4))] rfl ?_
    refine b_iconst (d56 (j := 10) rfl) (by decide) ?_
    refine b_icmp_eq (d56 (j := 11) rfl) (fun c2 => ?_) (fun c2 => ?_)
    ·
      exact b_vret (d56 (j := 15) rfl) rfl (k2 c1 M1 hR1 c2)
    ·
      refine b_aload_n (d56 (j := 12) rfl) rfl ?_
      refine b_iconst (d56 (j := 13) rfl) (by decide) ?_
      refine b_callV (d56 (j := 14) rfl) rfl rfl (Or.inl rfl) rfl (bCk_mk (n := 0) (k := 2) (by decide +kernel) rfl rfl) ((hA2 c1 M1 hR1 c2) _ (fun M2 hR2 => ?_))
      refine b_stk [] rfl ?_
      exact b_vret (d56 (j := 15) rfl) rfl (k3 c1 M1 hR1 c2 M2 hR2)
def L57 : List (Nat × Instr × Nat × Nat) := [(0, .aload_n 0, 1, 0), (1, .aload_n 0, 2, 0), (2, .getfield 28, 5, 0), (5, .putfield 25, 8, 0), (8, .aload_n 0, 9, 0), (9, .getfield 25, 12, 0), (12, .aload_n 0, 13, 0), (13, .getfield 9, 16, 0), (16, .if_icmp .ge 27, 19, 43), (19, .aload_n 0, 20, 0), (20, .aload_n 0, 21, 0), (21, .getfield 25, 24, 0), (24, .invokevirtual 152, 27, 0), (27, .ifCond .ne 16, 30, 43), (30, .aload_n 0, 31, 0), (31, .dup, 32, 0), (32, .getfield 25, 35, 0), (35, .iconst 1, 36, 0), (36, .iadd, 37, 0), (37, .putfield 25, 40, 0), (40, .goto (-32), 43, 8), (43, .aload_n 0, 44, 0), (44, .aload_n 0, 45, 0), (45, .getfield 25, 48, 0), (48, .invokevirtual 152, 51, 0), (51, .istore_n 1, 52, 0), (52, .aload_n 0, 53, 0), (53, .aload_n 0, 54, 0), (54, .getfield 9, 57, 0), (57, .aload_n 0, 58, 0), (58, .getfield 25, 61, 0), (61, .iconst 1, 62, 0), (62, .iadd, 63, 0), (63, .invokestatic 157, 66, 0), (66, .putfield 28, 69, 0), (69, .iload_n 1, 70, 0), (70, .iconst 1, 71, 0), (71, .if_icmp .eq 8, 74, 79), (74, .iload_n 1, 75, 0), (75, .iconst 2, 76, 0), (76, .if_icmp .ne 39, 79, 115), (79, .aload_n 0, 80, 0), (80, .getfield 28, 83, 0), (83, .aload_n 0, 84, 0), (84, .getfield 9, 87, 0), (87, .if_icmp .ge 28, 90, 115), (90, .aload_n 0, 91, 0), (91, .aload_n 0, 92, 0), (92, .getfield 28, 95, 0), (95, .invokevirtual 152, 98, 0), (98, .iload_n 1, 99, 0), (99, .if_icmp .ne 16, 102, 115), (102, .aload_n 0, 103, 0), (103, .dup, 104, 0), (104, .getfield 28, 107, 0), (107, .iconst 1, 108, 0), (108, .iadd, 109, 0), (109, .putfield 28, 112, 0), (112, .goto (-33), 115, 79), (115, .aload_n 0, 116, 0), (116, .getfield 25, 119, 0), (119, .aload_n 0, 120, 0), (120, .getfield 9, 123, 0), (123, .if_icmp .ge 7, 126, 130), (126, .iconst 1, 127, 0), (127, .goto 4, 130, 131), (130, .iconst 0, 131, 0), (131, .ireturn, 132, 0)]
set_option maxRecDepth 100000 in
theorem L57_ok : L57.all (dck 57) = true := by decide +kernel
theorem d57 {j pc nx tg : Nat} {ins : Instr} (hj : L57[j]? = some (pc, ins, nx, tg)) : dcd 57 pc ins nx tg := dcl_ok L57_ok hj
set_option maxRecDepth 100000 in
set_option maxHeartbeats 4000000 in
theorem r57_0   {M : dsMem} {Q : bQT} (k1 : bB 57 8 [uR 6 1, uX 0] [] (dsSet M 1 4 (M 1 5)) Q) :
    bB 57 0 [uR 6 1, uX 0] [] M Q := by
  refine b_aload_n (d57 (j := 0) rfl) rfl ?_
  refine b_aload_n (d57 (j := 1) rfl) rfl ?_
  refine b_getI (d57 (j := 2) rfl) rfl rfl rfl rfl (Or.inl rfl) ?_
  refine b_stk [uI (M 1 5), uR 6 1] rfl ?_
  refine b_putI (d57 (j := 3) rfl) rfl ⟨rfl, rfl⟩ rfl rfl ?_
  exact k1
set_option maxRecDepth 100000 in
set_option maxHeartbeats 4000000 in
theorem r57_8   {M : dsMem} {Q : bQT} (s1 : ((M 1 0) ≤ (M 1 4)) → (¬ (M 1 4) < 0) → ((M 1 4) < (M 1 0)) → 0 ≤ (M 1 4) ∧ (M 1 4) < 600 := by intros; omega) (s2 : ((M 1 0) ≤ (M 1 4)) → -2147483648 ≤ ((M 1 4) + 1) ∧ ((M 1 4) + 1) < 2147483648 := by intros; omega) (k1 : ((M 1 0) ≤ (M 1 4)) → ((v58 M (M 1 4)) = 1) → bB 57 79 [uR 6 1, uI (v58 M (M 1 4))] [] (dsSet M 1 5 (if ((M 1 4) + 1) < (M 1 0) then ((M 1 4) + 1) else (M 1 0))) Q) (k2 : ((M 1 0) ≤ (M 1 4)) → (¬ (v58 M (M 1 4)) = 1) → (¬ (v58 M (M 1 4)) = 2) → ((M 1 0) ≤ (M 1 4)) → Q [uI 0] (dsSet M 1 5 (if ((M 1 4) + 1) < (M 1 0) then ((M 1 4) + 1) else (M 1 0)))) (k3 : ((M 1 0) ≤ (M 1 4)) → (¬ (v58 M (M 1 4)) = 1) → (¬ (v58 M (M 1 4)) = 2) → (¬ (M 1 0) ≤ (M 1 4)) → Q [uI 1] (dsSet M 1 5 (if ((M 1 4) + 1) < (M 1 0) then ((M 1 4) + 1) else (M 1 0)))) (k4 : ((M 1 0) ≤ (M 1 4)) → (¬ (v58 M (M 1 4)) = 1) → ((v58 M (M 1 4)) = 2) → bB 57 79 [uR 6 1, uI (v58 M (M 1 4))] [] (dsSet M 1 5 (if ((M 1 4) + 1) < (M 1 0) then ((M 1 4) + 1) else (M 1 0))) Q) (s3 : (¬ (M 1 0) ≤ (M 1 4)) → (¬ (M 1 4) < 0) → ((M 1 4) < (M 1 0)) → 0 ≤ (M 1 4) ∧ (M 1 4) < 600 := by intros; omega) (s4 : (¬ (M 1 0) ≤ (M 1 4)) → (¬ (v58 M (M 1 4)) = 0) → -2147483648 ≤ ((M 1 4) + 1) ∧ ((M 1 4) + 1) < 2147483648 := by intros; omega) (k5 : (¬ (M 1 0) ≤ (M 1 4)) → (¬ (v58 M (M 1 4)) = 0) → ((v58 M (M 1 4)) = 1) → bB 57 79 [uR 6 1, uI (v58 M (M 1 4))] [] (dsSet M 1 5 (if ((M 1 4) + 1) < (M 1 0) then ((M 1 4) + 1) else (M 1 0))) Q) (k6 : (¬ (M 1 0) ≤ (M 1 4)) → (¬ (v58 M (M 1 4)) = 0) → (¬ (v58 M (M 1 4)) = 1) → (¬ (v58 M (M 1 4)) = 2) → ((M 1 0) ≤ (M 1 4)) → Q [uI 0] (dsSet M 1 5 (if ((M 1 4) + 1) < (M 1 0) then ((M 1 4) + 1) else (M 1 0)))) (k7 : (¬ (M 1 0) ≤ (M 1 4)) → (¬ (v58 M (M 1 4)) = 0) → (¬ (v58 M (M 1 4)) = 1) → (¬ (v58 M (M 1 4)) = 2) → (¬ (M 1 0) ≤ (M 1 4)) → Q [uI 1] (dsSet M 1 5 (if ((M 1 4) + 1) < (M 1 0) then ((M 1 4) + 1) else (M 1 0)))) (k8 : (¬ (M 1 0) ≤ (M 1 4)) → (¬ (v58 M (M 1 4)) = 0) → (¬ (v58 M (M 1 4)) = 1) → ((v58 M (M 1 4)) = 2) → bB 57 79 [uR 6 1, uI (v58 M (M 1 4))] [] (dsSet M 1 5 (if ((M 1 4) + 1) < (M 1 0) then ((M 1 4) + 1) else (M 1 0))) Q) (s5 : (¬ (M 1 0) ≤ (M 1 4)) → ((v58 M (M 1 4)) = 0) → -2147483648 ≤ ((M 1 4) + 1) ∧ ((M 1 4) + 1) < 2147483648 := by intros; omega) (k9 : (¬ (M 1 0) ≤ (M 1 4)) → ((v58 M (M 1 4)) = 0) → bB 57 8 [uR 6 1, uX 0] [] (dsSet M 1 4 ((M 1 4) + 1)) Q) :
    bB 57 8 [uR 6 1, uX 0] [] M Q := by
  refine b_aload_n (d57 (j := 4) rfl) rfl ?_
  refine b_getI (d57 (j := 5) rfl) rfl rfl rfl rfl (Or.inl rfl) ?_
  refine b_stk [uI (M 1 4)] rfl ?_
  refine b_aload_n (d57 (j := 6) rfl) rfl ?_
  refine b_getI (d57 (j := 7) rfl) rfl rfl rfl rfl (Or.inl rfl) ?_
  refine b_stk [uI (M 1 0), uI (M 1 4)] rfl ?_
  refine b_icmp_ge (d57 (j := 8) rfl) (fun c1 => ?_) (fun c1 => ?_)
  ·
    refine b_aload_n (d57 (j := 21) rfl) rfl ?_
    refine b_aload_n (d57 (j := 22) rfl) rfl ?_
    refine b_getI (d57 (j := 23) rfl) rfl rfl rfl rfl (Or.inl rfl) ?_
    refine b_stk [uI (M 1 4), uR 6 1] rfl ?_
    refine b_callV (d57 (j := 24) rfl) rfl rfl (Or.inl rfl) rfl (bCk_mk (n := 0) (k := 2) (by decide +kernel) rfl rfl) (fx58 (s1 c1) ?_)
    refine b_stk [uI (v58 M (M 1 4))] rfl ?_
    refine b_istore_n [uR 6 1, uI (v58 M (M 1 4))] (d57 (j := 25) rfl) (by decide) rfl ?_
    refine b_aload_n (d57 (j := 26) rfl) rfl ?_
    refine b_aload_n (d57 (j := 27) rfl) rfl ?_
    refine b_getI (d57 (j := 28) rfl) rfl rfl rfl rfl (Or.inl rfl) ?_
    refine b_stk [uI (M 1 0), uR 6 1] rfl ?_
    refine b_aload_n (d57 (j := 29) rfl) rfl ?_
    refine b_getI (d57 (j := 30) rfl) rfl rfl rfl rfl (Or.inl rfl) ?_
    refine b_stk [uI (M 1 4), uI (M 1 0), uR 6 1] rfl ?_
    refine b_iconst (d57 (j := 31) rfl) (by decide) ?_
    refine b_iadd (d57 (j := 32) rfl) rfl rfl ?_
    refine b_stk [uI ((M 1 4) + 1), uI (M 1 0), uR 6 1] (by rw [dsw_r (s2 c1)]) ?_
    refine b_min (d57 (j := 33) rfl) rfl ⟨by decide, Nat.le_of_ble_eq_true rfl⟩ ?_
    refine b_putI (d57 (j := 34) rfl) rfl ⟨rfl, rfl⟩ rfl rfl ?_
    refine b_iload_n (d57 (j := 35) rfl) rfl ?_
    refine b_iconst (d57 (j := 36) rfl) (by decide) ?_
    refine b_icmp_eq (d57 (j := 37) rfl) (fun c2 => ?_) (fun c2 => ?_)
    ·
      exact (k1 c1 c2)
    ·
      refine b_iload_n (d57 (j := 38) rfl) rfl ?_
      refine b_iconst (d57 (j := 39) rfl) (by decide) ?_
      refine b_icmp_ne (d57 (j := 40) rfl) (fun c3 => ?_) (fun c3 => ?_)
      ·
        refine b_aload_n (d57 (j := 59) rfl) rfl ?_
        refine b_getI (d57 (j := 60) rfl) rfl rfl rfl rfl (Or.inl rfl) ?_
        refine b_stk [uI (M 1 4)] (by rw [ds_get_ni (by omega)] <;> rfl) ?_
        refine b_aload_n (d57 (j := 61) rfl) rfl ?_
        refine b_getI (d57 (j := 62) rfl) rfl rfl rfl rfl (Or.inl rfl) ?_
        refine b_stk [uI (M 1 0), uI (M 1 4)] (by rw [ds_get_ni (by omega)] <;> rfl) ?_
        refine b_icmp_ge (d57 (j := 63) rfl) (fun c4 => ?_) (fun c4 => ?_)
        ·
          refine b_iconst (d57 (j := 66) rfl) (by decide) ?_
          exact b_zret (d57 (j := 67) rfl) rfl (by decide) (k2 c1 c2 c3 c4)
        ·
          refine b_iconst (d57 (j := 64) rfl) (by decide) ?_
          refine b_goto (d57 (j := 65) rfl) ?_
          exact b_zret (d57 (j := 67) rfl) rfl (by decide) (k3 c1 c2 c3 c4)
      ·
        exact (k4 c1 c2 c3)
  ·
    refine b_aload_n (d57 (j := 9) rfl) rfl ?_
    refine b_aload_n (d57 (j := 10) rfl) rfl ?_
    refine b_getI (d57 (j := 11) rfl) rfl rfl rfl rfl (Or.inl rfl) ?_
    refine b_stk [uI (M 1 4), uR 6 1] rfl ?_
    refine b_callV (d57 (j := 12) rfl) rfl rfl (Or.inl rfl) rfl (bCk_mk (n := 0) (k := 2) (by decide +kernel) rfl rfl) (fx58 (s3 c1) ?_)
    refine b_stk [uI (v58 M (M 1 4))] rfl ?_
    refine b_if_ne (d57 (j := 13) rfl) (fun c5 => ?_) (fun c5 => ?_)
    ·
      refine b_aload_n (d57 (j := 21) rfl) rfl ?_
      refine b_aload_n (d57 (j := 22) rfl) rfl ?_
      refine b_getI (d57 (j := 23) rfl) rfl rfl rfl rfl (Or.inl rfl) ?_
      refine b_stk [uI (M 1 4), uR 6 1] rfl ?_
      refine b_callV (d57 (j := 24) rfl) rfl rfl (Or.inl rfl) rfl (bCk_mk (n := 0) (k := 2) (by decide +kernel) rfl rfl) (fx58 (s3 c1) ?_)
      refine b_stk [uI (v58 M (M 1 4))] rfl ?_
      refine b_istore_n [uR 6 1, uI (v58 M (M 1 4))] (d57 (j := 25) rfl) (by decide) rfl ?_
      refine b_aload_n (d57 (j := 26) rfl) rfl ?_
      refine b_aload_n (d57 (j := 27) rfl) rfl ?_
      refine b_getI (d57 (j := 28) rfl) rfl rfl rfl rfl (Or.inl rfl) ?_
      refine b_stk [uI (M 1 0), uR 6 1] rfl ?_
      refine b_aload_n (d57 (j := 29) rfl) rfl ?_
      refine b_getI (d57 (j := 30) rfl) rfl rfl rfl rfl (Or.inl rfl) ?_
      refine b_stk [uI (M 1 4), uI (M 1 0), uR 6 1] rfl ?_
      refine b_iconst (d57 (j := 31) rfl) (by decide) ?_
      refine b_iadd (d57 (j := 32) rfl) rfl rfl ?_
      refine b_stk [uI ((M 1 4) + 1), uI (M 1 0), uR 6 1] (by rw [dsw_r (s4 c1 c5)]) ?_
      refine b_min (d57 (j := 33) rfl) rfl ⟨by decide, Nat.le_of_ble_eq_true rfl⟩ ?_
      refine b_putI (d57 (j := 34) rfl) rfl ⟨rfl, rfl⟩ rfl rfl ?_
      refine b_iload_n (d57 (j := 35) rfl) rfl ?_
      refine b_iconst (d57 (j := 36) rfl) (by decide) ?_
      refine b_icmp_eq (d57 (j := 37) rfl) (fun c6 => ?_) (fun c6 => ?_)
      ·
        exact (k5 c1 c5 c6)
      ·
        refine b_iload_n (d57 (j := 38) rfl) rfl ?_
        refine b_iconst (d57 (j := 39) rfl) (by decide) ?_
        refine b_icmp_ne (d57 (j := 40) rfl) (fun c7 => ?_) (fun c7 => ?_)
        ·
          refine b_aload_n (d57 (j := 59) rfl) rfl ?_
          refine b_getI (d57 (j := 60) rfl) rfl rfl rfl rfl (Or.inl rfl) ?_
          refine b_stk [uI (M 1 4)] (by rw [ds_get_ni (by omega)] <;> rfl) ?_
          refine b_aload_n (d57 (j := 61) rfl) rfl ?_
          refine b_getI (d57 (j := 62) rfl) rfl rfl rfl rfl (Or.inl rfl) ?_
          refine b_stk [uI (M 1 0), uI (M 1 4)] (by rw [ds_get_ni (by omega)] <;> rfl) ?_
          refine b_icmp_ge (d57 (j := 63) rfl) (fun c8 => ?_) (fun c8 => ?_)
          ·
            refine b_iconst (d57 (j := 66) rfl) (by decide) ?_
            exact b_zret (d57 (j := 67) rfl) rfl (by decide) (k6 c1 c5 c6 c7 c8)
          ·
            refine b_iconst (d57 (j := 64) rfl) (by decide) ?_
            refine b_goto (d57 (j := 65) rfl) ?_
            exact b_zret (d57 (j := 67) rfl) rfl (by decide) (k7 c1 c5 c6 c7 c8)
        ·
          exact (k8 c1 c5 c6 c7)
    ·
      refine b_aload_n (d57 (j := 14) rfl) rfl ?_
      refine b_dup (d57 (j := 15) rfl) rfl ?_
      refine b_getI (d57 (j := 16) rfl) rfl rfl rfl rfl (Or.inl rfl) ?_
      refine b_stk [uI (M 1 4), uR 6 1] rfl ?_
      refine b_iconst (d57 (j := 17) rfl) (by decide) ?_
      refine b_iadd (d57 (j := 18) rfl) rfl rfl ?_
      refine b_stk [uI ((M 1 4) + 1), uR 6 1] (by rw [dsw_r (s5 c1 c5)]) ?_
      refine b_putI (d57 (j := 19) rfl) rfl ⟨rfl, rfl⟩ rfl rfl ?_
      refine b_goto (d57 (j := 20) rfl) ?_
      exact (k9 c1 c5)
set_option maxRecDepth 100000 in
set_option maxHeartbeats 4000000 in
theorem r57_79 {x1 : Int}  {M : dsMem} {Q : bQT} (k1 : ((M 1 0) ≤ (M 1 5)) → ((M 1 0) ≤ (M 1 4)) → Q [uI 0] M) (k2 : ((M 1 0) ≤ (M 1 5)) → (¬ (M 1 0) ≤ (M 1 4)) → Q [uI 1] M) (s1 : (¬ (M 1 0) ≤ (M 1 5)) → (¬ (M 1 5) < 0) → ((M 1 5) < (M 1 0)) → 0 ≤ (M 1 5) ∧ (M 1 5) < 600 := by intros; omega) (k3 : (¬ (M 1 0) ≤ (M 1 5)) → (¬ (v58 M (M 1 5)) = x1) → ((M 1 0) ≤ (M 1 4)) → Q [uI 0] M) (k4 : (¬ (M 1 0) ≤ (M 1 5)) → (¬ (v58 M (M 1 5)) = x1) → (¬ (M 1 0) ≤ (M 1 4)) → Q [uI 1] M) (s2 : (¬ (M 1 0) ≤ (M 1 5)) → ((v58 M (M 1 5)) = x1) → -2147483648 ≤ ((M 1 5) + 1) ∧ ((M 1 5) + 1) < 2147483648 := by intros; omega) (k5 : (¬ (M 1 0) ≤ (M 1 5)) → ((v58 M (M 1 5)) = x1) → bB 57 79 [uR 6 1, uI x1] [] (dsSet M 1 5 ((M 1 5) + 1)) Q) :
    bB 57 79 [uR 6 1, uI x1] [] M Q := by
  refine b_aload_n (d57 (j := 41) rfl) rfl ?_
  refine b_getI (d57 (j := 42) rfl) rfl rfl rfl rfl (Or.inl rfl) ?_
  refine b_stk [uI (M 1 5)] rfl ?_
  refine b_aload_n (d57 (j := 43) rfl) rfl ?_
  refine b_getI (d57 (j := 44) rfl) rfl rfl rfl rfl (Or.inl rfl) ?_
  refine b_stk [uI (M 1 0), uI (M 1 5)] rfl ?_
  refine b_icmp_ge (d57 (j := 45) rfl) (fun c1 => ?_) (fun c1 => ?_)
  ·
    refine b_aload_n (d57 (j := 59) rfl) rfl ?_
    refine b_getI (d57 (j := 60) rfl) rfl rfl rfl rfl (Or.inl rfl) ?_
    refine b_stk [uI (M 1 4)] rfl ?_
    refine b_aload_n (d57 (j := 61) rfl) rfl ?_
    refine b_getI (d57 (j := 62) rfl) rfl rfl rfl rfl (Or.inl rfl) ?_
    refine b_stk [uI (M 1 0), uI (M 1 4)] rfl ?_
    refine b_icmp_ge (d57 (j := 63) rfl) (fun c2 => ?_) (fun c2 => ?_)
    ·
      refine b_iconst (d57 (j := 66) rfl) (by decide) ?_
      exact b_zret (d57 (j := 67) rfl) rfl (by decide) (k1 c1 c2)
    ·
      refine b_iconst (d57 (j := 64) rfl) (by decide) ?_
      refine b_goto (d57 (j := 65) rfl) ?_
      exact b_zret (d57 (j := 67) rfl) rfl (by decide) (k2 c1 c2)
  ·
    refine b_aload_n (d57 (j := 46) rfl) rfl ?_
    refine b_aload_n (d57 (j := 47) rfl) rfl ?_
    refine b_getI (d57 (j := 48) rfl) rfl rfl rfl rfl (Or.inl rfl) ?_
    refine b_stk [uI (M 1 5), uR 6 1] rfl ?_
    refine b_callV (d57 (j := 49) rfl) rfl rfl (Or.inl rfl) rfl (bCk_mk (n := 0) (k := 2) (by decide +kernel) rfl rfl) (fx58 (s1 c1) ?_)
    refine b_stk [uI (v58 M (M 1 5))] rfl ?_
    refine b_iload_n (d57 (j := 50) rfl) rfl ?_
    refine b_icmp_ne (d57 (j := 51) rfl) (fun c3 => ?_) (fun c3 => ?_)
    ·
      refine b_aload_n (d57 (j := 59) rfl) rfl ?_
      refine b_getI (d57 (j := 60) rfl) rfl rfl rfl rfl (Or.inl rfl) ?_
      refine b_stk [uI (M 1 4)] rfl ?_
      refine b_aload_n (d57 (j := 61) rfl) rfl ?_
      refine b_getI (d57 (j := 62) rfl) rfl rfl rfl rfl (Or.inl rfl) ?_
      refine b_stk [uI (M 1 0), uI (M 1 4)] rfl ?_
      refine b_icmp_ge (d57 (j := 63) rfl) (fun c4 => ?_) (fun c4 => ?_)
      ·
        refine b_iconst (d57 (j := 66) rfl) (by decide) ?_
        exact b_zret (d57 (j := 67) rfl) rfl (by decide) (k3 c1 c3 c4)
      ·
        refine b_iconst (d57 (j := 64) rfl) (by decide) ?_
        refine b_goto (d57 (j := 65) rfl) ?_
        exact b_zret (d57 (j := 67) rfl) rfl (by decide) (k4 c1 c3 c4)
    ·
      refine b_aload_n (d57 (j := 52) rfl) rfl ?_
      refine b_dup (d57 (j := 53) rfl) rfl ?_
      refine b_getI (d57 (j := 54) rfl) rfl rfl rfl rfl (Or.inl rfl) ?_
      refine b_stk [uI (M 1 5), uR 6 1] rfl ?_
      refine b_iconst (d57 (j := 55) rfl) (by decide) ?_
      refine b_iadd (d57 (j := 56) rfl) rfl rfl ?_
      refine b_stk [uI ((M 1 5) + 1), uR 6 1] (by rw [dsw_r (s2 c1 c3)]) ?_
      refine b_putI (d57 (j := 57) rfl) rfl ⟨rfl, rfl⟩ rfl rfl ?_
      refine b_goto (d57 (j := 58) rfl) ?_
      exact (k5 c1 c3)
def L59 : List (Nat × Instr × Nat × Nat) := [(0, .aload_n 0, 1, 0), (1, .getfield 28, 4, 0), (4, .aload_n 0, 5, 0), (5, .getfield 25, 8, 0), (8, .isub, 9, 0), (9, .aload_n 1, 10, 0), (10, .invokevirtual 162, 13, 0), (13, .if_icmp .eq 5, 16, 18), (16, .iconst 0, 17, 0), (17, .ireturn, 18, 0), (18, .iconst 0, 19, 0), (19, .istore_n 2, 20, 0), (20, .iload_n 2, 21, 0), (21, .aload_n 1, 22, 0), (22, .invokevirtual 162, 25, 0), (25, .if_icmp .ge 30, 28, 55), (28, .aload_n 0, 29, 0), (29, .getfield 21, 32, 0), (32, .aload_n 0, 33, 0), (33, .getfield 25, 36, 0), (36, .iload_n 2, 37, 0), (37, .iadd, 38, 0), (38, .baload, 39, 0), (39, .aload_n 1, 40, 0), (40, .iload_n 2, 41, 0), (41, .invokevirtual 168, 44, 0), (44, .if_icmp .eq 5, 47, 49), (47, .iconst 0, 48, 0), (48, .ireturn, 49, 0), (49, .iinc 2 1, 52, 0), (52, .goto (-32), 55, 20), (55, .iconst 1, 56, 0), (56, .ireturn, 57, 0)]
set_option maxRecDepth 100000 in
theorem L59_ok : L59.all (dck 59) = true := by decide +kernel
theorem d59 {j pc nx tg : Nat} {ins : Instr} (hj : L59[j]? = some (pc, ins, nx, tg)) : dcd 59 pc ins nx tg := dcl_ok L59_ok hj
set_option maxRecDepth 100000 in
set_option maxHeartbeats 4000000 in
theorem r59_0  {x1 : Nat}  {M : dsMem} {Q : bQT} (s1 : x1 < 15 := by intros; omega) (s2 : -2147483648 ≤ ((M 1 5) - (M 1 4)) ∧ ((M 1 5) - (M 1 4)) < 2147483648 := by intros; omega) (s3 : (((M 1 5) - (M 1 4)) = (dsLen x1)) → ∀ i59_1 : Int, 0 ≤ i59_1 → i59_1 < (dsLen x1) → 0 ≤ ((M 1 4) + i59_1) ∧ ((M 1 4) + i59_1) < 600 := by intros; omega) (s4 : (((M 1 5) - (M 1 4)) = (dsLen x1)) → ∀ i59_1 : Int, 0 ≤ i59_1 → i59_1 < (dsLen x1) → x1 < 15 ∧ 0 ≤ i59_1 ∧ i59_1 < dsLen x1 := by intros; omega) (s5 : (((M 1 5) - (M 1 4)) = (dsLen x1)) → ∀ i59_1 : Int, 0 ≤ i59_1 → i59_1 < (dsLen x1) → -2147483648 ≤ i59_1 + 1 ∧ i59_1 + 1 < 2147483648 := by intros; omega) (k1 : (((M 1 5) - (M 1 4)) = (dsLen x1)) → ((dsFind (fun (i59_1 : Int) => ¬ ((M 2 ((M 1 4) + i59_1)) = (dsChr x1 i59_1))) 0 (dsLen x1)) < (dsLen x1)) → Q [uI 0] M) (k2 : (((M 1 5) - (M 1 4)) = (dsLen x1)) → (¬ (dsFind (fun (i59_1 : Int) => ¬ ((M 2 ((M 1 4) + i59_1)) = (dsChr x1 i59_1))) 0 (dsLen x1)) < (dsLen x1)) → Q [uI 1] M) (k3 : (¬ ((M 1 5) - (M 1 4)) = (dsLen x1)) → Q [uI 0] M) :
    bB 59 0 [uR 6 1, uX (x1 + 2), uX 0] [] M Q := by
  refine b_aload_n (d59 (j := 0) rfl) rfl ?_
  refine b_getI (d59 (j := 1) rfl) rfl rfl rfl rfl (Or.inl rfl) ?_
  refine b_stk [uI (M 1 5)] rfl ?_
  refine b_aload_n (d59 (j := 2) rfl) rfl ?_
  refine b_getI (d59 (j := 3) rfl) rfl rfl rfl rfl (Or.inl rfl) ?_
  refine b_stk [uI (M 1 4), uI (M 1 5)] rfl ?_
  refine b_isub (d59 (j := 4) rfl) rfl rfl ?_
  refine b_aload_nX (d59 (j := 5) rfl) rfl ?_
  refine b_slen (d59 (j := 6) rfl) rfl ⟨by decide, Nat.le_of_ble_eq_true rfl⟩ s1 ?_
  refine b_stk [uI (dsLen x1), uI ((M 1 5) - (M 1 4))] (by rw [dsw_r s2]) ?_
  refine b_icmp_eq (d59 (j := 7) rfl) (fun c1 => ?_) (fun c1 => ?_)
  ·
    refine b_iconst (d59 (j := 10) rfl) (by decide) ?_
    refine b_istore_n [uR 6 1, uX (x1 + 2), uI 0] (d59 (j := 11) rfl) (by decide) rfl ?_
    refine b_find (fun (i59_1 : Int) => [uR 6 1, uX (x1 + 2), uI i59_1]) (fun (i59_1 : Int) => ¬ ((M 2 ((M 1 4) + i59_1)) = (dsChr x1 i59_1))) 0 (dsLen x1) (fun i59_1 h59_1l h59_1r hn hk59_1 => ?_) (fun i59_1 h59_1l h59_1r hp he => ?_) (fun i59_1 h59_1l h59_1r he => ?_)
    ·
      refine b_iload_n (d59 (j := 12) rfl) rfl ?_
      refine b_aload_nX (d59 (j := 13) rfl) rfl ?_
      refine b_slen (d59 (j := 14) rfl) rfl ⟨by decide, Nat.le_of_ble_eq_true rfl⟩ s1 ?_
      refine b_icmp_ge (d59 (j := 15) rfl) (fun c2 => ?_) (fun c2 => ?_)
      · exfalso; omega
      ·
        refine b_aload_n (d59 (j := 16) rfl) rfl ?_
        refine b_getR (d59 (j := 17) rfl) rfl rfl rfl rfl ?_
        refine b_stk [uR 29 2] rfl ?_
        refine b_aload_n (d59 (j := 18) rfl) rfl ?_
        refine b_getI (d59 (j := 19) rfl) rfl rfl rfl rfl (Or.inl rfl) ?_
        refine b_stk [uI (M 1 4), uR 29 2] rfl ?_
        refine b_iload_n (d59 (j := 20) rfl) rfl ?_
        refine b_iadd (d59 (j := 21) rfl) rfl rfl ?_
        refine b_stk [uI ((M 1 4) + i59_1), uR 29 2] (by rw [dsw_b (s3 c1 i59_1 h59_1l h59_1r) (by decide)]) ?_
        refine b_baload (d59 (j := 22) rfl) (Or.inl rfl) (s3 c1 i59_1 h59_1l h59_1r) ?_
        refine b_aload_nX (d59 (j := 23) rfl) rfl ?_
        refine b_iload_n (d59 (j := 24) rfl) rfl ?_
        refine b_schr (d59 (j := 25) rfl) rfl ⟨by decide, Nat.le_of_ble_eq_true rfl⟩ (s4 c1 i59_1 h59_1l h59_1r) ?_
        refine b_icmp_eq (d59 (j := 26) rfl) (fun c3 => ?_) (fun c3 => ?_)
        ·
          refine b_iinc [uR 6 1, uX (x1 + 2), uI (i59_1 + 1)] (d59 (j := 29) rfl) rfl (by decide) (s5 c1 i59_1 h59_1l h59_1r) rfl ?_
          refine b_goto (d59 (j := 30) rfl) ?_
          exact hk59_1
        ·
          refine b_iconst (d59 (j := 27) rfl) (by decide) ?_
          exfalso; omega
    ·
      subst he
      refine b_iload_n (d59 (j := 12) rfl) rfl ?_
      refine b_aload_nX (d59 (j := 13) rfl) rfl ?_
      refine b_slen (d59 (j := 14) rfl) rfl ⟨by decide, Nat.le_of_ble_eq_true rfl⟩ (s1) ?_
      refine b_icmp_ge (d59 (j := 15) rfl) (fun c4 => ?_) (fun c4 => ?_)
      · exfalso; omega
      ·
        refine b_aload_n (d59 (j := 16) rfl) rfl ?_
        refine b_getR (d59 (j := 17) rfl) rfl rfl rfl rfl ?_
        refine b_stk [uR 29 2] rfl ?_
        refine b_aload_n (d59 (j := 18) rfl) rfl ?_
        refine b_getI (d59 (j := 19) rfl) rfl rfl rfl rfl (Or.inl rfl) ?_
        refine b_stk [uI (M 1 4), uR 29 2] rfl ?_
        refine b_iload_n (d59 (j := 20) rfl) rfl ?_
        refine b_iadd (d59 (j := 21) rfl) rfl rfl ?_
        refine b_stk [uI ((M 1 4) + (dsFind (fun (i59_1 : Int) => ¬ ((M 2 ((M 1 4) + i59_1)) = (dsChr x1 i59_1))) 0 (dsLen x1))), uR 29 2] (by rw [dsw_b (s3 c1 (dsFind (fun (i59_1 : Int) => ¬ ((M 2 ((M 1 4) + i59_1)) = (dsChr x1 i59_1))) 0 (dsLen x1)) h59_1l h59_1r) (by decide)]) ?_
        refine b_baload (d59 (j := 22) rfl) (Or.inl rfl) (s3 c1 (dsFind (fun (i59_1 : Int) => ¬ ((M 2 ((M 1 4) + i59_1)) = (dsChr x1 i59_1))) 0 (dsLen x1)) h59_1l h59_1r) ?_
        refine b_aload_nX (d59 (j := 23) rfl) rfl ?_
        refine b_iload_n (d59 (j := 24) rfl) rfl ?_
        refine b_schr (d59 (j := 25) rfl) rfl ⟨by decide, Nat.le_of_ble_eq_true rfl⟩ (s4 c1 (dsFind (fun (i59_1 : Int) => ¬ ((M 2 ((M 1 4) + i59_1)) = (dsChr x1 i59_1))) 0 (dsLen x1)) h59_1l h59_1r) ?_
        refine b_icmp_eq (d59 (j := 26) rfl) (fun c5 => ?_) (fun c5 => ?_)
        ·
          refine b_iinc [uR 6 1, uX (x1 + 2), uI ((dsFind (fun (i59_1 : Int) => ¬ ((M 2 ((M 1 4) + i59_1)) = (dsChr x1 i59_1))) 0 (dsLen x1)) + 1)] (d59 (j := 29) rfl) rfl (by decide) (s5 c1 (dsFind (fun (i59_1 : Int) => ¬ ((M 2 ((M 1 4) + i59_1)) = (dsChr x1 i59_1))) 0 (dsLen x1)) h59_1l h59_1r) rfl ?_
          refine b_goto (d59 (j := 30) rfl) ?_
          exfalso; omega
        ·
          refine b_iconst (d59 (j := 27) rfl) (by decide) ?_
          exact b_zret (d59 (j := 28) rfl) rfl (by decide) (k1 c1 h59_1r)
    ·
      refine b_iload_n (d59 (j := 12) rfl) rfl ?_
      refine b_aload_nX (d59 (j := 13) rfl) rfl ?_
      refine b_slen (d59 (j := 14) rfl) rfl ⟨by decide, Nat.le_of_ble_eq_true rfl⟩ s1 ?_
      refine b_icmp_ge (d59 (j := 15) rfl) (fun c6 => ?_) (fun c6 => ?_)
      rotate_left
      · exfalso; omega
      ·
        refine b_iconst (d59 (j := 31) rfl) (by decide) ?_
        exact b_zret (d59 (j := 32) rfl) rfl (by decide) (k2 c1 he)
  ·
    refine b_iconst (d59 (j := 8) rfl) (by decide) ?_
    exact b_zret (d59 (j := 9) rfl) rfl (by decide) (k3 c1)
