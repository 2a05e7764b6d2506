def L7 : List (Nat × Instr × Nat × Nat) := [(0, .aload_n 0, 1, 0), (1, .invokevirtual 66, 4, 0), (4, .iload_n 1, 5, 0), (5, .ifCond .ne 7, 8, 12), (8, .aload_n 0, 9, 0), (9, .invokevirtual 69, 12, 0), (12, .aload_n 0, 13, 0), (13, .getfield 34, 16, 0), (16, .iload_n 1, 17, 0), (17, .iaload, 18, 0), (18, .aload_n 0, 19, 0), (19, .getfield 62, 22, 0), (22, .invokevirtual 72, 25, 0), (25, .if_icmp .ne 7, 28, 32), (28, .iconst 1, 29, 0), (29, .goto 4, 32, 33), (32, .iconst 0, 33, 0), (33, .istore_n 3, 34, 0), (34, .iload_n 1, 35, 0), (35, .istore 4, 37, 0), (37, .iload 4, 39, 0), (39, .aload_n 0, 40, 0), (40, .getfield 62, 43, 0), (43, .getfield 78, 46, 0), (46, .if_icmp .ge 66, 49, 112), (49, .iload_n 3, 50, 0), (50, .ifCond .ne 7, 53, 57), (53, .iload_n 2, 54, 0), (54, .ifCond .ne 58, 57, 112), (57, .aload_n 0, 58, 0), (58, .iload 4, 60, 0), (60, .invokevirtual 81, 63, 0), (63, .aload_n 0, 64, 0), (64, .iload 4, 66, 0), (66, .invokevirtual 85, 69, 0), (69, .aload_n 0, 70, 0), (70, .iload 4, 72, 0), (72, .invokevirtual 88, 75, 0), (75, .aload_n 0, 76, 0), (76, .iload 4, 78, 0), (78, .invokevirtual 91, 81, 0), (81, .aload_n 0, 82, 0), (82, .getfield 34, 85, 0), (85, .iload 4, 87, 0), (87, .iconst 1, 88, 0), (88, .iadd, 89, 0), (89, .iaload, 90, 0), (90, .aload_n 0, 91, 0), (91, .getfield 62, 94, 0), (94, .invokevirtual 72, 97, 0), (97, .if_icmp .ne 7, 100, 104), (100, .iconst 1, 101, 0), (101, .goto 4, 104, 105), (104, .iconst 0, 105, 0), (105, .istore_n 3, 106, 0), (106, .iinc 4 1, 109, 0), (109, .goto (-72), 112, 37), (112, .iload_n 3, 113, 0), (113, .ireturn, 114, 0)]
set_option maxRecDepth 100000 in
theorem L7_ok : L7.all (dck 7) = true := by decide +kernel
theorem d7 {j pc nx tg : Nat} {ins : Instr} (hj : L7[j]? = some (pc, ins, nx, tg)) : dcd 7 pc ins nx tg := dcl_ok L7_ok hj
set_option maxRecDepth 100000 in
set_option maxHeartbeats 4000000 in
theorem r7_0 {x0 x1 x2 : Int} {R1 : dsMem → Prop} {R2 : dsMem → dsMem → Prop} {M : dsMem} {Q : bQT} (hA1 : bCt 8 [uR 5 x0, uX 0] M (fun _ => []) R1) (s1 : ∀ M1 : dsMem, R1 M1 → (¬ x1 = 0) → 0 ≤ x1 ∧ x1 < 13 := by intros; omega) (s2 : ∀ M1 : dsMem, R1 M1 → (¬ x1 = 0) → -2147483648 ≤ ((dsShl 1 (M1 24 4)) - 1) ∧ ((dsShl 1 (M1 24 4)) - 1) < 2147483648 := by intros; omega) (k1 : ∀ M1 : dsMem, R1 M1 → (¬ x1 = 0) → (¬ (M1 (x0 + 7) x1) = ((dsShl 1 (M1 24 4)) - 1)) → bB 7 37 [uR 5 x0, uX 0, uI x2, uI 0, uI x1] [] M1 Q) (k2 : ∀ M1 : dsMem, R1 M1 → (¬ x1 = 0) → ((M1 (x0 + 7) x1) = ((dsShl 1 (M1 24 4)) - 1)) → bB 7 37 [uR 5 x0, uX 0, uI x2, uI 1, uI x1] [] M1 Q) (hA2 : ∀ M1 : dsMem, R1 M1 → (x1 = 0) → bCt 9 [uR 5 x0, uX 0] M1 (fun _ => []) (R2 M1)) (s3 : ∀ M1 : dsMem, R1 M1 → (x1 = 0) → ∀ M2 : dsMem, R2 M1 M2 → 0 ≤ x1 ∧ x1 < 13 := by intros; omega) (s4 : ∀ M1 : dsMem, R1 M1 → (x1 = 0) → ∀ M2 : dsMem, R2 M1 M2 → -2147483648 ≤ ((dsShl 1 (M2 24 4)) - 1) ∧ ((dsShl 1 (M2 24 4)) - 1) < 2147483648 := by intros; omega) (k3 : ∀ M1 : dsMem, R1 M1 → (x1 = 0) → ∀ M2 : dsMem, R2 M1 M2 → (¬ (M2 (x0 + 7) x1) = ((dsShl 1 (M2 24 4)) - 1)) → bB 7 37 [uR 5 x0, uX 0, uI x2, uI 0, uI x1] [] M2 Q) (k4 : ∀ M1 : dsMem, R1 M1 → (x1 = 0) → ∀ M2 : dsMem, R2 M1 M2 → ((M2 (x0 + 7) x1) = ((dsShl 1 (M2 24 4)) - 1)) → bB 7 37 [uR 5 x0, uX 0, uI x2, uI 1, uI x1] [] M2 Q) :
    bB 7 0 [uR 5 x0, uI x1, uI x2, uX 0, uX 0] [] M Q := by
  refine b_aload_n (d7 (j := 0) rfl) rfl ?_
  refine b_callV (d7 (j := 1) rfl) rfl rfl (Or.inl rfl) rfl (bCk_mk (n := 0) (k := 1) (by decide +kernel) rfl rfl) ((hA1) _ (fun M1 hR1 => ?_))
  refine b_stk [] rfl ?_
  refine b_iload_n (d7 (j := 2) rfl) rfl ?_
  refine b_if_ne (d7 (j := 3) rfl) (fun c1 => ?_) (fun c1 => ?_)
  ·
    refine b_aload_n (d7 (j := 6) rfl) rfl ?_
    refine b_getR (d7 (j := 7) rfl) rfl rfl rfl rfl ?_
    refine b_iload_n (d7 (j := 8) rfl) rfl ?_
    refine b_iaload (d7 (j := 9) rfl) rfl (s1 M1 hR1 c1) ?_
    refine b_aload_n (d7 (j := 10) rfl) rfl ?_
    refine b_getRA (d7 (j := 11) rfl) rfl rfl rfl rfl ?_
    refine b_callV (d7 (j := 12) rfl) rfl rfl (Or.inl rfl) rfl (bCk_mk (n := 1) (k := 1) (by decide +kernel) rfl rfl) (pu63 (s2 M1 hR1 c1) ?_)
    refine b_stk [uI ((dsShl 1 (M1 24 4)) - 1), uI (M1 (x0 + 7) x1)] rfl ?_
    refine b_icmp_ne (d7 (j := 13) rfl) (fun c2 => ?_) (fun c2 => ?_)
    ·
      refine b_iconst (d7 (j := 16) rfl) (by decide) ?_
      refine b_istore_n [uR 5 x0, uI x1, uI x2, uI 0, uX 0] (d7 (j := 17) rfl) (by decide) rfl ?_
      refine b_iload_n (d7 (j := 18) rfl) rfl ?_
      refine b_istore [uR 5 x0, uI x1, uI x2, uI 0, uI x1] (d7 (j := 19) rfl) (by decide) rfl ?_
      exact bB_le _ (bLe_s (bLe_x (bLe_s (bLe_s (bLe_s bLe_nil))))) (k1 M1 hR1 c1 c2)
    ·
      refine b_iconst (d7 (j := 14) rfl) (by decide) ?_
      refine b_goto (d7 (j := 15) rfl) ?_
      refine b_istore_n [uR 5 x0, uI x1, uI x2, uI 1, uX 0] (d7 (j := 17) rfl) (by decide) rfl ?_
      refine b_iload_n (d7 (j := 18) rfl) rfl ?_
      refine b_istore [uR 5 x0, uI x1, uI x2, uI 1, uI x1] (d7 (j := 19) rfl) (by decide) rfl ?_
      exact bB_le _ (bLe_s (bLe_x (bLe_s (bLe_s (bLe_s bLe_nil))))) (k2 M1 hR1 c1 c2)
  ·
    refine b_aload_n (d7 (j := 4) rfl) rfl ?_
    refine b_callV (d7 (j := 5) rfl) rfl rfl (Or.inl rfl) rfl (bCk_mk (n := 0) (k := 1) (by decide +kernel) rfl rfl) ((hA2 M1 hR1 c1) _ (fun M2 hR2 => ?_))
    refine b_stk [] rfl ?_
    refine b_aload_n (d7 (j := 6) rfl) rfl ?_
    refine b_getR (d7 (j := 7) rfl) rfl rfl rfl rfl ?_
    refine b_iload_n (d7 (j := 8) rfl) rfl ?_
    refine b_iaload (d7 (j := 9) rfl) rfl (s3 M1 hR1 c1 M2 hR2) ?_
    refine b_aload_n (d7 (j := 10) rfl) rfl ?_
    refine b_getRA (d7 (j := 11) rfl) rfl rfl rfl rfl ?_
    refine b_callV (d7 (j := 12) rfl) rfl rfl (Or.inl rfl) rfl (bCk_mk (n := 1) (k := 1) (by decide +kernel) rfl rfl) (pu63 (s4 M1 hR1 c1 M2 hR2) ?_)
    refine b_stk [uI ((dsShl 1 (M2 24 4)) - 1), uI (M2 (x0 + 7) x1)] rfl ?_
    refine b_icmp_ne (d7 (j := 13) rfl) (fun c3 => ?_) (fun c3 => ?_)
    ·
      refine b_iconst (d7 (j := 16) rfl) (by decide) ?_
      refine b_istore_n [uR 5 x0, uI x1, uI x2, uI 0, uX 0] (d7 (j := 17) rfl) (by decide) rfl ?_
      refine b_iload_n (d7 (j := 18) rfl) rfl ?_
      refine b_istore [uR 5 x0, uI x1, uI x2, uI 0, uI x1] (d7 (j := 19) rfl) (by decide) rfl ?_
      exact bB_le _ (bLe_s (bLe_x (bLe_s (bLe_s (bLe_s bLe_nil))))) (k3 M1 hR1 c1 M2 hR2 c3)
    ·
      refine b_iconst (d7 (j := 14) rfl) (by decide) ?_
      refine b_goto (d7 (j := 15) rfl) ?_
      refine b_istore_n [uR 5 x0, uI x1, uI x2, uI 1, uX 0] (d7 (j := 17) rfl) (by decide) rfl ?_
      refine b_iload_n (d7 (j := 18) rfl) rfl ?_
      refine b_istore [uR 5 x0, uI x1, uI x2, uI 1, uI x1] (d7 (j := 19) rfl) (by decide) rfl ?_
      exact bB_le _ (bLe_s (bLe_x (bLe_s (bLe_s (bLe_s bLe_nil))))) (k4 M1 hR1 c1 M2 hR2 c3)
set_option maxRecDepth 100000 in
set_option maxHeartbeats 4000000 in
theorem r7_37 {x0 x2 x3 x4 : Int} {R1 : dsMem → Prop} {R2 : dsMem → dsMem → Prop} {R3 : dsMem → dsMem → dsMem → Prop} {R4 : dsMem → dsMem → dsMem → dsMem → Prop} {R5 : dsMem → Prop} {R6 : dsMem → dsMem → Prop} {R7 : dsMem → dsMem → dsMem → Prop} {R8 : dsMem → dsMem → dsMem → dsMem → Prop} {M : dsMem} {Q : bQT} (k1 : ((M 24 1) ≤ x4) → Q [uI x3] M) (s1 : ((M 24 1) ≤ x4) → x3 = 0 ∨ x3 = 1 := by intros; omega) (hA1 : (¬ (M 24 1) ≤ x4) → (¬ x3 = 0) → bCt 11 [uR 5 x0, uI x4, uX 0] M (fun _ => []) R1) (hA2 : (¬ (M 24 1) ≤ x4) → (¬ x3 = 0) → ∀ M1 : dsMem, R1 M1 → bCt 13 [uR 5 x0, uI x4, uX 0, uX 0, uX 0, uX 0, uX 0, uX 0, uX 0] M1 (fun _ => []) (R2 M1)) (hA3 : (¬ (M 24 1) ≤ x4) → (¬ x3 = 0) → ∀ M1 : dsMem, R1 M1 → ∀ M2 : dsMem, R2 M1 M2 → bCt 19 [uR 5 x0, uI x4, uX 0, uX 0, uX 0, uX 0, uX 0, uX 0] M2 (fun _ => []) (R3 M1 M2)) (hA4 : (¬ (M 24 1) ≤ x4) → (¬ x3 = 0) → ∀ M1 : dsMem, R1 M1 → ∀ M2 : dsMem, R2 M1 M2 → ∀ M3 : dsMem, R3 M1 M2 M3 → bCt 21 [uR 5 x0, uI x4, uX 0, uX 0, uX 0, uX 0] M3 (fun _ => []) (R4 M1 M2 M3)) (s2 : (¬ (M 24 1) ≤ x4) → (¬ x3 = 0) → ∀ M1 : dsMem, R1 M1 → ∀ M2 : dsMem, R2 M1 M2 → ∀ M3 : dsMem, R3 M1 M2 M3 → ∀ M4 : dsMem, R4 M1 M2 M3 M4 → 0 ≤ (x4 + 1) ∧ (x4 + 1) < 13 := by intros; omega) (s3 : (¬ (M 24 1) ≤ x4) → (¬ x3 = 0) → ∀ M1 : dsMem, R1 M1 → ∀ M2 : dsMem, R2 M1 M2 → ∀ M3 : dsMem, R3 M1 M2 M3 → ∀ M4 : dsMem, R4 M1 M2 M3 M4 → -2147483648 ≤ ((dsShl 1 (M4 24 4)) - 1) ∧ ((dsShl 1 (M4 24 4)) - 1) < 2147483648 := by intros; omega) (s4 : (¬ (M 24 1) ≤ x4) → (¬ x3 = 0) → ∀ M1 : dsMem, R1 M1 → ∀ M2 : dsMem, R2 M1 M2 → ∀ M3 : dsMem, R3 M1 M2 M3 → ∀ M4 : dsMem, R4 M1 M2 M3 M4 → (¬ (M4 (x0 + 7) (x4 + 1)) = ((dsShl 1 (M4 24 4)) - 1)) → -2147483648 ≤ x4 + 1 ∧ x4 + 1 < 2147483648 := by intros; omega) (k2 : (¬ (M 24 1) ≤ x4) → (¬ x3 = 0) → ∀ M1 : dsMem, R1 M1 → ∀ M2 : dsMem, R2 M1 M2 → ∀ M3 : dsMem, R3 M1 M2 M3 → ∀ M4 : dsMem, R4 M1 M2 M3 M4 → (¬ (M4 (x0 + 7) (x4 + 1)) = ((dsShl 1 (M4 24 4)) - 1)) → bB 7 37 [uR 5 x0, uX 0, uI x2, uI 0, uI (x4 + 1)] [] M4 Q) (s5 : (¬ (M 24 1) ≤ x4) → (¬ x3 = 0) → ∀ M1 : dsMem, R1 M1 → ∀ M2 : dsMem, R2 M1 M2 → ∀ M3 : dsMem, R3 M1 M2 M3 → ∀ M4 : dsMem, R4 M1 M2 M3 M4 → ((M4 (x0 + 7) (x4 + 1)) = ((dsShl 1 (M4 24 4)) - 1)) → -2147483648 ≤ x4 + 1 ∧ x4 + 1 < 2147483648 := by intros; omega) (k3 : (¬ (M 24 1) ≤ x4) → (¬ x3 = 0) → ∀ M1 : dsMem, R1 M1 → ∀ M2 : dsMem, R2 M1 M2 → ∀ M3 : dsMem, R3 M1 M2 M3 → ∀ M4 : dsMem, R4 M1 M2 M3 M4 → ((M4 (x0 + 7) (x4 + 1)) = ((dsShl 1 (M4 24 4)) - 1)) → bB 7 37 [uR 5 x0, uX 0, uI x2, uI 1, uI (x4 + 1)] [] M4 Q) (k4 : (¬ (M 24 1) ≤ x4) → (x3 = 0) → (¬ x2 = 0) → Q [uI x3] M) (s6 : (¬ (M 24 1) ≤ x4) → (x3 = 0) → (¬ x2 = 0) → x3 = 0 ∨ x3 = 1 := by intros; omega) (hA5 : (¬ (M 24 1) ≤ x4) → (x3 = 0) → (x2 = 0) → bCt 11 [uR 5 x0, uI x4, uX 0] M (fun _ => []) R5) (hA6 : (¬ (M 24 1) ≤ x4) → (x3 = 0) → (x2 = 0) → ∀ M5 : dsMem, R5 M5 → bCt 13 [uR 5 x0, uI x4, uX 0, uX 0, uX 0, uX 0, uX 0, uX 0, uX 0] M5 (fun _ => []) (R6 M5)) (hA7 : (¬ (M 24 1) ≤ x4) → (x3 = 0) → (x2 = 0) → ∀ M5 : dsMem, R5 M5 → ∀ M6 : dsMem, R6 M5 M6 → bCt 19 [uR 5 x0, uI x4, uX 0, uX 0, uX 0, uX 0, uX 0, uX 0] M6 (fun _ => []) (R7 M5 M6)) (hA8 : (¬ (M 24 1) ≤ x4) → (x3 = 0) → (x2 = 0) → ∀ M5 : dsMem, R5 M5 → ∀ M6 : dsMem, R6 M5 M6 → ∀ M7 : dsMem, R7 M5 M6 M7 → bCt 21 [uR 5 x0, uI x4, uX 0, uX 0, uX 0, uX 0] M7 (fun _ => []) (R8 M5 M6 M7)) (s7 : (¬ (M 24 1) ≤ x4) → (x3 = 0) → (x2 = 0) → ∀ M5 : dsMem, R5 M5 → ∀ M6 : dsMem, R6 M5 M6 → ∀ M7 : dsMem, R7 M5 M6 M7 → ∀ M8 : dsMem, R8 M5 M6 M7 M8 → 0 ≤ (x4 + 1) ∧ (x4 + 1) < 13 := by intros; omega) (s8 : (¬ (M 24 1) ≤ x4) → (x3 = 0) → (x2 = 0) → ∀ M5 : dsMem, R5 M5 → ∀ M6 : dsMem, R6 M5 M6 → ∀ M7 : dsMem, R7 M5 M6 M7 → ∀ M8 : dsMem, R8 M5 M6 M7 M8 → -2147483648 ≤ ((dsShl 1 (M8 24 4)) - 1) ∧ ((dsShl 1 (M8 24 4)) - 1) < 2147483648 := by intros; omega) (s9 : (¬ (M 24 1) ≤ x4) → (x3 = 0) → (x2 = 0) → ∀ M5 : dsMem, R5 M5 → ∀ M6 : dsMem, R6 M5 M6 → ∀ M7 : dsMem, R7 M5 M6 M7 → ∀ M8 : dsMem, R8 M5 M6 M7 M8 → (¬ (M8 (x0 + 7) (x4 + 1)) = ((dsShl 1 (M8 24 4)) - 1)) → -2147483648 ≤ x4 + 1 ∧ x4 + 1 < 2147483648 := by intros; omega) (k5 : (¬ (M 24 1) ≤ x4) → (x3 = 0) → (x2 = 0) → ∀ M5 : dsMem, R5 M5 → ∀ M6 : dsMem, R6 M5 M6 → ∀ M7 : dsMem, R7 M5 M6 M7 → ∀ M8 : dsMem, R8 M5 M6 M7 M8 → (¬ (M8 (x0 + 7) (x4 + 1)) = ((dsShl 1 (M8 24 4)) - 1)) → bB 7 37 [uR 5 x0, uX 0, uI x2, uI 0, uI (x4 + 1)] [] M8 Q) (s10 : (¬ (M 24 1) ≤ x4) → (x3 = 0) → (x2 = 0) → ∀ M5 : dsMem, R5 M5 → ∀ M6 : dsMem, R6 M5 M6 → ∀ M7 : dsMem, R7 M5 M6 M7 → ∀ M8 : dsMem, R8 M5 M6 M7 M8 → ((M8 (x0 + 7) (x4 + 1)) = ((dsShl 1 (M8 24 4)) - 1)) → -2147483648 ≤ x4 + 1 ∧ x4 + 1 < 2147483648 := by intros; omega) (k6 : (¬ (M 24 1) ≤ x4) → (x3 = 0) → (x2 = 0) → ∀ M5 : dsMem, R5 M5 → ∀ M6 : dsMem, R6 M5 M6 → ∀ M7 : dsMem, R7 M5 M6 M7 → ∀ M8 : dsMem, R8 M5 M6 M7 M8 → ((M8 (x0 + 7) (x4 + 1)) = ((dsShl 1 (M8 24 4)) - 1)) → bB 7 37 [uR 5 x0, uX 0, uI x2, uI 1, uI (x4 + 1)] [] M8 Q) :
    bB 7 37 [uR 5 x0, uX 0, uI x2, uI x3, uI x4] [] M Q := by
  refine b_iload (d7 (j := 20) rfl) rfl ?_
  refine b_aload_n (d7 (j := 21) rfl) rfl ?_
  refine b_getRA (d7 (j := 22) rfl) rfl rfl rfl rfl ?_
  refine b_getI (d7 (j := 23) rfl) rfl rfl rfl rfl (Or.inl rfl) ?_
  refine b_stk [uI (M 24 1), uI x4] rfl ?_
  refine b_icmp_ge (d7 (j := 24) rfl) (fun c1 => ?_) (fun c1 => ?_)
  ·
    refine b_iload_n (d7 (j := 57) rfl) rfl ?_
    exact b_zret (d7 (j := 58) rfl) rfl (s1 c1) (k1 c1)
  ·
    refine b_iload_n (d7 (j := 25) rfl) rfl ?_
    refine b_if_ne (d7 (j := 26) rfl) (fun c2 => ?_) (fun c2 => ?_)
    ·
      refine b_aload_n (d7 (j := 29) rfl) rfl ?_
      refine b_iload (d7 (j := 30) rfl) rfl ?_
      refine b_callV (d7 (j := 31) rfl) rfl rfl (Or.inl rfl) rfl (bCk_mk (n := 0) (k := 2) (by decide +kernel) rfl rfl) ((hA1 c1 c2) _ (fun M1 hR1 => ?_))
      refine b_stk [] rfl ?_
      refine b_aload_n (d7 (j := 32) rfl) rfl ?_
      refine b_iload (d7 (j := 33) rfl) rfl ?_
      refine b_callV (d7 (j := 34) rfl) rfl rfl (Or.inl rfl) rfl (bCk_mk (n := 0) (k := 2) (by decide +kernel) rfl rfl) ((hA2 c1 c2 M1 hR1) _ (fun M2 hR2 => ?_))
      refine b_stk [] rfl ?_
      refine b_aload_n (d7 (j := 35) rfl) rfl ?_
      refine b_iload (d7 (j := 36) rfl) rfl ?_
      refine b_callV (d7 (j := 37) rfl) rfl rfl (Or.inl rfl) rfl (bCk_mk (n := 0) (k := 2) (by decide +kernel) rfl rfl) ((hA3 c1 c2 M1 hR1 M2 hR2) _ (fun M3 hR3 => ?_))
      refine b_stk [] rfl ?_
      refine b_aload_n (d7 (j := 38) rfl) rfl ?_
      refine b_iload (d7 (j := 39) rfl) rfl ?_
      refine b_callV (d7 (j := 40) rfl) rfl rfl (Or.inl rfl) rfl (bCk_mk (n := 0) (k := 2) (by decide +kernel) rfl rfl) ((hA4 c1 c2 M1 hR1 M2 hR2 M3 hR3) _ (fun M4 hR4 => ?_))
      refine b_stk [] rfl ?_
      refine b_aload_n (d7 (j := 41) rfl) rfl ?_
      refine b_getR (d7 (j := 42) rfl) rfl rfl rfl rfl ?_
      refine b_iload (d7 (j := 43) rfl) rfl ?_
      refine b_iconst (d7 (j := 44) rfl) (by decide) ?_
      refine b_iadd (d7 (j := 45) rfl) rfl rfl ?_
      refine b_stk [uI (x4 + 1), uR 27 (x0 + 7)] (by rw [dsw_b (s2 c1 c2 M1 hR1 M2 hR2 M3 hR3 M4 hR4) (by decide)]) ?_
      refine b_iaload (d7 (j := 46) rfl) rfl (s2 c1 c2 M1 hR1 M2 hR2 M3 hR3 M4 hR4) ?_
      refine b_aload_n (d7 (j := 47) rfl) rfl ?_
      refine b_getRA (d7 (j := 48) rfl) rfl rfl rfl rfl ?_
      refine b_callV (d7 (j := 49) rfl) rfl rfl (Or.inl rfl) rfl (bCk_mk (n := 1) (k := 1) (by decide +kernel) rfl rfl) (pu63 (s3 c1 c2 M1 hR1 M2 hR2 M3 hR3 M4 hR4) ?_)
      refine b_stk [uI ((dsShl 1 (M4 24 4)) - 1), uI (M4 (x0 + 7) (x4 + 1))] rfl ?_
      refine b_icmp_ne (d7 (j := 50) rfl) (fun c3 => ?_) (fun c3 => ?_)
      ·
        refine b_iconst (d7 (j := 53) rfl) (by decide) ?_
        refine b_istore_n [uR 5 x0, uX 0, uI x2, uI 0, uI x4] (d7 (j := 54) rfl) (by decide) rfl ?_
        refine b_iinc [uR 5 x0, uX 0, uI x2, uI 0, uI (x4 + 1)] (d7 (j := 55) rfl) rfl (by decide) (s4 c1 c2 M1 hR1 M2 hR2 M3 hR3 M4 hR4 c3) rfl ?_
        refine b_goto (d7 (j := 56) rfl) ?_
        exact (k2 c1 c2 M1 hR1 M2 hR2 M3 hR3 M4 hR4 c3)
      ·
        refine b_iconst (d7 (j := 51) rfl) (by decide) ?_
        refine b_goto (d7 (j := 52) rfl) ?_
        refine b_istore_n [uR 5 x0, uX 0, uI x2, uI 1, uI x4] (d7 (j := 54) rfl) (by decide) rfl ?_
        refine b_iinc [uR 5 x0, uX 0, uI x2, uI 1, uI (x4 + 1)] (d7 (j := 55) rfl) rfl (by decide) (s5 c1 c2 M1 hR1 M2 hR2 M3 hR3 M4 hR4 c3) rfl ?_
        refine b_goto (d7 (j := 56) rfl) ?_
        exact (k3 c1 c2 M1 hR1 M2 hR2 M3 hR3 M4 hR4 c3)
    ·
      refine b_iload_n (d7 (j := 27) rfl) rfl ?_
      refine b_if_ne (d7 (j := 28) rfl) (fun c4 => ?_) (fun c4 => ?_)
      ·
        refine b_iload_n (d7 (j := 57) rfl) rfl ?_
        exact b_zret (d7 (j := 58) rfl) rfl (s6 c1 c2 c4) (k4 c1 c2 c4)
      ·
        refine b_aload_n (d7 (j := 29) rfl) rfl ?_
        refine b_iload (d7 (j := 30) rfl) rfl ?_
        refine b_callV (d7 (j := 31) rfl) rfl rfl (Or.inl rfl) rfl (bCk_mk (n := 0) (k := 2) (by decide +kernel) rfl rfl) ((hA5 c1 c2 c4) _ (fun M5 hR5 => ?_))
        refine b_stk [] rfl ?_
        refine b_aload_n (d7 (j := 32) rfl) rfl ?_
        refine b_iload (d7 (j := 33) rfl) rfl ?_
        refine b_callV (d7 (j := 34) rfl) rfl rfl (Or.inl rfl) rfl (bCk_mk (n := 0) (k := 2) (by decide +kernel) rfl rfl) ((hA6 c1 c2 c4 M5 hR5) _ (fun M6 hR6 => ?_))
        refine b_stk [] rfl ?_
        refine b_aload_n (d7 (j := 35) rfl) rfl ?_
        refine b_iload (d7 (j := 36) rfl) rfl ?_
        refine b_callV (d7 (j := 37) rfl) rfl rfl (Or.inl rfl) rfl (bCk_mk (n := 0) (k := 2) (by decide +kernel) rfl rfl) ((hA7 c1 c2 c4 M5 hR5 M6 hR6) _ (fun M7 hR7 => ?_))
        refine b_stk [] rfl ?_
        refine b_aload_n (d7 (j := 38) rfl) rfl ?_
        refine b_iload (d7 (j := 39) rfl) rfl ?_
        refine b_callV (d7 (j := 40) rfl) rfl rfl (Or.inl rfl) rfl (bCk_mk (n := 0) (k := 2) (by decide +kernel) rfl rfl) ((hA8 c1 c2 c4 M5 hR5 M6 hR6 M7 hR7) _ (fun M8 hR8 => ?_))
        refine b_stk [] rfl ?_
        refine b_aload_n (d7 (j := 41) rfl) rfl ?_
        refine b_getR (d7 (j := 42) rfl) rfl rfl rfl rfl ?_
        refine b_iload (d7 (j := 43) rfl) rfl ?_
        refine b_iconst (d7 (j := 44) rfl) (by decide) ?_
        refine b_iadd (d7 (j := 45) rfl) rfl rfl ?_
        refine b_stk [uI (x4 + 1), uR 27 (x0 + 7)] (by rw [dsw_b (s7 c1 c2 c4 M5 hR5 M6 hR6 M7 hR7 M8 hR8) (by decide)]) ?_
        refine b_iaload (d7 (j := 46) rfl) rfl (s7 c1 c2 c4 M5 hR5 M6 hR6 M7 hR7 M8 hR8) ?_
        refine b_aload_n (d7 (j := 47) rfl) rfl ?_
        refine b_getRA (d7 (j := 48) rfl) rfl rfl rfl rfl ?_
        refine b_callV (d7 (j := 49) rfl) rfl rfl (Or.inl rfl) rfl (bCk_mk (n := 1) (k := 1) (by decide +kernel) rfl rfl) (pu63 (s8 c1 c2 c4 M5 hR5 M6 hR6 M7 hR7 M8 hR8) ?_)
        refine b_stk [uI ((dsShl 1 (M8 24 4)) - 1), uI (M8 (x0 + 7) (x4 + 1))] rfl ?_
        refine b_icmp_ne (d7 (j := 50) rfl) (fun c5 => ?_) (fun c5 => ?_)
        ·
          refine b_iconst (d7 (j := 53) rfl) (by decide) ?_
          refine b_istore_n [uR 5 x0, uX 0, uI x2, uI 0, uI x4] (d7 (j := 54) rfl) (by decide) rfl ?_
          refine b_iinc [uR 5 x0, uX 0, uI x2, uI 0, uI (x4 + 1)] (d7 (j := 55) rfl) rfl (by decide) (s9 c1 c2 c4 M5 hR5 M6 hR6 M7 hR7 M8 hR8 c5) rfl ?_
          refine b_goto (d7 (j := 56) rfl) ?_
          exact (k5 c1 c2 c4 M5 hR5 M6 hR6 M7 hR7 M8 hR8 c5)
        ·
          refine b_iconst (d7 (j := 51) rfl) (by decide) ?_
          refine b_goto (d7 (j := 52) rfl) ?_
          refine b_istore_n [uR 5 x0, uX 0, uI x2, uI 1, uI x4] (d7 (j := 54) rfl) (by decide) rfl ?_
          refine b_iinc [uR 5 x0, uX 0, uI x2, uI 1, uI (x4 + 1)] (d7 (j := 55) rfl) rfl (by decide) (s10 c1 c2 c4 M5 hR5 M6 hR6 M7 hR7 M8 hR8 c5) rfl ?_
          refine b_goto (d7 (j := 56) rfl) ?_
          exact (k6 c1 c2 c4 M5 hR5 M6 hR6 M7 hR7 M8 hR8 c5)
def L8 : List (Nat × Instr × Nat × Nat) := [(0, .aload_n 0, 1, 0), (1, .aload_n 0, 2, 0), (2, .getfield 12, 5, 0), (5, .getfield 94, 8, 0), (8, .iconst (-1), 9, 0), (9, .if_icmp .ne 13, 12, 22), (12, .aload_n 0, 13, 0), (13, .getfield 62, 16, 0), (16, .getfield 97, 19, 0), (19, .goto 10, 22, 29), (22, .aload_n 0, 23, 0), (23, .getfield 12, 26, 0), (26, .getfield 94, 29, 0), (29, .putfield 58, 32, 0), (32, .iconst 0, 33, 0), (33, .istore_n 1, 34, 0), (34, .iload_n 1, 35, 0), (35, .aload_n 0, 36, 0), (36, .getfield 62, 39, 0), (39, .getfield 100, 42, 0), (42, .if_icmp .ge 66, 45, 108), (45, .aload_n 0, 46, 0), (46, .getfield 55, 49, 0), (49, .iload_n 1, 50, 0), (50, .iload_n 1, 51, 0), (51, .aload_n 0, 52, 0), (52, .getfield 12, 55, 0), (55, .getfield 103, 58, 0), (58, .if_icmp .ne 13, 61, 71), (61, .aload_n 0, 62, 0), (62, .getfield 12, 65, 0), (65, .getfield 106, 68, 0), (68, .goto 12, 71, 80), (71, .aload_n 0, 72, 0), (72, .getfield 62, 75, 0), (75, .getfield 109, 78, 0), (78, .iload_n 1, 79, 0), (79, .iaload, 80, 0), (80, .iastore, 81, 0), (81, .aload_n 0, 82, 0), (82, .getfield 12, 85, 0), (85, .getfield 110, 88, 0), (88, .iload_n 1, 89, 0), (89, .invokestatic 113, 92, 0), (92, .ifCond .eq 10, 95, 102), (95, .aload_n 0, 96, 0), (96, .getfield 55, 99, 0), (99, .iload_n 1, 100, 0), (100, .iconst 0, 101, 0), (101, .iastore, 102, 0), (102, .iinc 1 1, 105, 0), (105, .goto (-71), 108, 34), (108, .return_, 109, 0)]
set_option maxRecDepth 100000 in
theorem L8_ok : L8.all (dck 8) = true := by decide +kernel
theorem d8 {j pc nx tg : Nat} {ins : Instr} (hj : L8[j]? = some (pc, ins, nx, tg)) : dcd 8 pc ins nx tg := dcl_ok L8_ok hj
set_option maxRecDepth 100000 in
set_option maxHeartbeats 4000000 in
theorem r8_0 {x0 : Int}  {M : dsMem} {Q : bQT} (k1 : (¬ (M (x0 + 1) 0) = -1) → bB 8 34 [uR 5 x0, uI 0] [] (dsSet M x0 14 (M (x0 + 1) 0)) Q) (k2 : ((M (x0 + 1) 0) = -1) → bB 8 34 [uR 5 x0, uI 0] [] (dsSet M x0 14 (M 24 2)) Q) :
    bB 8 0 [uR 5 x0, uX 0] [] M Q := by
  refine b_aload_n (d8 (j := 0) rfl) rfl ?_
  refine b_aload_n (d8 (j := 1) rfl) rfl ?_
  refine b_getR (d8 (j := 2) rfl) rfl rfl rfl rfl ?_
  refine b_getI (d8 (j := 3) rfl) rfl rfl rfl rfl (Or.inl rfl) ?_
  refine b_stk [uI (M (x0 + 1) 0), uR 5 x0] rfl ?_
  refine b_iconst (d8 (j := 4) rfl) (by decide) ?_
  refine b_icmp_ne (d8 (j := 5) rfl) (fun c1 => ?_) (fun c1 => ?_)
  ·
    refine b_aload_n (d8 (j := 10) rfl) rfl ?_
    refine b_getR (d8 (j := 11) rfl) rfl rfl rfl rfl ?_
    refine b_getI (d8 (j := 12) rfl) rfl rfl rfl rfl (Or.inl rfl) ?_
    refine b_stk [uI (M (x0 + 1) 0), uR 5 x0] rfl ?_
    refine b_putI (d8 (j := 13) rfl) rfl ⟨rfl, rfl⟩ rfl rfl ?_
    refine b_iconst (d8 (j := 14) rfl) (by decide) ?_
    refine b_istore_n [uR 5 x0, uI 0] (d8 (j := 15) rfl) (by decide) rfl ?_
    exact (k1 c1)
  ·
    refine b_aload_n (d8 (j := 6) rfl) rfl ?_
    refine b_getRA (d8 (j := 7) rfl) rfl rfl rfl rfl ?_
    refine b_getI (d8 (j := 8) rfl) rfl rfl rfl rfl (Or.inl rfl) ?_
    refine b_stk [uI (M 24 2), uR 5 x0] rfl ?_
    refine b_goto (d8 (j := 9) rfl) ?_
    refine b_putI (d8 (j := 13) rfl) rfl ⟨rfl, rfl⟩ rfl rfl ?_
    refine b_iconst (d8 (j := 14) rfl) (by decide) ?_
    refine b_istore_n [uR 5 x0, uI 0] (d8 (j := 15) rfl) (by decide) rfl ?_
    exact (k2 c1)
set_option maxRecDepth 100000 in
set_option maxHeartbeats 4000000 in
theorem r8_34 {x0 x1 : Int}  {M : dsMem} {Q : bQT} (k1 : ((M 24 5) ≤ x1) → Q [] M) (s1 : (¬ (M 24 5) ≤ x1) → (¬ x1 = (M (x0 + 1) 5)) → 0 ≤ x1 ∧ x1 < 6 := by intros; omega) (s2 : (¬ (M 24 5) ≤ x1) → (¬ x1 = (M (x0 + 1) 5)) → (¬ (dsAnd (dsShr (M (x0 + 1) 3) x1) 1 = 1)) → -2147483648 ≤ x1 + 1 ∧ x1 + 1 < 2147483648 := by intros; omega) (k2 : (¬ (M 24 5) ≤ x1) → (¬ x1 = (M (x0 + 1) 5)) → (¬ (dsAnd (dsShr (M (x0 + 1) 3) x1) 1 = 1)) → bB 8 34 [uR 5 x0, uI (x1 + 1)] [] (dsSet M (x0 + 14) x1 (M 27 x1)) Q) (s3 : (¬ (M 24 5) ≤ x1) → (¬ x1 = (M (x0 + 1) 5)) → ((dsAnd (dsShr (M (x0 + 1) 3) x1) 1 = 1)) → -2147483648 ≤ x1 + 1 ∧ x1 + 1 < 2147483648 := by intros; omega) (k3 : (¬ (M 24 5) ≤ x1) → (¬ x1 = (M (x0 + 1) 5)) → ((dsAnd (dsShr (M (x0 + 1) 3) x1) 1 = 1)) → bB 8 34 [uR 5 x0, uI (x1 + 1)] [] (dsSet (dsSet M (x0 + 14) x1 (M 27 x1)) (x0 + 14) x1 0) Q) (s4 : (¬ (M 24 5) ≤ x1) → (x1 = (M (x0 + 1) 5)) → 0 ≤ x1 ∧ x1 < 6 := by intros; omega) (s5 : (¬ (M 24 5) ≤ x1) → (x1 = (M (x0 + 1) 5)) → (¬ (dsAnd (dsShr (M (x0 + 1) 3) x1) 1 = 1)) → -2147483648 ≤ x1 + 1 ∧ x1 + 1 < 2147483648 := by intros; omega) (k4 : (¬ (M 24 5) ≤ x1) → (x1 = (M (x0 + 1) 5)) → (¬ (dsAnd (dsShr (M (x0 + 1) 3) x1) 1 = 1)) → bB 8 34 [uR 5 x0, uI (x1 + 1)] [] (dsSet M (x0 + 14) x1 (M (x0 + 1) 6)) Q) (s6 : (¬ (M 24 5) ≤ x1) → (x1 = (M (x0 + 1) 5)) → ((dsAnd (dsShr (M (x0 + 1) 3) x1) 1 = 1)) → -2147483648 ≤ x1 + 1 ∧ x1 + 1 < 2147483648 := by intros; omega) (k5 : (¬ (M 24 5) ≤ x1) → (x1 = (M (x0 + 1) 5)) → ((dsAnd (dsShr (M (x0 + 1) 3) x1) 1 = 1)) → bB 8 34 [uR 5 x0, uI (x1 + 1)] [] (dsSet (dsSet M (x0 + 14) x1 (M (x0 + 1) 6)) (x0 + 14) x1 0) Q) :
    bB 8 34 [uR 5 x0, uI x1] [] M Q := by
  refine b_iload_n (d8 (j := 16) rfl) rfl ?_
  refine b_aload_n (d8 (j := 17) rfl) rfl ?_
  refine b_getRA (d8 (j := 18) rfl) rfl rfl rfl rfl ?_
  refine b_getI (d8 (j := 19) rfl) rfl rfl rfl rfl (Or.inl rfl) ?_
  refine b_stk [uI (M 24 5), uI x1] rfl ?_
  refine b_icmp_ge (d8 (j := 20) rfl) (fun c1 => ?_) (fun c1 => ?_)
  ·
    exact b_vret (d8 (j := 52) rfl) rfl (k1 c1)
  ·
    refine b_aload_n (d8 (j := 21) rfl) rfl ?_
    refine b_getR (d8 (j := 22) rfl) rfl rfl rfl rfl ?_
    refine b_iload_n (d8 (j := 23) rfl) rfl ?_
    refine b_iload_n (d8 (j := 24) rfl) rfl ?_
    refine b_aload_n (d8 (j := 25) rfl) rfl ?_
    refine b_getR (d8 (j := 26) rfl) rfl rfl rfl rfl ?_
    refine b_getI (d8 (j := 27) rfl) rfl rfl rfl rfl (Or.inl rfl) ?_
    refine b_stk [uI (M (x0 + 1) 5), uI x1, uI x1, uR 21 (x0 + 14)] rfl ?_
    refine b_icmp_ne (d8 (j := 28) rfl) (fun c2 => ?_) (fun c2 => ?_)
    ·
      refine b_aload_n (d8 (j := 33) rfl) rfl ?_
      refine b_getRA (d8 (j := 34) rfl) rfl rfl rfl rfl ?_
      refine b_getR (d8 (j := 35) rfl) rfl rfl rfl rfl ?_
      refine b_stk [uR 21 27, uI x1, uR 21 (x0 + 14)] rfl ?_
      refine b_iload_n (d8 (j := 36) rfl) rfl ?_
      refine b_iaload (d8 (j := 37) rfl) rfl (s1 c1 c2) ?_
      refine b_iastore (d8 (j := 38) rfl) rfl (s1 c1 c2) ?_
      refine b_aload_n (d8 (j := 39) rfl) rfl ?_
      refine b_getR (d8 (j := 40) rfl) rfl rfl rfl rfl ?_
      refine b_getI (d8 (j := 41) rfl) rfl rfl rfl rfl (Or.inl rfl) ?_
      refine b_stk [uI (M (x0 + 1) 3)] (by rw [ds_get_ne (by omega)] <;> rfl) ?_
      refine b_iload_n (d8 (j := 42) rfl) rfl ?_
      refine b_callS (d8 (j := 43) rfl) (Or.inr rfl) rfl (bCk_mk (n := 0) (k := 2) (by decide +kernel) rfl rfl) (pu145 ?_)
      refine b_stk [uI (if (dsAnd (dsShr (M (x0 + 1) 3) x1) 1 = 1) then 1 else 0)] rfl ?_
      refine b_ifeqP (d8 (j := 44) rfl) (fun c3 => ?_) (fun c3 => ?_)
      ·
        refine b_iinc [uR 5 x0, uI (x1 + 1)] (d8 (j := 50) rfl) rfl (by decide) (s2 c1 c2 c3) rfl ?_
        refine b_goto (d8 (j := 51) rfl) ?_
        exact (k2 c1 c2 c3)
      ·
        refine b_aload_n (d8 (j := 45) rfl) rfl ?_
        refine b_getR (d8 (j := 46) rfl) rfl rfl rfl rfl ?_
        refine b_iload_n (d8 (j := 47) rfl) rfl ?_
        refine b_iconst (d8 (j := 48) rfl) (by decide) ?_
        refine b_iastore (d8 (j := 49) rfl) rfl (s1 c1 c2) ?_
        refine b_iinc [uR 5 x0, uI (x1 + 1)] (d8 (j := 50) rfl) rfl (by decide) (s3 c1 c2 c3) rfl ?_
        refine b_goto (d8 (j := 51) rfl) ?_
        exact (k3 c1 c2 c3)
    ·
      refine b_aload_n (d8 (j := 29) rfl) rfl ?_
      refine b_getR (d8 (j := 30) rfl) rfl rfl rfl rfl ?_
      refine b_getI (d8 (j := 31) rfl) rfl rfl rfl rfl (Or.inl rfl) ?_
      refine b_stk [uI (M (x0 + 1) 6), uI x1, uR 21 (x0 + 14)] rfl ?_
      refine b_goto (d8 (j := 32) rfl) ?_
      refine b_iastore (d8 (j := 38) rfl) rfl (s4 c1 c2) ?_
      refine b_aload_n (d8 (j := 39) rfl) rfl ?_
      refine b_getR (d8 (j := 40) rfl) rfl rfl rfl rfl ?_
      refine b_getI (d8 (j := 41) rfl) rfl rfl rfl rfl (Or.inl rfl) ?_
      refine b_stk [uI (M (x0 + 1) 3)] (by rw [ds_get_ne (by omega)] <;> rfl) ?_
      refine b_iload_n (d8 (j := 42) rfl) rfl ?_
      refine b_callS (d8 (j := 43) rfl) (Or.inr rfl) rfl (bCk_mk (n := 0) (k := 2) (by decide +kernel) rfl rfl) (pu145 ?_)
      refine b_stk [uI (if (dsAnd (dsShr (M (x0 + 1) 3) x1) 1 = 1) then 1 else 0)] rfl ?_
      refine b_ifeqP (d8 (j := 44) rfl) (fun c4 => ?_) (fun c4 => ?_)
      ·
        refine b_iinc [uR 5 x0, uI (x1 + 1)] (d8 (j := 50) rfl) rfl (by decide) (s5 c1 c2 c4) rfl ?_
        refine b_goto (d8 (j := 51) rfl) ?_
        exact (k4 c1 c2 c4)
      ·
        refine b_aload_n (d8 (j := 45) rfl) rfl ?_
        refine b_getR (d8 (j := 46) rfl) rfl rfl rfl rfl ?_
        refine b_iload_n (d8 (j := 47) rfl) rfl ?_
        refine b_iconst (d8 (j := 48) rfl) (by decide) ?_
        refine b_iastore (d8 (j := 49) rfl) rfl (s4 c1 c2) ?_
        refine b_iinc [uR 5 x0, uI (x1 + 1)] (d8 (j := 50) rfl) rfl (by decide) (s6 c1 c2 c4) rfl ?_
        refine b_goto (d8 (j := 51) rfl) ?_
        exact (k5 c1 c2 c4)
def L9 : List (Nat × Instr × Nat × Nat) := [(0, .iconst 0, 1, 0), (1, .istore_n 1, 2, 0), (2, .iload_n 1, 3, 0), (3, .bipush 6, 5, 0), (5, .if_icmp .ge 37, 8, 42), (8, .aload_n 0, 9, 0), (9, .getfield 25, 12, 0), (12, .iload_n 1, 13, 0), (13, .iconst 0, 14, 0), (14, .iastore, 15, 0), (15, .aload_n 0, 16, 0), (16, .getfield 28, 19, 0), (19, .iload_n 1, 20, 0), (20, .iconst 0, 21, 0), (21, .iastore, 22, 0), (22, .aload_n 0, 23, 0), (23, .getfield 46, 26, 0), (26, .iload_n 1, 27, 0), (27, .iconst 0, 28, 0), (28, .iastore, 29, 0), (29, .aload_n 0, 30, 0), (30, .getfield 49, 33, 0), (33, .iload_n 1, 34, 0), (34, .iconst 0, 35, 0), (35, .iastore, 36, 0), (36, .iinc 1 1, 39, 0), (39, .goto (-37), 42, 2), (42, .iconst 0, 43, 0), (43, .istore_n 1, 44, 0), (44, .iload_n 1, 45, 0), (45, .iconst 3, 46, 0), (46, .if_icmp .ge 16, 49, 62), (49, .aload_n 0, 50, 0), (50, .getfield 31, 53, 0), (53, .iload_n 1, 54, 0), (54, .iconst 0, 55, 0), (55, .iastore, 56, 0), (56, .iinc 1 1, 59, 0), (59, .goto (-15), 62, 44), (62, .iconst 0, 63, 0), (63, .istore_n 1, 64, 0), (64, .iload_n 1, 65, 0), (65, .iconst 5, 66, 0), (66, .if_icmp .gt 16, 69, 82), (69, .aload_n 0, 70, 0), (70, .getfield 43, 73, 0), (73, .iload_n 1, 74, 0), (74, .iconst 0, 75, 0), (75, .iastore, 76, 0), (76, .iinc 1 1, 79, 0), (79, .goto (-15), 82, 64), (82, .aload_n 0, 83, 0), (83, .getfield 34, 86, 0), (86, .iconst 0, 87, 0), (87, .aload_n 0, 88, 0), (88, .getfield 62, 91, 0), (91, .invokevirtual 72, 94, 0), (94, .iastore, 95, 0), (95, .return_, 96, 0)]
set_option maxRecDepth 100000 in
theorem L9_ok : L9.all (dck 9) = true := by decide +kernel
theorem d9 {j pc nx tg : Nat} {ins : Instr} (hj : L9[j]? = some (pc, ins, nx, tg)) : dcd 9 pc ins nx tg := dcl_ok L9_ok hj
set_option maxRecDepth 100000 in
set_option maxHeartbeats 4000000 in
theorem r9_0 {x0 : Int}  {M : dsMem} {Q : bQT} (k1 : bB 9 2 [uR 5 x0, uI 0] [] M Q) :
    bB 9 0 [uR 5 x0, uX 0] [] M Q := by
  refine b_iconst (d9 (j := 0) rfl) (by decide) ?_
  refine b_istore_n [uR 5 x0, uI 0] (d9 (j := 1) rfl) (by decide) rfl ?_
  exact k1
set_option maxRecDepth 100000 in
set_option maxHeartbeats 4000000 in
theorem r9_2 {x0 x1 : Int}  {M : dsMem} {Q : bQT} (k1 : (6 ≤ x1) → bB 9 44 [uR 5 x0, uI 0] [] M Q) (s1 : (¬ 6 ≤ x1) → 0 ≤ x1 ∧ x1 < 78 := by intros; omega) (s2 : (¬ 6 ≤ x1) → 0 ≤ x1 ∧ x1 < 6 := by intros; omega) (s3 : (¬ 6 ≤ x1) → -2147483648 ≤ x1 + 1 ∧ x1 + 1 < 2147483648 := by intros; omega) (k2 : (¬ 6 ≤ x1) → bB 9 2 [uR 5 x0, uI (x1 + 1)] [] (dsSet (dsSet (dsSet (dsSet M (x0 + 4) x1 0) (x0 + 5) x1 0) (x0 + 11) x1 0) (x0 + 12) x1 0) Q) :
    bB 9 2 [uR 5 x0, uI x1] [] M Q := by
  refine b_iload_n (d9 (j := 2) rfl) rfl ?_
  refine b_bipush (d9 (j := 3) rfl) (by decide) ?_
  refine b_icmp_ge (d9 (j := 4) rfl) (fun c1 => ?_) (fun c1 => ?_)
  ·
    refine b_iconst (d9 (j := 27) rfl) (by decide) ?_
    refine b_istore_n [uR 5 x0, uI 0] (d9 (j := 28) rfl) (by decide) rfl ?_
    exact (k1 c1)
  ·
    refine b_aload_n (d9 (j := 5) rfl) rfl ?_
    refine b_getR (d9 (j := 6) rfl) rfl rfl rfl rfl ?_
    refine b_iload_n (d9 (j := 7) rfl) rfl ?_
    refine b_iconst (d9 (j := 8) rfl) (by decide) ?_
    refine b_iastore (d9 (j := 9) rfl) rfl (s1 c1) ?_
    refine b_aload_n (d9 (j := 10) rfl) rfl ?_
    refine b_getR (d9 (j := 11) rfl) rfl rfl rfl rfl ?_
    refine b_iload_n (d9 (j := 12) rfl) rfl ?_
    refine b_iconst (d9 (j := 13) rfl) (by decide) ?_
    refine b_iastore (d9 (j := 14) rfl) rfl (s1 c1) ?_
    refine b_aload_n (d9 (j := 15) rfl) rfl ?_
    refine b_getR (d9 (j := 16) rfl) rfl rfl rfl rfl ?_
    refine b_iload_n (d9 (j := 17) rfl) rfl ?_
    refine b_iconst (d9 (j := 18) rfl) (by decide) ?_
    refine b_iastore (d9 (j := 19) rfl) rfl (s2 c1) ?_
    refine b_aload_n (d9 (j := 20) rfl) rfl ?_
    refine b_getR (d9 (j := 21) rfl) rfl rfl rfl rfl ?_
    refine b_iload_n (d9 (j := 22) rfl) rfl ?_
    refine b_iconst (d9 (j := 23) rfl) (by decide) ?_
    refine b_iastore (d9 (j := 24) rfl) rfl (s2 c1) ?_
    refine b_iinc [uR 5 x0, uI (x1 + 1)] (d9 (j := 25) rfl) rfl (by decide) (s3 c1) rfl ?_
    refine b_goto (d9 (j := 26) rfl) ?_
    exact (k2 c1)
set_option maxRecDepth 100000 in
set_option maxHeartbeats 4000000 in
theorem r9_44 {x0 x1 : Int}  {M : dsMem} {Q : bQT} (k1 : (3 ≤ x1) → bB 9 64 [uR 5 x0, uI 0] [] M Q) (s1 : (¬ 3 ≤ x1) → 0 ≤ x1 ∧ x1 < 39 := by intros; omega) (s2 : (¬ 3 ≤ x1) → -2147483648 ≤ x1 + 1 ∧ x1 + 1 < 2147483648 := by intros; omega) (k2 : (¬ 3 ≤ x1) → bB 9 44 [uR 5 x0, uI (x1 + 1)] [] (dsSet M (x0 + 6) x1 0) Q) :
    bB 9 44 [uR 5 x0, uI x1] [] M Q := by
  refine b_iload_n (d9 (j := 29) rfl) rfl ?_
  refine b_iconst (d9 (j := 30) rfl) (by decide) ?_
  refine b_icmp_ge (d9 (j := 31) rfl) (fun c1 => ?_) (fun c1 => ?_)
  ·
    refine b_iconst (d9 (j := 39) rfl) (by decide) ?_
    refine b_istore_n [uR 5 x0, uI 0] (d9 (j := 40) rfl) (by decide) rfl ?_
    exact (k1 c1)
  ·
    refine b_aload_n (d9 (j := 32) rfl) rfl ?_
    refine b_getR (d9 (j := 33) rfl) rfl rfl rfl rfl ?_
    refine b_iload_n (d9 (j := 34) rfl) rfl ?_
    refine b_iconst (d9 (j := 35) rfl) (by decide) ?_
    refine b_iastore (d9 (j := 36) rfl) rfl (s1 c1) ?_
    refine b_iinc [uR 5 x0, uI (x1 + 1)] (d9 (j := 37) rfl) rfl (by decide) (s2 c1) rfl ?_
    refine b_goto (d9 (j := 38) rfl) ?_
    exact (k2 c1)
set_option maxRecDepth 100000 in
set_option maxHeartbeats 4000000 in
theorem r9_64 {x0 x1 : Int}  {M : dsMem} {Q : bQT} (s1 : (5 < x1) → -2147483648 ≤ ((dsShl 1 (M 24 4)) - 1) ∧ ((dsShl 1 (M 24 4)) - 1) < 2147483648 := by intros; omega) (k1 : (5 < x1) → Q [] (dsSet M (x0 + 7) 0 ((dsShl 1 (M 24 4)) - 1))) (s2 : (¬ 5 < x1) → 0 ≤ x1 ∧ x1 < 6 := by intros; omega) (s3 : (¬ 5 < x1) → -2147483648 ≤ x1 + 1 ∧ x1 + 1 < 2147483648 := by intros; omega) (k2 : (¬ 5 < x1) → bB 9 64 [uR 5 x0, uI (x1 + 1)] [] (dsSet M (x0 + 10) x1 0) Q) :
    bB 9 64 [uR 5 x0, uI x1] [] M Q := by
  refine b_iload_n (d9 (j := 41) rfl) rfl ?_
  refine b_iconst (d9 (j := 42) rfl) (by decide) ?_
  refine b_icmp_gt (d9 (j := 43) rfl) (fun c1 => ?_) (fun c1 => ?_)
  ·
    refine b_aload_n (d9 (j := 51) rfl) rfl ?_
    refine b_getR (d9 (j := 52) rfl) rfl rfl rfl rfl ?_
    refine b_iconst (d9 (j := 53) rfl) (by decide) ?_
    refine b_aload_n (d9 (j := 54) rfl) rfl ?_
    refine b_getRA (d9 (j := 55) rfl) rfl rfl rfl rfl ?_
    refine b_callV (d9 (j := 56) rfl) rfl rfl (Or.inl rfl) rfl (bCk_mk (n := 2) (k := 1) (by decide +kernel) rfl rfl) (pu63 (s1 c1) ?_)
    refine b_stk [uI ((dsShl 1 (M 24 4)) - 1), uI 0, uR 27 (x0 + 7)] rfl ?_
    refine b_iastore (d9 (j := 57) rfl) rfl (by decide) ?_
    exact b_vret (d9 (j := 58) rfl) rfl (k1 c1)
  ·
    refine b_aload_n (d9 (j := 44) rfl) rfl ?_
    refine b_getR (d9 (j := 45) rfl) rfl rfl rfl rfl ?_
    refine b_iload_n (d9 (j := 46) rfl) rfl ?_
    refine b_iconst (d9 (j := 47) rfl) (by decide) ?_
    refine b_iastore (d9 (j := 48) rfl) rfl (s2 c1) ?_
    refine b_iinc [uR 5 x0, uI (x1 + 1)] (d9 (j := 49) rfl) rfl (by decide) (s3 c1) rfl ?_
    refine b_goto (d9 (j := 50) rfl) ?_
    exact (k2 c1)
def L10 : List (Nat × Instr × Nat × Nat) := [(0, .iconst 0, 1, 0), (1, .istore 4, 3, 0), (3, .iload 4, 5, 0), (5, .aload_n 0, 6, 0), (6, .getfield 62, 9, 0), (9, .getfield 100, 12, 0), (12, .if_icmp .ge 59, 15, 71), (15, .aload_n 0, 16, 0), (16, .aload_n 2, 17, 0), (17, .iload 4, 19, 0), (19, .iload_n 1, 20, 0), (20, .invokestatic 117, 23, 0), (23, .iload 4, 25, 0), (25, .iload_n 1, 26, 0), (26, .invokestatic 117, 29, 0), (29, .invokevirtual 121, 32, 0), (32, .iload_n 3, 33, 0), (33, .iload 4, 35, 0), (35, .invokestatic 113, 38, 0), (38, .ifCond .eq 27, 41, 65), (41, .aload_n 0, 42, 0), (42, .getfield 25, 45, 0), (45, .iload 4, 47, 0), (47, .iload_n 1, 48, 0), (48, .invokestatic 117, 51, 0), (51, .iconst 0, 52, 0), (52, .iastore, 53, 0), (53, .aload_n 0, 54, 0), (54, .getfield 28, 57, 0), (57, .iload 4, 59, 0), (59, .iload_n 1, 60, 0), (60, .invokestatic 117, 63, 0), (63, .iconst 0, 64, 0), (64, .iastore, 65, 0), (65, .iinc 4 1, 68, 0), (68, .goto (-65), 71, 3), (71, .iconst 0, 72, 0), (72, .istore 4, 74, 0), (74, .iload 4, 76, 0), (76, .iconst 3, 77, 0), (77, .if_icmp .ge 31, 80, 108), (80, .aload_n 0, 81, 0), (81, .getfield 31, 84, 0), (84, .iload_n 1, 85, 0), (85, .iconst 3, 86, 0), (86, .imul, 87, 0), (87, .iload 4, 89, 0), (89, .iadd, 90, 0), (90, .aload_n 2, 91, 0), (91, .getfield 31, 94, 0), (94, .iload_n 1, 95, 0), (95, .iconst 3, 96, 0), (96, .imul, 97, 0), (97, .iload 4, 99, 0), (99, .iadd, 100, 0), (100, .iaload, 101, 0), (101, .iastore, 102, 0), (102, .iinc 4 1, 105, 0), (105, .goto (-31), 108, 74), (108, .aload_n 0, 109, 0), (109, .getfield 34, 112, 0), (112, .iload_n 1, 113, 0), (113, .aload_n 2, 114, 0), (114, .getfield 34, 117, 0), (117, .iload_n 1, 118, 0), (118, .iaload, 119, 0), (119, .iastore, 120, 0), (120, .return_, 121, 0)]
set_option maxRecDepth 100000 in
theorem L10_ok : L10.all (dck 10) = true := by decide +kernel
theorem d10 {j pc nx tg : Nat} {ins : Instr} (hj : L10[j]? = some (pc, ins, nx, tg)) : dcd 10 pc ins nx tg := dcl_ok L10_ok hj
set_option maxRecDepth 100000 in
set_option maxHeartbeats 4000000 in
theorem r10_0 {x1 x3 : Int}  {M : dsMem} {Q : bQT} (k1 : bB 10 3 [uR 5 62, uI x1, uR 5 47, uI x3, uI 0] [] M Q) :
    bB 10 0 [uR 5 62, uI x1, uR 5 47, uI x3, uX 0] [] M Q := by
  refine b_iconst (d10 (j := 0) rfl) (by decide) ?_
  refine b_istore [uR 5 62, uI x1, uR 5 47, uI x3, uI 0] (d10 (j := 1) rfl) (by decide) rfl ?_
  exact k1
set_option maxRecDepth 100000 in
set_option maxHeartbeats 4000000 in
theorem r10_3 {x1 x3 x4 : Int} {R1 : dsMem → Prop} {M : dsMem} {Q : bQT} (k1 : ((M 24 5) ≤ x4) → bB 10 74 [uR 5 62, uI x1, uR 5 47, uX 0, uI 0] [] M Q) (s1 : (¬ (M 24 5) ≤ x4) → -2147483648 ≤ ((x1 * 6) + x4) ∧ ((x1 * 6) + x4) < 2147483648 := by intros; omega) (hA1 : (¬ (M 24 5) ≤ x4) → bCt 12 [uR 5 62, uR 5 47, uI ((x1 * 6) + x4), uI ((x1 * 6) + x4)] M (fun _ => []) R1) (s2 : (¬ (M 24 5) ≤ x4) → ∀ M1 : dsMem, R1 M1 → (¬ (dsAnd (dsShr x3 x4) 1 = 1)) → -2147483648 ≤ x4 + 1 ∧ x4 + 1 < 2147483648 := by intros; omega) (k2 : (¬ (M 24 5) ≤ x4) → ∀ M1 : dsMem, R1 M1 → (¬ (dsAnd (dsShr x3 x4) 1 = 1)) → bB 10 3 [uR 5 62, uI x1, uR 5 47, uI x3, uI (x4 + 1)] [] M1 Q) (s3 : (¬ (M 24 5) ≤ x4) → ∀ M1 : dsMem, R1 M1 → ((dsAnd (dsShr x3 x4) 1 = 1)) → 0 ≤ ((x1 * 6) + x4) ∧ ((x1 * 6) + x4) < 78 := by intros; omega) (s4 : (¬ (M 24 5) ≤ x4) → ∀ M1 : dsMem, R1 M1 → ((dsAnd (dsShr x3 x4) 1 = 1)) → -2147483648 ≤ x4 + 1 ∧ x4 + 1 < 2147483648 := by intros; omega) (k3 : (¬ (M 24 5) ≤ x4) → ∀ M1 : dsMem, R1 M1 → ((dsAnd (dsShr x3 x4) 1 = 1)) → bB 10 3 [uR 5 62, uI x1, uR 5 47, uI x3, uI (x4 + 1)] [] (dsSet (dsSet M1 66 ((x1 * 6) + x4) 0) 67 ((x1 * 6) + x4) 0) Q) :
    bB 10 3 [uR 5 62, uI x1, uR 5 47, uI x3, uI x4] [] M Q := by
  refine b_iload (d10 (j := 2) rfl) rfl ?_
  refine b_aload_n (d10 (j := 3) rfl) rfl ?_
  refine b_getRA (d10 (j := 4) rfl) rfl rfl rfl rfl ?_
  refine b_getI (d10 (j := 5) rfl) rfl rfl rfl rfl (Or.inl rfl) ?_
  refine b_stk [uI (M 24 5), uI x4] rfl ?_
  refine b_icmp_ge (d10 (j := 6) rfl) (fun c1 => ?_) (fun c1 => ?_)
  ·
    refine b_iconst (d10 (j := 36) rfl) (by decide) ?_
    refine b_istore [uR 5 62, uI x1, uR 5 47, uI x3, uI 0] (d10 (j := 37) rfl) (by decide) rfl ?_
    exact bB_le _ (bLe_s (bLe_s (bLe_s (bLe_x (bLe_s bLe_nil))))) (k1 c1)
  ·
    refine b_aload_n (d10 (j := 7) rfl) rfl ?_
    refine b_aload_n (d10 (j := 8) rfl) rfl ?_
    refine b_iload (d10 (j := 9) rfl) rfl ?_
    refine b_iload_n (d10 (j := 10) rfl) rfl ?_
    refine b_callS (d10 (j := 11) rfl) (Or.inr rfl) rfl (bCk_mk (n := 2) (k := 2) (by decide +kernel) rfl rfl) (pu146 (s1 c1) ?_)
    refine b_stk [uI ((x1 * 6) + x4), uR 5 47, uR 5 62] rfl ?_
    refine b_iload (d10 (j := 12) rfl) rfl ?_
    refine b_iload_n (d10 (j := 13) rfl) rfl ?_
    refine b_callS (d10 (j := 14) rfl) (Or.inr rfl) rfl (bCk_mk (n := 3) (k := 2) (by decide +kernel) rfl rfl) (pu146 (s1 c1) ?_)
    refine b_stk [uI ((x1 * 6) + x4), uI ((x1 * 6) + x4), uR 5 47, uR 5 62] rfl ?_
    refine b_callV (d10 (j := 15) rfl) rfl rfl (Or.inl rfl) rfl (bCk_mk (n := 0) (k := 4) (by decide +kernel) rfl rfl) ((hA1 c1) _ (fun M1 hR1 => ?_))
    refine b_stk [] rfl ?_
    refine b_iload_n (d10 (j := 16) rfl) rfl ?_
    refine b_iload (d10 (j := 17) rfl) rfl ?_
    refine b_callS (d10 (j := 18) rfl) (Or.inr rfl) rfl (bCk_mk (n := 0) (k := 2) (by decide +kernel) rfl rfl) (pu145 ?_)
    refine b_stk [uI (if (dsAnd (dsShr x3 x4) 1 = 1) then 1 else 0)] rfl ?_
    refine b_ifeqP (d10 (j := 19) rfl) (fun c2 => ?_) (fun c2 => ?_)
    ·
      refine b_iinc [uR 5 62, uI x1, uR 5 47, uI x3, uI (x4 + 1)] (d10 (j := 34) rfl) rfl (by decide) (s2 c1 M1 hR1 c2) rfl ?_
      refine b_goto (d10 (j := 35) rfl) ?_
      exact (k2 c1 M1 hR1 c2)
    ·
      refine b_aload_n (d10 (j := 20) rfl) rfl ?_
      refine b_getR (d10 (j := 21) rfl) rfl rfl rfl rfl ?_
      refine b_stk [uR 25 66] rfl ?_
      refine b_iload (d10 (j := 22) rfl) rfl ?_
      refine b_iload_n (d10 (j := 23) rfl) rfl ?_
      refine b_callS (d10 (j := 24) rfl) (Or.inr rfl) rfl (bCk_mk (n := 1) (k := 2) (by decide +kernel) rfl rfl) (pu146 (s1 c1) ?_)
      refine b_stk [uI ((x1 * 6) + x4), uR 25 66] rfl ?_
      refine b_iconst (d10 (j := 25) rfl) (by decide) ?_
      refine b_iastore (d10 (j := 26) rfl) rfl (s3 c1 M1 hR1 c2) ?_
      refine b_aload_n (d10 (j := 27) rfl) rfl ?_
      refine b_getR (d10 (j := 28) rfl) rfl rfl rfl rfl ?_
      refine b_stk [uR 25 67] rfl ?_
      refine b_iload (d10 (j := 29) rfl) rfl ?_
      refine b_iload_n (d10 (j := 30) rfl) rfl ?_
      refine b_callS (d10 (j := 31) rfl) (Or.inr rfl) rfl (bCk_mk (n := 1) (k := 2) (by decide +kernel) rfl rfl) (pu146 (s1 c1) ?_)
      refine b_stk [uI ((x1 * 6) + x4), uR 25 67] rfl ?_
      refine b_iconst (d10 (j := 32) rfl) (by decide) ?_
      refine b_iastore (d10 (j := 33) rfl) rfl (s3 c1 M1 hR1 c2) ?_
      refine b_iinc [uR 5 62, uI x1, uR 5 47, uI x3, uI (x4 + 1)] (d10 (j := 34) rfl) rfl (by decide) (s4 c1 M1 hR1 c2) rfl ?_
      refine b_goto (d10 (j := 35) rfl) ?_
      exact (k3 c1 M1 hR1 c2)
set_option maxRecDepth 100000 in
set_option maxHeartbeats 4000000 in
theorem r10_74 {x1 x4 : Int}  {M : dsMem} {Q : bQT} (s1 : (3 ≤ x4) → 0 ≤ x1 ∧ x1 < 13 := by intros; omega) (k1 : (3 ≤ x4) → Q [] (dsSet M 69 x1 (M 54 x1))) (s2 : (¬ 3 ≤ x4) → 0 ≤ ((x1 * 3) + x4) ∧ ((x1 * 3) + x4) < 39 := by intros; omega) (s3 : (¬ 3 ≤ x4) → -2147483648 ≤ x4 + 1 ∧ x4 + 1 < 2147483648 := by intros; omega) (k2 : (¬ 3 ≤ x4) → bB 10 74 [uR 5 62, uI x1, uR 5 47, uX 0, uI (x4 + 1)] [] (dsSet M 68 ((x1 * 3) + x4) (M 53 ((x1 * 3) + x4))) Q) :
    bB 10 74 [uR 5 62, uI x1, uR 5 47, uX 0, uI x4] [] M Q := by
  refine b_iload (d10 (j := 38) rfl) rfl ?_
  refine b_iconst (d10 (j := 39) rfl) (by decide) ?_
  refine b_icmp_ge (d10 (j := 40) rfl) (fun c1 => ?_) (fun c1 => ?_)
  ·
    refine b_aload_n (d10 (j := 59) rfl) rfl ?_
    refine b_getR (d10 (j := 60) rfl) rfl rfl rfl rfl ?_
    refine b_stk [uR 27 69] rfl ?_
    refine b_iload_n (d10 (j := 61) rfl) rfl ?_
    refine b_aload_n (d10 (j := 62) rfl) rfl ?_
    refine b_getR (d10 (j := 63) rfl) rfl rfl rfl rfl ?_
    refine b_stk [uR 27 54, uI x1, uR 27 69] rfl ?_
    refine b_iload_n (d10 (j := 64) rfl) rfl ?_
    refine b_iaload (d10 (j := 65) rfl) rfl (s1 c1) ?_
    refine b_iastore (d10 (j := 66) rfl) rfl (s1 c1) ?_
    exact b_vret (d10 (j := 67) rfl) rfl (k1 c1)
  ·
    refine b_aload_n (d10 (j := 41) rfl) rfl ?_
    refine b_getR (d10 (j := 42) rfl) rfl rfl rfl rfl ?_
    refine b_stk [uR 26 68] rfl ?_
    refine b_iload_n (d10 (j := 43) rfl) rfl ?_
    refine b_iconst (d10 (j := 44) rfl) (by decide) ?_
    refine b_imul (d10 (j := 45) rfl) rfl rfl ?_
    refine b_iload (d10 (j := 46) rfl) rfl ?_
    refine b_iadd (d10 (j := 47) rfl) (dsw_dsw _) rfl ?_
    refine b_aload_n (d10 (j := 48) rfl) rfl ?_
    refine b_getR (d10 (j := 49) rfl) rfl rfl rfl rfl ?_
    refine b_stk [uR 26 53, uI (dsw (((x1 * 3) + x4))), uR 26 68] rfl ?_
    refine b_iload_n (d10 (j := 50) rfl) rfl ?_
    refine b_iconst (d10 (j := 51) rfl) (by decide) ?_
    refine b_imul (d10 (j := 52) rfl) rfl rfl ?_
    refine b_iload (d10 (j := 53) rfl) rfl ?_
    refine b_iadd (d10 (j := 54) rfl) (dsw_dsw _) rfl ?_
    refine b_stk [uI ((x1 * 3) + x4), uR 26 53, uI (dsw (((x1 * 3) + x4))), uR 26 68] (by rw [dsw_b (s2 c1) (by decide)]) ?_
    refine b_iaload (d10 (j := 55) rfl) rfl (s2 c1) ?_
    refine b_stk [uI (M 53 ((x1 * 3) + x4)), uI ((x1 * 3) + x4), uR 26 68] (by rw [dsw_b (s2 c1) (by decide)]) ?_
    refine b_iastore (d10 (j := 56) rfl) rfl (s2 c1) ?_
    refine b_iinc [uR 5 62, uI x1, uR 5 47, uX 0, uI (x4 + 1)] (d10 (j := 57) rfl) rfl (by decide) (s3 c1) rfl ?_
    refine b_goto (d10 (j := 58) rfl) ?_
    exact (k2 c1)
def L11 : List (Nat × Instr × Nat × Nat) := [(0, .iconst 0, 1, 0), (1, .istore_n 2, 2, 0), (2, .iload_n 2, 3, 0), (3, .aload_n 0, 4, 0), (4, .getfield 62, 7, 0), (7, .getfield 100, 10, 0), (10, .if_icmp .ge 26, 13, 36), (13, .aload_n 0, 14, 0), (14, .aload_n 0, 15, 0), (15, .iload_n 2, 16, 0), (16, .iload_n 1, 17, 0), (17, .invokestatic 117, 20, 0), (20, .iload_n 2, 21, 0), (21, .iload_n 1, 22, 0), (22, .iconst 1, 23, 0), (23, .iadd, 24, 0), (24, .invokestatic 117, 27, 0), (27, .invokevirtual 121, 30, 0), (30, .iinc 2 1, 33, 0), (33, .goto (-31), 36, 2), (36, .iconst 0, 37, 0), (37, .istore_n 2, 38, 0), (38, .iload_n 2, 39, 0), (39, .iconst 3, 40, 0), (40, .if_icmp .ge 31, 43, 71), (43, .aload_n 0, 44, 0), (44, .getfield 31, 47, 0), (47, .iload_n 1, 48, 0), (48, .iconst 1, 49, 0), (49, .iadd, 50, 0), (50, .iconst 3, 51, 0), (51, .imul, 52, 0), (52, .iload_n 2, 53, 0), (53, .iadd, 54, 0), (54, .aload_n 0, 55, 0), (55, .getfield 31, 58, 0), (58, .iload_n 1, 59, 0), (59, .iconst 3, 60, 0), (60, .imul, 61, 0), (61, .iload_n 2, 62, 0), (62, .iadd, 63, 0), (63, .iaload, 64, 0), (64, .iastore, 65, 0), (65, .iinc 2 1, 68, 0), (68, .goto (-30), 71, 38), (71, .aload_n 0, 72, 0), (72, .getfield 34, 75, 0), (75, .iload_n 1, 76, 0), (76, .iconst 1, 77, 0), (77, .iadd, 78, 0), (78, .aload_n 0, 79, 0), (79, .getfield 34, 82, 0), (82, .iload_n 1, 83, 0), (83, .iaload, 84, 0), (84, .iastore, 85, 0), (85, .aload_n 0, 86, 0), (86, .getfield 37, 89, 0), (89, .iload_n 1, 90, 0), (90, .iconst 0, 91, 0), (91, .iastore, 92, 0), (92, .aload_n 0, 93, 0), (93, .getfield 40, 96, 0), (96, .iload_n 1, 97, 0), (97, .iconst 0, 98, 0), (98, .iastore, 99, 0), (99, .return_, 100, 0)]
set_option maxRecDepth 100000 in
theorem L11_ok : L11.all (dck 11) = true := by decide +kernel
theorem d11 {j pc nx tg : Nat} {ins : Instr} (hj : L11[j]? = some (pc, ins, nx, tg)) : dcd 11 pc ins nx tg := dcl_ok L11_ok hj
set_option maxRecDepth 100000 in
set_option maxHeartbeats 4000000 in
theorem r11_0 {x0 x1 : Int}  {M : dsMem} {Q : bQT} (k1 : bB 11 2 [uR 5 x0, uI x1, uI 0] [] M Q) :
    bB 11 0 [uR 5 x0, uI x1, uX 0] [] M Q := by
  refine b_iconst (d11 (j := 0) rfl) (by decide) ?_
  refine b_istore_n [uR 5 x0, uI x1, uI 0] (d11 (j := 1) rfl) (by decide) rfl ?_
  exact k1
set_option maxRecDepth 100000 in
set_option maxHeartbeats 4000000 in
theorem r11_2 {x0 x1 x2 : Int} {R1 : dsMem → Prop} {M : dsMem} {Q : bQT} (k1 : ((M 24 5) ≤ x2) → bB 11 38 [uR 5 x0, uI x1, uI 0] [] M Q) (s1 : (¬ (M 24 5) ≤ x2) → -2147483648 ≤ ((x1 * 6) + x2) ∧ ((x1 * 6) + x2) < 2147483648 := by intros; omega) (s2 : (¬ (M 24 5) ≤ x2) → -2147483648 ≤ (x1 + 1) ∧ (x1 + 1) < 2147483648 := by intros; omega) (s3 : (¬ (M 24 5) ≤ x2) → -2147483648 ≤ (((x1 + 1) * 6) + x2) ∧ (((x1 + 1) * 6) + x2) < 2147483648 := by intros; omega) (hA1 : (¬ (M 24 5) ≤ x2) → bCt 12 [uR 5 x0, uR 5 x0, uI ((x1 * 6) + x2), uI (((x1 + 1) * 6) + x2)] M (fun _ => []) R1) (s4 : (¬ (M 24 5) ≤ x2) → ∀ M1 : dsMem, R1 M1 → -2147483648 ≤ x2 + 1 ∧ x2 + 1 < 2147483648 := by intros; omega) (k2 : (¬ (M 24 5) ≤ x2) → ∀ M1 : dsMem, R1 M1 → bB 11 2 [uR 5 x0, uI x1, uI (x2 + 1)] [] M1 Q) :
    bB 11 2 [uR 5 x0, uI x1, uI x2] [] M Q := by
  refine b_iload_n (d11 (j := 2) rfl) rfl ?_
  refine b_aload_n (d11 (j := 3) rfl) rfl ?_
  refine b_getRA (d11 (j := 4) rfl) rfl rfl rfl rfl ?_
  refine b_getI (d11 (j := 5) rfl) rfl rfl rfl rfl (Or.inl rfl) ?_
  refine b_stk [uI (M 24 5), uI x2] rfl ?_
  refine b_icmp_ge (d11 (j := 6) rfl) (fun c1 => ?_) (fun c1 => ?_)
  ·
    refine b_iconst (d11 (j := 20) rfl) (by decide) ?_
    refine b_istore_n [uR 5 x0, uI x1, uI 0] (d11 (j := 21) rfl) (by decide) rfl ?_
    exact (k1 c1)
  ·
    refine b_aload_n (d11 (j := 7) rfl) rfl ?_
    refine b_aload_n (d11 (j := 8) rfl) rfl ?_
    refine b_iload_n (d11 (j := 9) rfl) rfl ?_
    refine b_iload_n (d11 (j := 10) rfl) rfl ?_
    refine b_callS (d11 (j := 11) rfl) (Or.inr rfl) rfl (bCk_mk (n := 2) (k := 2) (by decide +kernel) rfl rfl) (pu146 (s1 c1) ?_)
    refine b_stk [uI ((x1 * 6) + x2), uR 5 x0, uR 5 x0] rfl ?_
    refine b_iload_n (d11 (j := 12) rfl) rfl ?_
    refine b_iload_n (d11 (j := 13) rfl) rfl ?_
    refine b_iconst (d11 (j := 14) rfl) (by decide) ?_
    refine b_iadd (d11 (j := 15) rfl) rfl rfl ?_
    refine b_stk [uI (x1 + 1), uI x2, uI ((x1 * 6) + x2), uR 5 x0, uR 5 x0] (by rw [dsw_r (s2 c1)]) ?_
    refine b_callS (d11 (j := 16) rfl) (Or.inr rfl) rfl (bCk_mk (n := 3) (k := 2) (by decide +kernel) rfl rfl) (pu146 (s3 c1) ?_)
    refine b_stk [uI (((x1 + 1) * 6) + x2), uI ((x1 * 6) + x2), uR 5 x0, uR 5 x0] rfl ?_
    refine b_callV (d11 (j := 17) rfl) rfl rfl (Or.inl rfl) rfl (bCk_mk (n := 0) (k := 4) (by decide +kernel) rfl rfl) ((hA1 c1) _ (fun M1 hR1 => ?_))
    refine b_stk [] rfl ?_
    refine b_iinc [uR 5 x0, uI x1, uI (x2 + 1)] (d11 (j := 18) rfl) rfl (by decide) (s4 c1 M1 hR1) rfl ?_
    refine b_goto (d11 (j := 19) rfl) ?_
    exact (k2 c1 M1 hR1)
set_option maxRecDepth 100000 in
set_option maxHeartbeats 4000000 in
theorem r11_38 {x0 x1 x2 : Int}  {M : dsMem} {Q : bQT} (s1 : (3 ≤ x2) → 0 ≤ x1 ∧ x1 < 13 := by intros; omega) (s2 : (3 ≤ x2) → 0 ≤ (x1 + 1) ∧ (x1 + 1) < 13 := by intros; omega) (s3 : (3 ≤ x2) → 0 ≤ x1 ∧ x1 < 12 := by intros; omega) (k1 : (3 ≤ x2) → Q [] (dsSet (dsSet (dsSet M (x0 + 7) (x1 + 1) (M (x0 + 7) x1)) (x0 + 8) x1 0) (x0 + 9) x1 0)) (s4 : (¬ 3 ≤ x2) → 0 ≤ ((x1 * 3) + x2) ∧ ((x1 * 3) + x2) < 39 := by intros; omega) (s5 : (¬ 3 ≤ x2) → 0 ≤ (((x1 + 1) * 3) + x2) ∧ (((x1 + 1) * 3) + x2) < 39 := by intros; omega) (s6 : (¬ 3 ≤ x2) → -2147483648 ≤ x2 + 1 ∧ x2 + 1 < 2147483648 := by intros; omega) (k2 : (¬ 3 ≤ x2) → bB 11 38 [uR 5 x0, uI x1, uI (x2 + 1)] [] (dsSet M (x0 + 6) (((x1 + 1) * 3) + x2) (M (x0 + 6) ((x1 * 3) + x2))) Q) :
    bB 11 38 [uR 5 x0, uI x1, uI x2] [] M Q := by
  refine b_iload_n (d11 (j := 22) rfl) rfl ?_
  refine b_iconst (d11 (j := 23) rfl) (by decide) ?_
  refine b_icmp_ge (d11 (j := 24) rfl) (fun c1 => ?_) (fun c1 => ?_)
  ·
    refine b_aload_n (d11 (j := 45) rfl) rfl ?_
    refine b_getR (d11 (j := 46) rfl) rfl rfl rfl rfl ?_
    refine b_iload_n (d11 (j := 47) rfl) rfl ?_
    refine b_iconst (d11 (j := 48) rfl) (by decide) ?_
    refine b_iadd (d11 (j := 49) rfl) rfl rfl ?_
    refine b_aload_n (d11 (j := 50) rfl) rfl ?_
    refine b_getR (d11 (j := 51) rfl) rfl rfl rfl rfl ?_
    refine b_iload_n (d11 (j := 52) rfl) rfl ?_
    refine b_iaload (d11 (j := 53) rfl) rfl (s1 c1) ?_
    refine b_stk [uI (M (x0 + 7) x1), uI (x1 + 1), uR 27 (x0 + 7)] (by rw [dsw_b (s2 c1) (by decide)]) ?_
    refine b_iastore (d11 (j := 54) rfl) rfl (s2 c1) ?_
    refine b_aload_n (d11 (j := 55) rfl) rfl ?_
    refine b_getR (d11 (j := 56) rfl) rfl rfl rfl rfl ?_
    refine b_iload_n (d11 (j := 57) rfl) rfl ?_
    refine b_iconst (d11 (j := 58) rfl) (by decide) ?_
    refine b_iastore (d11 (j := 59) rfl) rfl (s3 c1) ?_
    refine b_aload_n (d11 (j := 60) rfl) rfl ?_
    refine b_getR (d11 (j := 61) rfl) rfl rfl rfl rfl ?_
    refine b_iload_n (d11 (j := 62) rfl) rfl ?_
    refine b_iconst (d11 (j := 63) rfl) (by decide) ?_
    refine b_iastore (d11 (j := 64) rfl) rfl (s3 c1) ?_
    exact b_vret (d11 (j := 65) rfl) rfl (k1 c1)
  ·
    refine b_aload_n (d11 (j := 25) rfl) rfl ?_
    refine b_getR (d11 (j := 26) rfl) rfl rfl rfl rfl ?_
    refine b_iload_n (d11 (j := 27) rfl) rfl ?_
    refine b_iconst (d11 (j := 28) rfl) (by decide) ?_
    refine b_iadd (d11 (j := 29) rfl) rfl rfl ?_
    refine b_iconst (d11 (j := 30) rfl) (by decide) ?_
    refine b_imul (d11 (j := 31) rfl) (dsw_dsw _) rfl ?_
    refine b_iload_n (d11 (j := 32) rfl) rfl ?_
    refine b_iadd (d11 (j := 33) rfl) (dsw_dsw _) rfl ?_
    refine b_aload_n (d11 (j := 34) rfl) rfl ?_
    refine b_getR (d11 (j := 35) rfl) rfl rfl rfl rfl ?_
    refine b_iload_n (d11 (j := 36) rfl) rfl ?_
    refine b_iconst (d11 (j := 37) rfl) (by decide) ?_
    refine b_imul (d11 (j := 38) rfl) rfl rfl ?_
    refine b_iload_n (d11 (j := 39) rfl) rfl ?_
    refine b_iadd (d11 (j := 40) rfl) (dsw_dsw _) rfl ?_
    refine b_stk [uI ((x1 * 3) + x2), uR 26 (x0 + 6), uI (dsw ((((x1 + 1) * 3) + x2))), uR 26 (x0 + 6)] (by rw [dsw_b (s4 c1) (by decide)]) ?_
    refine b_iaload (d11 (j := 41) rfl) rfl (s4 c1) ?_
    refine b_stk [uI (M (x0 + 6) ((x1 * 3) + x2)), uI (((x1 + 1) * 3) + x2), uR 26 (x0 + 6)] (by rw [dsw_b (s5 c1) (by decide)]) ?_
    refine b_iastore (d11 (j := 42) rfl) rfl (s5 c1) ?_
    refine b_iinc [uR 5 x0, uI x1, uI (x2 + 1)] (d11 (j := 43) rfl) rfl (by decide) (s6 c1) rfl ?_
    refine b_goto (d11 (j := 44) rfl) ?_
    exact (k2 c1)
def L12 : List (Nat × Instr × Nat × Nat) := [(0, .aload_n 0, 1, 0), (1, .getfield 25, 4, 0), (4, .iload_n 3, 5, 0), (5, .aload_n 1, 6, 0), (6, .getfield 25, 9, 0), (9, .iload_n 2, 10, 0), (10, .iaload, 11, 0), (11, .iastore, 12, 0), (12, .aload_n 0, 13, 0), (13, .getfield 28, 16, 0), (16, .iload_n 3, 17, 0), (17, .aload_n 1, 18, 0), (18, .getfield 28, 21, 0), (21, .iload_n 2, 22, 0), (22, .iaload, 23, 0), (23, .iastore, 24, 0), (24, .aload_n 1, 25, 0), (25, .getfield 18, 28, 0), (28, .iload_n 2, 29, 0), (29, .bipush 60, 31, 0), (31, .imul, 32, 0), (32, .aload_n 0, 33, 0), (33, .getfield 18, 36, 0), (36, .iload_n 3, 37, 0), (37, .bipush 60, 39, 0), (39, .imul, 40, 0), (40, .aload_n 0, 41, 0), (41, .getfield 25, 44, 0), (44, .iload_n 3, 45, 0), (45, .iaload, 46, 0), (46, .invokestatic 125, 49, 0), (49, .aload_n 1, 50, 0), (50, .getfield 22, 53, 0), (53, .iload_n 2, 54, 0), (54, .bipush 60, 56, 0), (56, .imul, 57, 0), (57, .aload_n 0, 58, 0), (58, .getfield 22, 61, 0), (61, .iload_n 3, 62, 0), (62, .bipush 60, 64, 0), (64, .imul, 65, 0), (65, .aload_n 0, 66, 0), (66, .getfield 25, 69, 0), (69, .iload_n 3, 70, 0), (70, .iaload, 71, 0), (71, .invokestatic 125, 74, 0), (74, .return_, 75, 0)]
set_option maxRecDepth 100000 in
theorem L12_ok : L12.all (dck 12) = true := by decide +kernel
theorem d12 {j pc nx tg : Nat} {ins : Instr} (hj : L12[j]? = some (pc, ins, nx, tg)) : dcd 12 pc ins nx tg := dcl_ok L12_ok hj
set_option maxRecDepth 100000 in
set_option maxHeartbeats 4000000 in
theorem r12_0 {x0 x1 x2 x3 : Int}  {M : dsMem} {Q : bQT} (s1 : 0 ≤ x2 ∧ x2 < 78 := by intros; omega) (s2 : 0 ≤ x3 ∧ x3 < 78 := by intros; omega) (s3 : -2147483648 ≤ (x3 * 60) ∧ (x3 * 60) < 2147483648 := by intros; omega) (s4 : -2147483648 ≤ (x2 * 60) ∧ (x2 * 60) < 2147483648 := by intros; omega) (s5 : 0 ≤ (M (x1 + 4) x2) ∧ 0 ≤ (x2 * 60) ∧ 0 ≤ (x3 * 60) ∧ (x2 * 60) + (M (x1 + 4) x2) ≤ 4680 ∧ (x3 * 60) + (M (x1 + 4) x2) ≤ 4680 := by intros; omega) (s6 : 0 ≤ ((dsCpy (dsSet (dsSet M (x0 + 4) x3 (M (x1 + 4) x2)) (x0 + 5) x3 ((dsSet M (x0 + 4) x3 (M (x1 + 4) x2)) (x1 + 5) x2)) (x1 + 2) (x2 * 60) (x0 + 2) (x3 * 60) (M (x1 + 4) x2)) (x0 + 4) x3) ∧ 0 ≤ (x2 * 60) ∧ 0 ≤ (x3 * 60) ∧ (x2 * 60) + ((dsCpy (dsSet (dsSet M (x0 + 4) x3 (M (x1 + 4) x2)) (x0 + 5) x3 ((dsSet M (x0 + 4) x3 (M (x1 + 4) x2)) (x1 + 5) x2)) (x1 + 2) (x2 * 60) (x0 + 2) (x3 * 60) (M (x1 + 4) x2)) (x0 + 4) x3) ≤ 4680 ∧ (x3 * 60) + ((dsCpy (dsSet (dsSet M (x0 + 4) x3 (M (x1 + 4) x2)) (x0 + 5) x3 ((dsSet M (x0 + 4) x3 (M (x1 + 4) x2)) (x1 + 5) x2)) (x1 + 2) (x2 * 60) (x0 + 2) (x3 * 60) (M (x1 + 4) x2)) (x0 + 4) x3) ≤ 4680 := by intros; omega) (k1 : Q [] (dsCpy (dsCpy (dsSet (dsSet M (x0 + 4) x3 (M (x1 + 4) x2)) (x0 + 5) x3 ((dsSet M (x0 + 4) x3 (M (x1 + 4) x2)) (x1 + 5) x2)) (x1 + 2) (x2 * 60) (x0 + 2) (x3 * 60) (M (x1 + 4) x2)) (x1 + 3) (x2 * 60) (x0 + 3) (x3 * 60) ((dsCpy (dsSet (dsSet M (x0 + 4) x3 (M (x1 + 4) x2)) (x0 + 5) x3 ((dsSet M (x0 + 4) x3 (M (x1 + 4) x2)) (x1 + 5) x2)) (x1 + 2) (x2 * 60) (x0 + 2) (x3 * 60) (M (x1 + 4) x2)) (x0 + 4) x3))) :
    bB 12 0 [uR 5 x0, uR 5 x1, uI x2, uI x3] [] M Q := by
  refine b_aload_n (d12 (j := 0) rfl) rfl ?_
  refine b_getR (d12 (j := 1) rfl) rfl rfl rfl rfl ?_
  refine b_iload_n (d12 (j := 2) rfl) rfl ?_
  refine b_aload_n (d12 (j := 3) rfl) rfl ?_
  refine b_getR (d12 (j := 4) rfl) rfl rfl rfl rfl ?_
  refine b_iload_n (d12 (j := 5) rfl) rfl ?_
  refine b_iaload (d12 (j := 6) rfl) rfl s1 ?_
  refine b_iastore (d12 (j := 7) rfl) rfl s2 ?_
  refine b_aload_n (d12 (j := 8) rfl) rfl ?_
  refine b_getR (d12 (j := 9) rfl) rfl rfl rfl rfl ?_
  refine b_iload_n (d12 (j := 10) rfl) rfl ?_
  refine b_aload_n (d12 (j := 11) rfl) rfl ?_
  refine b_getR (d12 (j := 12) rfl) rfl rfl rfl rfl ?_
  refine b_iload_n (d12 (j := 13) rfl) rfl ?_
  refine b_iaload (d12 (j := 14) rfl) rfl s1 ?_
  refine b_iastore (d12 (j := 15) rfl) rfl s2 ?_
  refine b_aload_n (d12 (j := 16) rfl) rfl ?_
  refine b_getR (d12 (j := 17) rfl) rfl rfl rfl rfl ?_
  refine b_iload_n (d12 (j := 18) rfl) rfl ?_
  refine b_bipush (d12 (j := 19) rfl) (by decide) ?_
  refine b_imul (d12 (j := 20) rfl) rfl rfl ?_
  refine b_aload_n (d12 (j := 21) rfl) rfl ?_
  refine b_getR (d12 (j := 22) rfl) rfl rfl rfl rfl ?_
  refine b_iload_n (d12 (j := 23) rfl) rfl ?_
  refine b_bipush (d12 (j := 24) rfl) (by decide) ?_
  refine b_imul (d12 (j := 25) rfl) rfl rfl ?_
  refine b_aload_n (d12 (j := 26) rfl) rfl ?_
  refine b_getR (d12 (j := 27) rfl) rfl rfl rfl rfl ?_
  refine b_iload_n (d12 (j := 28) rfl) rfl ?_
  refine b_iaload (d12 (j := 29) rfl) rfl s2 ?_
  refine b_stk [uI (M (x1 + 4) x2), uI (dsw ((x3 * 60))), uR 24 (x0 + 2), uI (dsw ((x2 * 60))), uR 24 (x1 + 2)] (by rw [ds_get_ne (by omega), ds_get_eq] <;> rfl) ?_
  refine b_stk [uI (M (x1 + 4) x2), uI (x3 * 60), uR 24 (x0 + 2), uI (dsw ((x2 * 60))), uR 24 (x1 + 2)] (by rw [dsw_r s3]) ?_
  refine b_stk [uI (M (x1 + 4) x2), uI (x3 * 60), uR 24 (x0 + 2), uI (x2 * 60), uR 24 (x1 + 2)] (by rw [dsw_r s4]) ?_
  refine b_copy (d12 (j := 30) rfl) rfl (by decide) s5 ?_
  refine b_aload_n (d12 (j := 31) rfl) rfl ?_
  refine b_getR (d12 (j := 32) rfl) rfl rfl rfl rfl ?_
  refine b_iload_n (d12 (j := 33) rfl) rfl ?_
  refine b_bipush (d12 (j := 34) rfl) (by decide) ?_
  refine b_imul (d12 (j := 35) rfl) rfl rfl ?_
  refine b_aload_n (d12 (j := 36) rfl) rfl ?_
  refine b_getR (d12 (j := 37) rfl) rfl rfl rfl rfl ?_
  refine b_iload_n (d12 (j := 38) rfl) rfl ?_
  refine b_bipush (d12 (j := 39) rfl) (by decide) ?_
  refine b_imul (d12 (j := 40) rfl) rfl rfl ?_
  refine b_aload_n (d12 (j := 41) rfl) rfl ?_
  refine b_getR (d12 (j := 42) rfl) rfl rfl rfl rfl ?_
  refine b_iload_n (d12 (j := 43) rfl) rfl ?_
  refine b_iaload (d12 (j := 44) rfl) rfl s2 ?_
  refine b_stk [uI ((dsCpy (dsSet (dsSet M (x0 + 4) x3 (M (x1 + 4) x2)) (x0 + 5) x3 ((dsSet M (x0 + 4) x3 (M (x1 + 4) x2)) (x1 + 5) x2)) (x1 + 2) (x2 * 60) (x0 + 2) (x3 * 60) (M (x1 + 4) x2)) (x0 + 4) x3), uI (x3 * 60), uR 24 (x0 + 3), uI (dsw ((x2 * 60))), uR 24 (x1 + 3)] (by rw [dsw_r s3]) ?_
  refine b_stk [uI ((dsCpy (dsSet (dsSet M (x0 + 4) x3 (M (x1 + 4) x2)) (x0 + 5) x3 ((dsSet M (x0 + 4) x3 (M (x1 + 4) x2)) (x1 + 5) x2)) (x1 + 2) (x2 * 60) (x0 + 2) (x3 * 60) (M (x1 + 4) x2)) (x0 + 4) x3), uI (x3 * 60), uR 24 (x0 + 3), uI (x2 * 60), uR 24 (x1 + 3)] (by rw [dsw_r s4]) ?_
  refine b_copy (d12 (j := 45) rfl) rfl (by decide) s6 ?_
  exact b_vret (d12 (j := 46) rfl) rfl k1
def L13 : List (Nat × Instr × Nat × Nat) := [(0, .aload_n 0, 1, 0), (1, .getfield 62, 4, 0), (4, .getfield 131, 7, 0), (7, .getfield 135, 10, 0), (10, .istore_n 2, 11, 0), (11, .iconst 0, 12, 0), (12, .istore_n 3, 13, 0), (13, .iload_n 3, 14, 0), (14, .iload_n 2, 15, 0), (15, .aload_n 0, 16, 0), (16, .getfield 62, 19, 0), (19, .getfield 140, 22, 0), (22, .getfield 135, 25, 0), (25, .iadd, 26, 0), (26, .if_icmp .ge 169, 29, 195), (29, .iload_n 3, 30, 0), (30, .iload_n 2, 31, 0), (31, .if_icmp .lt 7, 34, 38), (34, .iconst 1, 35, 0), (35, .goto 4, 38, 39), (38, .iconst 0, 39, 0), (39, .istore 4, 41, 0), (41, .iload 4, 43, 0), (43, .ifCond .eq 13, 46, 56), (46, .aload_n 0, 47, 0), (47, .getfield 62, 50, 0), (50, .getfield 140, 53, 0), (53, .goto 10, 56, 63), (56, .aload_n 0, 57, 0), (57, .getfield 62, 60, 0), (60, .getfield 131, 63, 0), (63, .astore 5, 65, 0), (65, .iload 4, 67, 0), (67, .ifCond .eq 9, 70, 76), (70, .iload_n 3, 71, 0), (71, .iload_n 2, 72, 0), (72, .isub, 73, 0), (73, .goto 4, 76, 77), (76, .iload_n 3, 77, 0), (77, .istore 6, 79, 0), (79, .iload 4, 81, 0), (81, .ifCond .eq 22, 84, 103), (84, .aload 5, 86, 0), (86, .getfield 143, 89, 0), (89, .iload 6, 91, 0), (91, .iaload, 92, 0), (92, .ifCond .ne 7, 95, 99), (95, .iconst 1, 96, 0), (96, .goto 19, 99, 115), (99, .iconst 0, 100, 0), (100, .goto 15, 103, 115), (103, .aload_n 0, 104, 0), (104, .getfield 12, 107, 0), (107, .getfield 146, 110, 0), (110, .iload 6, 112, 0), (112, .invokestatic 113, 115, 0), (115, .istore 7, 117, 0), (117, .iload 7, 119, 0), (119, .ifCond .eq 70, 122, 189), (122, .aload 5, 124, 0), (124, .getfield 149, 127, 0), (127, .iload 6, 129, 0), (129, .iaload, 130, 0), (130, .iload_n 1, 131, 0), (131, .if_icmp .ne 58, 134, 189), (134, .iconst 0, 135, 0), (135, .istore 8, 137, 0), (137, .iload 8, 139, 0), (139, .aload_n 0, 140, 0), (140, .getfield 62, 143, 0), (143, .getfield 100, 146, 0), (146, .if_icmp .ge 43, 149, 189), (149, .aload_n 0, 150, 0), (150, .iload_n 1, 151, 0), (151, .iload 8, 153, 0), (153, .aload 5, 155, 0), (155, .getfield 152, 158, 0), (158, .iload 6, 160, 0), (160, .iaload, 161, 0), (161, .aload 5, 163, 0), (163, .getfield 155, 166, 0), (166, .iload 6, 168, 0), (168, .iaload, 169, 0), (169, .aload_n 0, 170, 0), (170, .getfield 62, 173, 0), (173, .getfield 158, 176, 0), (176, .iload 8, 178, 0), (178, .iaload, 179, 0), (179, .imul, 180, 0), (180, .invokevirtual 161, 183, 0), (183, .iinc 8 1, 186, 0), (186, .goto (-49), 189, 137), (189, .iinc 3 1, 192, 0), (192, .goto (-179), 195, 13), (195, .return_, 196, 0)]
set_option maxRecDepth 100000 in
theorem L13_ok : L13.all (dck 13) = true := by decide +kernel
theorem d13 {j pc nx tg : Nat} {ins : Instr} (hj : L13[j]? = some (pc, ins, nx, tg)) : dcd 13 pc ins nx tg := dcl_ok L13_ok hj
set_option maxRecDepth 100000 in
set_option maxHeartbeats 4000000 in
theorem r13_0 {x0 x1 : Int}  {M : dsMem} {Q : bQT} (k1 : bB 13 13 [uR 5 x0, uI x1, uI (M 30 0), uI 0, uX 0, uX 0, uX 0, uX 0, uX 0] [] M Q) :
    bB 13 0 [uR 5 x0, uI x1, uX 0, uX 0, uX 0, uX 0, uX 0, uX 0, uX 0] [] M Q := by
  refine b_aload_n (d13 (j := 0) rfl) rfl ?_
  refine b_getRA (d13 (j := 1) rfl) rfl rfl rfl rfl ?_
  refine b_getR (d13 (j := 2) rfl) rfl rfl rfl rfl ?_
  refine b_stk [uR 1 30] rfl ?_
  refine b_getI (d13 (j := 3) rfl) rfl rfl rfl rfl (Or.inl rfl) ?_
  refine b_stk [uI (M 30 0)] rfl ?_
  refine b_istore_n [uR 5 x0, uI x1, uI (M 30 0), uX 0, uX 0, uX 0, uX 0, uX 0, uX 0] (d13 (j := 4) rfl) (by decide) rfl ?_
  refine b_iconst (d13 (j := 5) rfl) (by decide) ?_
  refine b_istore_n [uR 5 x0, uI x1, uI (M 30 0), uI 0, uX 0, uX 0, uX 0, uX 0, uX 0] (d13 (j := 6) rfl) (by decide) rfl ?_
  exact k1
set_option maxRecDepth 100000 in
set_option maxHeartbeats 4000000 in
theorem r13_13 {x0 x1 x2 x3 : Int}  {M : dsMem} {Q : bQT} (s1 : -2147483648 ≤ (x2 + (M 40 0)) ∧ (x2 + (M 40 0)) < 2147483648 := by intros; omega) (k1 : ((x2 + (M 40 0)) ≤ x3) → Q [] M) (s2 : (¬ (x2 + (M 40 0)) ≤ x3) → (x3 < x2) → (¬ (dsAnd (dsShr (M (x0 + 1) 1) x3) 1 = 1)) → -2147483648 ≤ x3 + 1 ∧ x3 + 1 < 2147483648 := by intros; omega) (k2 : (¬ (x2 + (M 40 0)) ≤ x3) → (x3 < x2) → (¬ (dsAnd (dsShr (M (x0 + 1) 1) x3) 1 = 1)) → bB 13 13 [uR 5 x0, uI x1, uI x2, uI (x3 + 1), uX 0, uX 0, uX 0, uX 0, uX 0] [] M Q) (s3 : (¬ (x2 + (M 40 0)) ≤ x3) → (x3 < x2) → ((dsAnd (dsShr (M (x0 + 1) 1) x3) 1 = 1)) → 0 ≤ x3 ∧ x3 < 8 := by intros; omega) (s4 : (¬ (x2 + (M 40 0)) ≤ x3) → (x3 < x2) → ((dsAnd (dsShr (M (x0 + 1) 1) x3) 1 = 1)) → (¬ (M 34 x3) = x1) → -2147483648 ≤ x3 + 1 ∧ x3 + 1 < 2147483648 := by intros; omega) (k3 : (¬ (x2 + (M 40 0)) ≤ x3) → (x3 < x2) → ((dsAnd (dsShr (M (x0 + 1) 1) x3) 1 = 1)) → (¬ (M 34 x3) = x1) → bB 13 13 [uR 5 x0, uI x1, uI x2, uI (x3 + 1), uX 0, uX 0, uX 0, uX 0, uX 0] [] M Q) (k4 : (¬ (x2 + (M 40 0)) ≤ x3) → (x3 < x2) → ((dsAnd (dsShr (M (x0 + 1) 1) x3) 1 = 1)) → ((M 34 x3) = x1) → bB 13 137 [uR 5 x0, uI x1, uI x2, uI x3, uX 0, uR 1 30, uI x3, uX 0, uI 0] [] M Q) (s5 : (¬ (x2 + (M 40 0)) ≤ x3) → (¬ x3 < x2) → -2147483648 ≤ (x3 - x2) ∧ (x3 - x2) < 2147483648 := by intros; omega) (s6 : (¬ (x2 + (M 40 0)) ≤ x3) → (¬ x3 < x2) → 0 ≤ (x3 - x2) ∧ (x3 - x2) < 30 := by intros; omega) (s7 : (¬ (x2 + (M 40 0)) ≤ x3) → (¬ x3 < x2) → (¬ (M 41 (x3 - x2)) = 0) → -2147483648 ≤ x3 + 1 ∧ x3 + 1 < 2147483648 := by intros; omega) (k5 : (¬ (x2 + (M 40 0)) ≤ x3) → (¬ x3 < x2) → (¬ (M 41 (x3 - x2)) = 0) → bB 13 13 [uR 5 x0, uI x1, uI x2, uI (x3 + 1), uX 0, uX 0, uX 0, uX 0, uX 0] [] M Q) (s8 : (¬ (x2 + (M 40 0)) ≤ x3) → (¬ x3 < x2) → ((M 41 (x3 - x2)) = 0) → (¬ (M 44 (x3 - x2)) = x1) → -2147483648 ≤ x3 + 1 ∧ x3 + 1 < 2147483648 := by intros; omega) (k6 : (¬ (x2 + (M 40 0)) ≤ x3) → (¬ x3 < x2) → ((M 41 (x3 - x2)) = 0) → (¬ (M 44 (x3 - x2)) = x1) → bB 13 13 [uR 5 x0, uI x1, uI x2, uI (x3 + 1), uX 0, uX 0, uX 0, uX 0, uX 0] [] M Q) (k7 : (¬ (x2 + (M 40 0)) ≤ x3) → (¬ x3 < x2) → ((M 41 (x3 - x2)) = 0) → ((M 44 (x3 - x2)) = x1) → bB 13 137 [uR 5 x0, uI x1, uI x2, uI x3, uX 0, uR 3 40, uI (x3 - x2), uX 0, uI 0] [] M Q) :
    bB 13 13 [uR 5 x0, uI x1, uI x2, uI x3, uX 0, uX 0, uX 0, uX 0, uX 0] [] M Q := by
  refine b_iload_n (d13 (j := 7) rfl) rfl ?_
  refine b_iload_n (d13 (j := 8) rfl) rfl ?_
  refine b_aload_n (d13 (j := 9) rfl) rfl ?_
  refine b_getRA (d13 (j := 10) rfl) rfl rfl rfl rfl ?_
  refine b_getR (d13 (j := 11) rfl) rfl rfl rfl rfl ?_
  refine b_stk [uR 3 40, uI x2, uI x3] rfl ?_
  refine b_getI (d13 (j := 12) rfl) rfl rfl rfl rfl (Or.inl rfl) ?_
  refine b_stk [uI (M 40 0), uI x2, uI x3] rfl ?_
  refine b_iadd (d13 (j := 13) rfl) rfl rfl ?_
  refine b_stk [uI (x2 + (M 40 0)), uI x3] (by rw [dsw_r s1]) ?_
  refine b_icmp_ge (d13 (j := 14) rfl) (fun c1 => ?_) (fun c1 => ?_)
  ·
    exact b_vret (d13 (j := 94) rfl) rfl (k1 c1)
  ·
    refine b_iload_n (d13 (j := 15) rfl) rfl ?_
    refine b_iload_n (d13 (j := 16) rfl) rfl ?_
    refine b_icmp_lt (d13 (j := 17) rfl) (fun c2 => ?_) (fun c2 => ?_)
    ·
      refine b_iconst (d13 (j := 20) rfl) (by decide) ?_
      refine b_istore [uR 5 x0, uI x1, uI x2, uI x3, uI 0, uX 0, uX 0, uX 0, uX 0] (d13 (j := 21) rfl) (by decide) rfl ?_
      refine b_iload (d13 (j := 22) rfl) rfl ?_
      refine b_if_eq (d13 (j := 23) rfl) (fun _ => ?_) (fun q => absurd q (by decide))
      refine b_aload_n (d13 (j := 28) rfl) rfl ?_
      refine b_getRA (d13 (j := 29) rfl) rfl rfl rfl rfl ?_
      refine b_getR (d13 (j := 30) rfl) rfl rfl rfl rfl ?_
      refine b_stk [uR 1 30] rfl ?_
      refine b_astore [uR 5 x0, uI x1, uI x2, uI x3, uI 0, uR 1 30, uX 0, uX 0, uX 0] (d13 (j := 31) rfl) (by decide) rfl ?_
      refine b_iload (d13 (j := 32) rfl) rfl ?_
      refine b_if_eq (d13 (j := 33) rfl) (fun _ => ?_) (fun q => absurd q (by decide))
      refine b_iload_n (d13 (j := 38) rfl) rfl ?_
      refine b_istore [uR 5 x0, uI x1, uI x2, uI x3, uI 0, uR 1 30, uI x3, uX 0, uX 0] (d13 (j := 39) rfl) (by decide) rfl ?_
      refine b_iload (d13 (j := 40) rfl) rfl ?_
      refine b_if_eq (d13 (j := 41) rfl) (fun _ => ?_) (fun q => absurd q (by decide))
      refine b_aload_n (d13 (j := 51) rfl) rfl ?_
      refine b_getR (d13 (j := 52) rfl) rfl rfl rfl rfl ?_
      refine b_getI (d13 (j := 53) rfl) rfl rfl rfl rfl (Or.inl rfl) ?_
      refine b_stk [uI (M (x0 + 1) 1)] rfl ?_
      refine b_iload (d13 (j := 54) rfl) rfl ?_
      refine b_callS (d13 (j := 55) rfl) (Or.inr rfl) rfl (bCk_mk (n := 0) (k := 2) (by decide +kernel) rfl rfl) (pu145 ?_)
      refine b_stk [uI (if (dsAnd (dsShr (M (x0 + 1) 1) x3) 1 = 1) then 1 else 0)] rfl ?_
      refine b_istore [uR 5 x0, uI x1, uI x2, uI x3, uI 0, uR 1 30, uI x3, uI (if (dsAnd (dsShr (M (x0 + 1) 1) x3) 1 = 1) then 1 else 0), uX 0] (d13 (j := 56) rfl) (by decide) rfl ?_
      refine b_iload (d13 (j := 57) rfl) rfl ?_
      refine b_ifeqP (d13 (j := 58) rfl) (fun c6 => ?_) (fun c6 => ?_)
      ·
        refine b_iinc [uR 5 x0, uI x1, uI x2, uI (x3 + 1), uI 0, uR 1 30, uI x3, uI (if (dsAnd (dsShr (M (x0 + 1) 1) x3) 1 = 1) then 1 else 0), uX 0] (d13 (j := 92) rfl) rfl (by decide) (s2 c1 c2 c6) rfl ?_
        refine b_goto (d13 (j := 93) rfl) ?_
        exact bB_le _ (bLe_s (bLe_s (bLe_s (bLe_s (bLe_x (bLe_x (bLe_x (bLe_x (bLe_s bLe_nil))))))))) (k2 c1 c2 c6)
      ·
        refine b_aload (d13 (j := 59) rfl) rfl ?_
        refine b_getR (d13 (j := 60) rfl) rfl rfl rfl rfl ?_
        refine b_stk [uR 20 34] rfl ?_
        refine b_iload (d13 (j := 61) rfl) rfl ?_
        refine b_iaload (d13 (j := 62) rfl) rfl (s3 c1 c2 c6) ?_
        refine b_iload_n (d13 (j := 63) rfl) rfl ?_
        refine b_icmp_ne (d13 (j := 64) rfl) (fun c7 => ?_) (fun c7 => ?_)
        ·
          refine b_iinc [uR 5 x0, uI x1, uI x2, uI (x3 + 1), uI 0, uR 1 30, uI x3, uI (if (dsAnd (dsShr (M (x0 + 1) 1) x3) 1 = 1) then 1 else 0), uX 0] (d13 (j := 92) rfl) rfl (by decide) (s4 c1 c2 c6 c7) rfl ?_
          refine b_goto (d13 (j := 93) rfl) ?_
          exact bB_le _ (bLe_s (bLe_s (bLe_s (bLe_s (bLe_x (bLe_x (bLe_x (bLe_x (bLe_s bLe_nil))))))))) (k3 c1 c2 c6 c7)
        ·
          refine b_iconst (d13 (j := 65) rfl) (by decide) ?_
          refine b_istore [uR 5 x0, uI x1, uI x2, uI x3, uI 0, uR 1 30, uI x3, uI (if (dsAnd (dsShr (M (x0 + 1) 1) x3) 1 = 1) then 1 else 0), uI 0] (d13 (j := 66) rfl) (by decide) rfl ?_
          exact bB_le _ (bLe_s (bLe_s (bLe_s (bLe_s (bLe_x (bLe_s (bLe_s (bLe_x (bLe_s bLe_nil))))))))) (k4 c1 c2 c6 c7)
    ·
      refine b_iconst (d13 (j := 18) rfl) (by decide) ?_
      refine b_goto (d13 (j := 19) rfl) ?_
      refine b_istore [uR 5 x0, uI x1, uI x2, uI x3, uI 1, uX 0, uX 0, uX 0, uX 0] (d13 (j := 21) rfl) (by decide) rfl ?_
      refine b_iload (d13 (j := 22) rfl) rfl ?_
      refine b_if_eq (d13 (j := 23) rfl) (fun q => absurd q (by decide)) (fun _ => ?_)
      refine b_aload_n (d13 (j := 24) rfl) rfl ?_
      refine b_getRA (d13 (j := 25) rfl) rfl rfl rfl rfl ?_
      refine b_getR (d13 (j := 26) rfl) rfl rfl rfl rfl ?_
      refine b_stk [uR 3 40] rfl ?_
      refine b_goto (d13 (j := 27) rfl) ?_
      refine b_astore [uR 5 x0, uI x1, uI x2, uI x3, uI 1, uR 3 40, uX 0, uX 0, uX 0] (d13 (j := 31) rfl) (by decide) rfl ?_
      refine b_iload (d13 (j := 32) rfl) rfl ?_
      refine b_if_eq (d13 (j := 33) rfl) (fun q => absurd q (by decide)) (fun _ => ?_)
      refine b_iload_n (d13 (j := 34) rfl) rfl ?_
      refine b_iload_n (d13 (j := 35) rfl) rfl ?_
      refine b_isub (d13 (j := 36) rfl) rfl rfl ?_
      refine b_goto (d13 (j := 37) rfl) ?_
      refine b_stk [uI (x3 - x2)] (by rw [dsw_r (s5 c1 c2)]) ?_
      refine b_istore [uR 5 x0, uI x1, uI x2, uI x3, uI 1, uR 3 40, uI (x3 - x2), uX 0, uX 0] (d13 (j := 39) rfl) (by decide) rfl ?_
      refine b_iload (d13 (j := 40) rfl) rfl ?_
      refine b_if_eq (d13 (j := 41) rfl) (fun q => absurd q (by decide)) (fun _ => ?_)
      refine b_aload (d13 (j := 42) rfl) rfl ?_
      refine b_getR (d13 (j := 43) rfl) rfl rfl rfl rfl ?_
      refine b_stk [uR 22 41] rfl ?_
      refine b_iload (d13 (j := 44) rfl) rfl ?_
      refine b_iaload (d13 (j := 45) rfl) rfl (s6 c1 c2) ?_
      refine b_if_ne (d13 (j := 46) rfl) (fun c11 => ?_) (fun c11 => ?_)
      ·
        refine b_iconst (d13 (j := 49) rfl) (by decide) ?_
        refine b_goto (d13 (j := 50) rfl) ?_
        refine b_istore [uR 5 x0, uI x1, uI x2, uI x3, uI 1, uR 3 40, uI (x3 - x2), uI 0, uX 0] (d13 (j := 56) rfl) (by decide) rfl ?_
        refine b_iload (d13 (j := 57) rfl) rfl ?_
        refine b_if_eq (d13 (j := 58) rfl) (fun _ => ?_) (fun q => absurd q (by decide))
        refine b_iinc [uR 5 x0, uI x1, uI x2, uI (x3 + 1), uI 1, uR 3 40, uI (x3 - x2), uI 0, uX 0] (d13 (j := 92) rfl) rfl (by decide) (s7 c1 c2 c11) rfl ?_
        refine b_goto (d13 (j := 93) rfl) ?_
        exact bB_le _ (bLe_s (bLe_s (bLe_s (bLe_s (bLe_x (bLe_x (bLe_x (bLe_x (bLe_s bLe_nil))))))))) (k5 c1 c2 c11)
      ·
        refine b_iconst (d13 (j := 47) rfl) (by decide) ?_
        refine b_goto (d13 (j := 48) rfl) ?_
        refine b_istore [uR 5 x0, uI x1, uI x2, uI x3, uI 1, uR 3 40, uI (x3 - x2), uI 1, uX 0] (d13 (j := 56) rfl) (by decide) rfl ?_
        refine b_iload (d13 (j := 57) rfl) rfl ?_
        refine b_if_eq (d13 (j := 58) rfl) (fun q => absurd q (by decide)) (fun _ => ?_)
        refine b_aload (d13 (j := 59) rfl) rfl ?_
        refine b_getR (d13 (j := 60) rfl) rfl rfl rfl rfl ?_
        refine b_stk [uR 22 44] rfl ?_
        refine b_iload (d13 (j := 61) rfl) rfl ?_
        refine b_iaload (d13 (j := 62) rfl) rfl (s6 c1 c2) ?_
        refine b_iload_n (d13 (j := 63) rfl) rfl ?_
        refine b_icmp_ne (d13 (j := 64) rfl) (fun c14 => ?_) (fun c14 => ?_)
        ·
          refine b_iinc [uR 5 x0, uI x1, uI x2, uI (x3 + 1), uI 1, uR 3 40, uI (x3 - x2), uI 1, uX 0] (d13 (j := 92) rfl) rfl (by decide) (s8 c1 c2 c11 c14) rfl ?_
          refine b_goto (d13 (j := 93) rfl) ?_
          exact bB_le _ (bLe_s (bLe_s (bLe_s (bLe_s (bLe_x (bLe_x (bLe_x (bLe_x (bLe_s bLe_nil))))))))) (k6 c1 c2 c11 c14)
        ·
          refine b_iconst (d13 (j := 65) rfl) (by decide) ?_
          refine b_istore [uR 5 x0, uI x1, uI x2, uI x3, uI 1, uR 3 40, uI (x3 - x2), uI 1, uI 0] (d13 (j := 66) rfl) (by decide) rfl ?_
          exact bB_le _ (bLe_s (bLe_s (bLe_s (bLe_s (bLe_x (bLe_s (bLe_s (bLe_x (bLe_s bLe_nil))))))))) (k7 c1 c2 c11 c14)
set_option maxRecDepth 100000 in
set_option maxHeartbeats 4000000 in
theorem r13_137 {x0 x1 x2 x3 x6 x8 : Int} {R1 : dsMem → Prop} {M : dsMem} {Q : bQT} (s1 : ((M 24 5) ≤ x8) → -2147483648 ≤ x3 + 1 ∧ x3 + 1 < 2147483648 := by intros; omega) (k1 : ((M 24 5) ≤ x8) → bB 13 13 [uR 5 x0, uI x1, uI x2, uI (x3 + 1), uX 0, uX 0, uX 0, uX 0, uX 0] [] M Q) (s2 : (¬ (M 24 5) ≤ x8) → 0 ≤ x6 ∧ x6 < 8 := by intros; omega) (s3 : (¬ (M 24 5) ≤ x8) → 0 ≤ x8 ∧ x8 < 6 := by intros; omega) (hA1 : (¬ (M 24 5) ≤ x8) → bCt 14 [uR 5 x0, uI x1, uI x8, uI (M 32 x6), uI (dsw (((M 33 x6) * (M 28 x8)))), uX 0, uX 0] M (fun _ => []) R1) (s4 : (¬ (M 24 5) ≤ x8) → ∀ M1 : dsMem, R1 M1 → -2147483648 ≤ x8 + 1 ∧ x8 + 1 < 2147483648 := by intros; omega) (k2 : (¬ (M 24 5) ≤ x8) → ∀ M1 : dsMem, R1 M1 → bB 13 137 [uR 5 x0, uI x1, uI x2, uI x3, uX 0, uR 1 30, uI x6, uX 0, uI (x8 + 1)] [] M1 Q) :
    bB 13 137 [uR 5 x0, uI x1, uI x2, uI x3, uX 0, uR 1 30, uI x6, uX 0, uI x8] [] M Q := by
  refine b_iload (d13 (j := 67) rfl) rfl ?_
  refine b_aload_n (d13 (j := 68) rfl) rfl ?_
  refine b_getRA (d13 (j := 69) rfl) rfl rfl rfl rfl ?_
  refine b_getI (d13 (j := 70) rfl) rfl rfl rfl rfl (Or.inl rfl) ?_
  refine b_stk [uI (M 24 5), uI x8] rfl ?_
  refine b_icmp_ge (d13 (j := 71) rfl) (fun c1 => ?_) (fun c1 => ?_)
  ·
    refine b_iinc [uR 5 x0, uI x1, uI x2, uI (x3 + 1), uX 0, uR 1 30, uI x6, uX 0, uI x8] (d13 (j := 92) rfl) rfl (by decide) (s1 c1) rfl ?_
    refine b_goto (d13 (j := 93) rfl) ?_
    exact bB_le _ (bLe_s (bLe_s (bLe_s (bLe_s (bLe_s (bLe_x (bLe_x (bLe_s (bLe_x bLe_nil))))))))) (k1 c1)
  ·
    refine b_aload_n (d13 (j := 72) rfl) rfl ?_
    refine b_iload_n (d13 (j := 73) rfl) rfl ?_
    refine b_iload (d13 (j := 74) rfl) rfl ?_
    refine b_aload (d13 (j := 75) rfl) rfl ?_
    refine b_getR (d13 (j := 76) rfl) rfl rfl rfl rfl ?_
    refine b_stk [uR 20 32, uI x8, uI x1, uR 5 x0] rfl ?_
    refine b_iload (d13 (j := 77) rfl) rfl ?_
    refine b_iaload (d13 (j := 78) rfl) rfl (s2 c1) ?_
    refine b_aload (d13 (j := 79) rfl) rfl ?_
    refine b_getR (d13 (j := 80) rfl) rfl rfl rfl rfl ?_
    refine b_stk [uR 20 33, uI (M 32 x6), uI x8, uI x1, uR 5 x0] rfl ?_
    refine b_iload (d13 (j := 81) rfl) rfl ?_
    refine b_iaload (d13 (j := 82) rfl) rfl (s2 c1) ?_
    refine b_aload_n (d13 (j := 83) rfl) rfl ?_
    refine b_getRA (d13 (j := 84) rfl) rfl rfl rfl rfl ?_
    refine b_getR (d13 (j := 85) rfl) rfl rfl rfl rfl ?_
    refine b_stk [uR 21 28, uI (M 33 x6), uI (M 32 x6), uI x8, uI x1, uR 5 x0] rfl ?_
    refine b_iload (d13 (j := 86) rfl) rfl ?_
    refine b_iaload (d13 (j := 87) rfl) rfl (s3 c1) ?_
    refine b_imul (d13 (j := 88) rfl) rfl rfl ?_
    refine b_callV (d13 (j := 89) rfl) rfl rfl (Or.inl rfl) rfl (bCk_mk (n := 0) (k := 5) (by decide +kernel) rfl rfl) ((hA1 c1) _ (fun M1 hR1 => ?_))
    refine b_stk [] rfl ?_
    refine b_iinc [uR 5 x0, uI x1, uI x2, uI x3, uX 0, uR 1 30, uI x6, uX 0, uI (x8 + 1)] (d13 (j := 90) rfl) rfl (by decide) (s4 c1 M1 hR1) rfl ?_
    refine b_goto (d13 (j := 91) rfl) ?_
    exact (k2 c1 M1 hR1)
set_option maxRecDepth 100000 in
set_option maxHeartbeats 4000000 in
theorem r13_137b {x0 x1 x2 x3 x6 x8 : Int} {R1 : dsMem → Prop} {M : dsMem} {Q : bQT} (s1 : ((M 24 5) ≤ x8) → -2147483648 ≤ x3 + 1 ∧ x3 + 1 < 2147483648 := by intros; omega) (k1 : ((M 24 5) ≤ x8) → bB 13 13 [uR 5 x0, uI x1, uI x2, uI (x3 + 1), uX 0, uX 0, uX 0, uX 0, uX 0] [] M Q) (s2 : (¬ (M 24 5) ≤ x8) → 0 ≤ x6 ∧ x6 < 30 := by intros; omega) (s3 : (¬ (M 24 5) ≤ x8) → 0 ≤ x8 ∧ x8 < 6 := by intros; omega) (hA1 : (¬ (M 24 5) ≤ x8) → bCt 14 [uR 5 x0, uI x1, uI x8, uI (M 42 x6), uI (dsw (((M 43 x6) * (M 28 x8)))), uX 0, uX 0] M (fun _ => []) R1) (s4 : (¬ (M 24 5) ≤ x8) → ∀ M1 : dsMem, R1 M1 → -2147483648 ≤ x8 + 1 ∧ x8 + 1 < 2147483648 := by intros; omega) (k2 : (¬ (M 24 5) ≤ x8) → ∀ M1 : dsMem, R1 M1 → bB 13 137 [uR 5 x0, uI x1, uI x2, uI x3, uX 0, uR 3 40, uI x6, uX 0, uI (x8 + 1)] [] M1 Q) :
    bB 13 137 [uR 5 x0, uI x1, uI x2, uI x3, uX 0, uR 3 40, uI x6, uX 0, uI x8] [] M Q := by
  refine b_iload (d13 (j := 67) rfl) rfl ?_
  refine b_aload_n (d13 (j := 68) rfl) rfl ?_
  refine b_getRA (d13 (j := 69) rfl) rfl rfl rfl rfl ?_
  refine b_getI (d13 (j := 70) rfl) rfl rfl rfl rfl (Or.inl rfl) ?_
  refine b_stk [uI (M 24 5), uI x8] rfl ?_
  refine b_icmp_ge (d13 (j := 71) rfl) (fun c1 => ?_) (fun c1 => ?_)
  ·
    refine b_iinc [uR 5 x0, uI x1, uI x2, uI (x3 + 1), uX 0, uR 3 40, uI x6, uX 0, uI x8] (d13 (j := 92) rfl) rfl (by decide) (s1 c1) rfl ?_
    refine b_goto (d13 (j := 93) rfl) ?_
    exact bB_le _ (bLe_s (bLe_s (bLe_s (bLe_s (bLe_s (bLe_x (bLe_x (bLe_s (bLe_x bLe_nil))))))))) (k1 c1)
  ·
    refine b_aload_n (d13 (j := 72) rfl) rfl ?_
    refine b_iload_n (d13 (j := 73) rfl) rfl ?_
    refine b_iload (d13 (j := 74) rfl) rfl ?_
    refine b_aload (d13 (j := 75) rfl) rfl ?_
    refine b_getR (d13 (j := 76) rfl) rfl rfl rfl rfl ?_
    refine b_stk [uR 22 42, uI x8, uI x1, uR 5 x0] rfl ?_
    refine b_iload (d13 (j := 77) rfl) rfl ?_
    refine b_iaload (d13 (j := 78) rfl) rfl (s2 c1) ?_
    refine b_aload (d13 (j := 79) rfl) rfl ?_
    refine b_getR (d13 (j := 80) rfl) rfl rfl rfl rfl ?_
    refine b_stk [uR 22 43, uI (M 42 x6), uI x8, uI x1, uR 5 x0] rfl ?_
    refine b_iload (d13 (j := 81) rfl) rfl ?_
    refine b_iaload (d13 (j := 82) rfl) rfl (s2 c1) ?_
    refine b_aload_n (d13 (j := 83) rfl) rfl ?_
    refine b_getRA (d13 (j := 84) rfl) rfl rfl rfl rfl ?_
    refine b_getR (d13 (j := 85) rfl) rfl rfl rfl rfl ?_
    refine b_stk [uR 21 28, uI (M 43 x6), uI (M 42 x6), uI x8, uI x1, uR 5 x0] rfl ?_
    refine b_iload (d13 (j := 86) rfl) rfl ?_
    refine b_iaload (d13 (j := 87) rfl) rfl (s3 c1) ?_
    refine b_imul (d13 (j := 88) rfl) rfl rfl ?_
    refine b_callV (d13 (j := 89) rfl) rfl rfl (Or.inl rfl) rfl (bCk_mk (n := 0) (k := 5) (by decide +kernel) rfl rfl) ((hA1 c1) _ (fun M1 hR1 => ?_))
    refine b_stk [] rfl ?_
    refine b_iinc [uR 5 x0, uI x1, uI x2, uI x3, uX 0, uR 3 40, uI x6, uX 0, uI (x8 + 1)] (d13 (j := 90) rfl) rfl (by decide) (s4 c1 M1 hR1) rfl ?_
    refine b_goto (d13 (j := 91) rfl) ?_
    exact (k2 c1 M1 hR1)
def L14 : List (Nat × Instr × Nat × Nat) := [(0, .iload 4, 2, 0), (2, .istore 5, 4, 0), (4, .iload_n 2, 5, 0), (5, .istore 6, 7, 0), (7, .iload 6, 9, 0), (9, .aload_n 0, 10, 0), (10, .getfield 62, 13, 0), (13, .getfield 100, 16, 0), (16, .if_icmp .ge 84, 19, 100), (19, .iload 5, 21, 0), (21, .ifCond .le 79, 24, 100), (24, .iload 6, 26, 0), (26, .iload_n 2, 27, 0), (27, .if_icmp .eq 13, 30, 40), (30, .aload_n 0, 31, 0), (31, .iload_n 2, 32, 0), (32, .iload 6, 34, 0), (34, .invokevirtual 165, 37, 0), (37, .ifCond .eq 57, 40, 94), (40, .aload_n 0, 41, 0), (41, .getfield 34, 44, 0), (44, .iload_n 1, 45, 0), (45, .iconst 1, 46, 0), (46, .iadd, 47, 0), (47, .iaload, 48, 0), (48, .aload_n 0, 49, 0), (49, .getfield 62, 52, 0), (52, .getfield 168, 55, 0), (55, .iload 6, 57, 0), (57, .iaload, 58, 0), (58, .invokestatic 113, 61, 0), (61, .ifCond .eq 39, 64, 100), (64, .aload_n 0, 65, 0), (65, .getfield 12, 68, 0), (68, .getfield 171, 71, 0), (71, .iload 6, 73, 0), (73, .invokestatic 113, 76, 0), (76, .ifCond .ne 6, 79, 82), (79, .goto 21, 82, 100), (82, .aload_n 0, 83, 0), (83, .iload_n 1, 84, 0), (84, .iload 6, 86, 0), (86, .iload_n 3, 87, 0), (87, .iload 5, 89, 0), (89, .invokevirtual 174, 92, 0), (92, .istore 5, 94, 0), (94, .iinc 6 1, 97, 0), (97, .goto (-90), 100, 7), (100, .aload_n 0, 101, 0), (101, .getfield 37, 104, 0), (104, .iload_n 1, 105, 0), (105, .dup2, 106, 0), (106, .iaload, 107, 0), (107, .iload 5, 109, 0), (109, .iadd, 110, 0), (110, .iastore, 111, 0), (111, .return_, 112, 0)]
set_option maxRecDepth 100000 in
theorem L14_ok : L14.all (dck 14) = true := by decide +kernel
theorem d14 {j pc nx tg : Nat} {ins : Instr} (hj : L14[j]? = some (pc, ins, nx, tg)) : dcd 14 pc ins nx tg := dcl_ok L14_ok hj
set_option maxRecDepth 100000 in
set_option maxHeartbeats 4000000 in
theorem r14_0 {x0 x1 x2 x3 x4 : Int}  {M : dsMem} {Q : bQT} (k1 : bB 14 7 [uR 5 x0, uI x1, uI x2, uI x3, uX 0, uI x4, uI x2] [] M Q) :
    bB 14 0 [uR 5 x0, uI x1, uI x2, uI x3, uI x4, uX 0, uX 0] [] M Q := by
  refine b_iload (d14 (j := 0) rfl) rfl ?_
  refine b_istore [uR 5 x0, uI x1, uI x2, uI x3, uI x4, uI x4, uX 0] (d14 (j := 1) rfl) (by decide) rfl ?_
  refine b_iload_n (d14 (j := 2) rfl) rfl ?_
  refine b_istore [uR 5 x0, uI x1, uI x2, uI x3, uI x4, uI x4, uI x2] (d14 (j := 3) rfl) (by decide) rfl ?_
  exact bB_le _ (bLe_s (bLe_s (bLe_s (bLe_s (bLe_x (bLe_s (bLe_s bLe_nil))))))) k1
set_option maxRecDepth 100000 in
set_option maxHeartbeats 4000000 in
theorem r14_7 {x0 x1 x2 x3 x5 x6 : Int} {R1 : dsMem → Prop} {g1 : dsMem → Int} {R2 : dsMem → Prop} {g2 : dsMem → Int} {M : dsMem} {Q : bQT} (s1 : ((M 24 5) ≤ x6) → 0 ≤ x1 ∧ x1 < 12 := by intros; omega) (k1 : ((M 24 5) ≤ x6) → Q [] (dsSet M (x0 + 8) x1 (dsw (((M (x0 + 8) x1) + x5))))) (s2 : (¬ (M 24 5) ≤ x6) → (x5 ≤ 0) → 0 ≤ x1 ∧ x1 < 12 := by intros; omega) (k2 : (¬ (M 24 5) ≤ x6) → (x5 ≤ 0) → Q [] (dsSet M (x0 + 8) x1 (dsw (((M (x0 + 8) x1) + x5))))) (s3 : (¬ (M 24 5) ≤ x6) → (¬ x5 ≤ 0) → (x6 = x2) → 0 ≤ (x1 + 1) ∧ (x1 + 1) < 13 := by intros; omega) (s4 : (¬ (M 24 5) ≤ x6) → (¬ x5 ≤ 0) → (x6 = x2) → 0 ≤ x6 ∧ x6 < 6 := by intros; omega) (s5 : (¬ (M 24 5) ≤ x6) → (¬ x5 ≤ 0) → (x6 = x2) → (¬ (dsAnd (dsShr (M (x0 + 7) (x1 + 1)) (M 29 x6)) 1 = 1)) → 0 ≤ x1 ∧ x1 < 12 := by intros; omega) (k3 : (¬ (M 24 5) ≤ x6) → (¬ x5 ≤ 0) → (x6 = x2) → (¬ (dsAnd (dsShr (M (x0 + 7) (x1 + 1)) (M 29 x6)) 1 = 1)) → Q [] (dsSet M (x0 + 8) x1 (dsw (((M (x0 + 8) x1) + x5))))) (hA1 : (¬ (M 24 5) ≤ x6) → (¬ x5 ≤ 0) → (x6 = x2) → ((dsAnd (dsShr (M (x0 + 7) (x1 + 1)) (M 29 x6)) 1 = 1)) → ((dsAnd (dsShr (M (x0 + 1) 4) x6) 1 = 1)) → bCt 16 [uR 5 x0, uI x1, uI x6, uI x3, uI x5, uX 0, uX 0, uX 0, uX 0] M (fun M1 => [uI (g1 M1)]) R1) (s6 : (¬ (M 24 5) ≤ x6) → (¬ x5 ≤ 0) → (x6 = x2) → ((dsAnd (dsShr (M (x0 + 7) (x1 + 1)) (M 29 x6)) 1 = 1)) → ((dsAnd (dsShr (M (x0 + 1) 4) x6) 1 = 1)) → ∀ M1 : dsMem, R1 M1 → -2147483648 ≤ x6 + 1 ∧ x6 + 1 < 2147483648 := by intros; omega) (k4 : (¬ (M 24 5) ≤ x6) → (¬ x5 ≤ 0) → (x6 = x2) → ((dsAnd (dsShr (M (x0 + 7) (x1 + 1)) (M 29 x6)) 1 = 1)) → ((dsAnd (dsShr (M (x0 + 1) 4) x6) 1 = 1)) → ∀ M1 : dsMem, R1 M1 → bB 14 7 [uR 5 x0, uI x1, uI x2, uI x3, uX 0, uI (g1 M1), uI (x6 + 1)] [] M1 Q) (s7 : (¬ (M 24 5) ≤ x6) → (¬ x5 ≤ 0) → (x6 = x2) → ((dsAnd (dsShr (M (x0 + 7) (x1 + 1)) (M 29 x6)) 1 = 1)) → (¬ (dsAnd (dsShr (M (x0 + 1) 4) x6) 1 = 1)) → 0 ≤ x1 ∧ x1 < 12 := by intros; omega) (k5 : (¬ (M 24 5) ≤ x6) → (¬ x5 ≤ 0) → (x6 = x2) → ((dsAnd (dsShr (M (x0 + 7) (x1 + 1)) (M 29 x6)) 1 = 1)) → (¬ (dsAnd (dsShr (M (x0 + 1) 4) x6) 1 = 1)) → Q [] (dsSet M (x0 + 8) x1 (dsw (((M (x0 + 8) x1) + x5))))) (s8 : (¬ (M 24 5) ≤ x6) → (¬ x5 ≤ 0) → (¬ x6 = x2) → (¬ (M x0 14) = 2) → ((M x0 14) = 1) → 0 ≤ x2 ∧ x2 < 6 := by intros; omega) (s9 : (¬ (M 24 5) ≤ x6) → (¬ x5 ≤ 0) → (¬ x6 = x2) → (¬ (M x0 14) = 2) → ((M x0 14) = 1) → 0 ≤ x6 ∧ x6 < 6 := by intros; omega) (s10 : (¬ (M 24 5) ≤ x6) → (¬ x5 ≤ 0) → (¬ x6 = x2) → (¬ (((M x0 14) = 2) ∨ (((M x0 14) = 1) ∧ ((M 29 x2) = (M 29 x6))))) → -2147483648 ≤ x6 + 1 ∧ x6 + 1 < 2147483648 := by intros; omega) (k6 : (¬ (M 24 5) ≤ x6) → (¬ x5 ≤ 0) → (¬ x6 = x2) → (¬ (((M x0 14) = 2) ∨ (((M x0 14) = 1) ∧ ((M 29 x2) = (M 29 x6))))) → bB 14 7 [uR 5 x0, uI x1, uI x2, uI x3, uX 0, uI x5, uI (x6 + 1)] [] M Q) (s11 : (¬ (M 24 5) ≤ x6) → (¬ x5 ≤ 0) → (¬ x6 = x2) → ((((M x0 14) = 2) ∨ (((M x0 14) = 1) ∧ ((M 29 x2) = (M 29 x6))))) → 0 ≤ (x1 + 1) ∧ (x1 + 1) < 13 := by intros; omega) (s12 : (¬ (M 24 5) ≤ x6) → (¬ x5 ≤ 0) → (¬ x6 = x2) → ((((M x0 14) = 2) ∨ (((M x0 14) = 1) ∧ ((M 29 x2) = (M 29 x6))))) → 0 ≤ x6 ∧ x6 < 6 := by intros; omega) (s13 : (¬ (M 24 5) ≤ x6) → (¬ x5 ≤ 0) → (¬ x6 = x2) → ((((M x0 14) = 2) ∨ (((M x0 14) = 1) ∧ ((M 29 x2) = (M 29 x6))))) → (¬ (dsAnd (dsShr (M (x0 + 7) (x1 + 1)) (M 29 x6)) 1 = 1)) → 0 ≤ x1 ∧ x1 < 12 := by intros; omega) (k7 : (¬ (M 24 5) ≤ x6) → (¬ x5 ≤ 0) → (¬ x6 = x2) → ((((M x0 14) = 2) ∨ (((M x0 14) = 1) ∧ ((M 29 x2) = (M 29 x6))))) → (¬ (dsAnd (dsShr (M (x0 + 7) (x1 + 1)) (M 29 x6)) 1 = 1)) → Q [] (dsSet M (x0 + 8) x1 (dsw (((M (x0 + 8) x1) + x5))))) (hA2 : (¬ (M 24 5) ≤ x6) → (¬ x5 ≤ 0) → (¬ x6 = x2) → ((((M x0 14) = 2) ∨ (((M x0 14) = 1) ∧ ((M 29 x2) = (M 29 x6))))) → ((dsAnd (dsShr (M (x0 + 7) (x1 + 1)) (M 29 x6)) 1 = 1)) → ((dsAnd (dsShr (M (x0 + 1) 4) x6) 1 = 1)) → bCt 16 [uR 5 x0, uI x1, uI x6, uI x3, uI x5, uX 0, uX 0, uX 0, uX 0] M (fun M2 => [uI (g2 M2)]) R2) (s14 : (¬ (M 24 5) ≤ x6) → (¬ x5 ≤ 0) → (¬ x6 = x2) → ((((M x0 14) = 2) ∨ (((M x0 14) = 1) ∧ ((M 29 x2) = (M 29 x6))))) → ((dsAnd (dsShr (M (x0 + 7) (x1 + 1)) (M 29 x6)) 1 = 1)) → ((dsAnd (dsShr (M (x0 + 1) 4) x6) 1 = 1)) → ∀ M2 : dsMem, R2 M2 → -2147483648 ≤ x6 + 1 ∧ x6 + 1 < 2147483648 := by intros; omega) (k8 : (¬ (M 24 5) ≤ x6) → (¬ x5 ≤ 0) → (¬ x6 = x2) → ((((M x0 14) = 2) ∨ (((M x0 14) = 1) ∧ ((M 29 x2) = (M 29 x6))))) → ((dsAnd (dsShr (M (x0 + 7) (x1 + 1)) (M 29 x6)) 1 = 1)) → ((dsAnd (dsShr (M (x0 + 1) 4) x6) 1 = 1)) → ∀ M2 : dsMem, R2 M2 → bB 14 7 [uR 5 x0, uI x1, uI x2, uI x3, uX 0, uI (g2 M2), uI (x6 + 1)] [] M2 Q) (s15 : (¬ (M 24 5) ≤ x6) → (¬ x5 ≤ 0) → (¬ x6 = x2) → ((((M x0 14) = 2) ∨ (((M x0 14) = 1) ∧ ((M 29 x2) = (M 29 x6))))) → ((dsAnd (dsShr (M (x0 + 7) (x1 + 1)) (M 29 x6)) 1 = 1)) → (¬ (dsAnd (dsShr (M (x0 + 1) 4) x6) 1 = 1)) → 0 ≤ x1 ∧ x1 < 12 := by intros; omega) (k9 : (¬ (M 24 5) ≤ x6) → (¬ x5 ≤ 0) → (¬ x6 = x2) → ((((M x0 14) = 2) ∨ (((M x0 14) = 1) ∧ ((M 29 x2) = (M 29 x6))))) → ((dsAnd (dsShr (M (x0 + 7) (x1 + 1)) (M 29 x6)) 1 = 1)) → (¬ (dsAnd (dsShr (M (x0 + 1) 4) x6) 1 = 1)) → Q [] (dsSet M (x0 + 8) x1 (dsw (((M (x0 + 8) x1) + x5))))) :
    bB 14 7 [uR 5 x0, uI x1, uI x2, uI x3, uX 0, uI x5, uI x6] [] M Q := by
  refine b_iload (d14 (j := 4) rfl) rfl ?_
  refine b_aload_n (d14 (j := 5) rfl) rfl ?_
  refine b_getRA (d14 (j := 6) rfl) rfl rfl rfl rfl ?_
  refine b_getI (d14 (j := 7) rfl) rfl rfl rfl rfl (Or.inl rfl) ?_
  refine b_stk [uI (M 24 5), uI x6] rfl ?_
  refine b_icmp_ge (d14 (j := 8) rfl) (fun c1 => ?_) (fun c1 => ?_)
  ·
    refine b_aload_n (d14 (j := 48) rfl) rfl ?_
    refine b_getR (d14 (j := 49) rfl) rfl rfl rfl rfl ?_
    refine b_iload_n (d14 (j := 50) rfl) rfl ?_
    refine b_dup2 (d14 (j := 51) rfl) ?_
    refine b_iaload (d14 (j := 52) rfl) rfl (s1 c1) ?_
    refine b_iload (d14 (j := 53) rfl) rfl ?_
    refine b_iadd (d14 (j := 54) rfl) rfl rfl ?_
    refine b_iastore (d14 (j := 55) rfl) rfl (s1 c1) ?_
    exact b_vret (d14 (j := 56) rfl) rfl (k1 c1)
  ·
    refine b_iload (d14 (j := 9) rfl) rfl ?_
    refine b_if_le (d14 (j := 10) rfl) (fun c2 => ?_) (fun c2 => ?_)
    ·
      refine b_aload_n (d14 (j := 48) rfl) rfl ?_
      refine b_getR (d14 (j := 49) rfl) rfl rfl rfl rfl ?_
      refine b_iload_n (d14 (j := 50) rfl) rfl ?_
      refine b_dup2 (d14 (j := 51) rfl) ?_
      refine b_iaload (d14 (j := 52) rfl) rfl (s2 c1 c2) ?_
      refine b_iload (d14 (j := 53) rfl) rfl ?_
      refine b_iadd (d14 (j := 54) rfl) rfl rfl ?_
      refine b_iastore (d14 (j := 55) rfl) rfl (s2 c1 c2) ?_
      exact b_vret (d14 (j := 56) rfl) rfl (k2 c1 c2)
    ·
      refine b_iload (d14 (j := 11) rfl) rfl ?_
      refine b_iload_n (d14 (j := 12) rfl) rfl ?_
      refine b_icmp_eq (d14 (j := 13) rfl) (fun c3 => ?_) (fun c3 => ?_)
      ·
        refine b_aload_n (d14 (j := 19) rfl) rfl ?_
        refine b_getR (d14 (j := 20) rfl) rfl rfl rfl rfl ?_
        refine b_iload_n (d14 (j := 21) rfl) rfl ?_
        refine b_iconst (d14 (j := 22) rfl) (by decide) ?_
        refine b_iadd (d14 (j := 23) rfl) rfl rfl ?_
        refine b_stk [uI (x1 + 1), uR 27 (x0 + 7)] (by rw [dsw_b (s3 c1 c2 c3) (by decide)]) ?_
        refine b_iaload (d14 (j := 24) rfl) rfl (s3 c1 c2 c3) ?_
        refine b_aload_n (d14 (j := 25) rfl) rfl ?_
        refine b_getRA (d14 (j := 26) rfl) rfl rfl rfl rfl ?_
        refine b_getR (d14 (j := 27) rfl) rfl rfl rfl rfl ?_
        refine b_stk [uR 21 29, uI (M (x0 + 7) (x1 + 1))] rfl ?_
        refine b_iload (d14 (j := 28) rfl) rfl ?_
        refine b_iaload (d14 (j := 29) rfl) rfl (s4 c1 c2 c3) ?_
        refine b_callS (d14 (j := 30) rfl) (Or.inr rfl) rfl (bCk_mk (n := 0) (k := 2) (by decide +kernel) rfl rfl) (pu145 ?_)
        refine b_stk [uI (if (dsAnd (dsShr (M (x0 + 7) (x1 + 1)) (M 29 x6)) 1 = 1) then 1 else 0)] rfl ?_
        refine b_ifeqP (d14 (j := 31) rfl) (fun c4 => ?_) (fun c4 => ?_)
        ·
          refine b_aload_n (d14 (j := 48) rfl) rfl ?_
          refine b_getR (d14 (j := 49) rfl) rfl rfl rfl rfl ?_
          refine b_iload_n (d14 (j := 50) rfl) rfl ?_
          refine b_dup2 (d14 (j := 51) rfl) ?_
          refine b_iaload (d14 (j := 52) rfl) rfl (s5 c1 c2 c3 c4) ?_
          refine b_iload (d14 (j := 53) rfl) rfl ?_
          refine b_iadd (d14 (j := 54) rfl) rfl rfl ?_
          refine b_iastore (d14 (j := 55) rfl) rfl (s5 c1 c2 c3 c4) ?_
          exact b_vret (d14 (j := 56) rfl) rfl (k3 c1 c2 c3 c4)
        ·
          refine b_aload_n (d14 (j := 32) rfl) rfl ?_
          refine b_getR (d14 (j := 33) rfl) rfl rfl rfl rfl ?_
          refine b_getI (d14 (j := 34) rfl) rfl rfl rfl rfl (Or.inl rfl) ?_
          refine b_stk [uI (M (x0 + 1) 4)] rfl ?_
          refine b_iload (d14 (j := 35) rfl) rfl ?_
          refine b_callS (d14 (j := 36) rfl) (Or.inr rfl) rfl (bCk_mk (n := 0) (k := 2) (by decide +kernel) rfl rfl) (pu145 ?_)
          refine b_stk [uI (if (dsAnd (dsShr (M (x0 + 1) 4) x6) 1 = 1) then 1 else 0)] rfl ?_
          refine b_ifneP (d14 (j := 37) rfl) (fun c5 => ?_) (fun c5 => ?_)
          ·
            refine b_aload_n (d14 (j := 39) rfl) rfl ?_
            refine b_iload_n (d14 (j := 40) rfl) rfl ?_
            refine b_iload (d14 (j := 41) rfl) rfl ?_
            refine b_iload_n (d14 (j := 42) rfl) rfl ?_
            refine b_iload (d14 (j := 43) rfl) rfl ?_
            refine b_callV (d14 (j := 44) rfl) rfl rfl (Or.inl rfl) rfl (bCk_mk (n := 0) (k := 5) (by decide +kernel) rfl rfl) ((hA1 c1 c2 c3 c4 c5) _ (fun M1 hR1 => ?_))
            refine b_stk [uI (g1 M1)] rfl ?_
            refine b_istore [uR 5 x0, uI x1, uI x2, uI x3, uX 0, uI (g1 M1), uI x6] (d14 (j := 45) rfl) (by decide) rfl ?_
            refine b_iinc [uR 5 x0, uI x1, uI x2, uI x3, uX 0, uI (g1 M1), uI (x6 + 1)] (d14 (j := 46) rfl) rfl (by decide) (s6 c1 c2 c3 c4 c5 M1 hR1) rfl ?_
            refine b_goto (d14 (j := 47) rfl) ?_
            exact (k4 c1 c2 c3 c4 c5 M1 hR1)
          ·
            refine b_goto (d14 (j := 38) rfl) ?_
            refine b_aload_n (d14 (j := 48) rfl) rfl ?_
            refine b_getR (d14 (j := 49) rfl) rfl rfl rfl rfl ?_
            refine b_iload_n (d14 (j := 50) rfl) rfl ?_
            refine b_dup2 (d14 (j := 51) rfl) ?_
            refine b_iaload (d14 (j := 52) rfl) rfl (s7 c1 c2 c3 c4 c5) ?_
            refine b_iload (d14 (j := 53) rfl) rfl ?_
            refine b_iadd (d14 (j := 54) rfl) rfl rfl ?_
            refine b_iastore (d14 (j := 55) rfl) rfl (s7 c1 c2 c3 c4 c5) ?_
            exact b_vret (d14 (j := 56) rfl) rfl (k5 c1 c2 c3 c4 c5)
      ·
        refine b_aload_n (d14 (j := 14) rfl) rfl ?_
        refine b_iload_n (d14 (j := 15) rfl) rfl ?_
        refine b_iload (d14 (j := 16) rfl) rfl ?_
        refine b_callV (d14 (j := 17) rfl) rfl rfl (Or.inl rfl) rfl (bCk_mk (n := 0) (k := 3) (by decide +kernel) rfl rfl) (fx15 (s8 c1 c2 c3) (s9 c1 c2 c3) ?_)
        refine b_stk [uI (if (((M x0 14) = 2) ∨ (((M x0 14) = 1) ∧ ((M 29 x2) = (M 29 x6)))) then 1 else 0)] rfl ?_
        refine b_ifeqP (d14 (j := 18) rfl) (fun c6 => ?_) (fun c6 => ?_)
        ·
          refine b_iinc [uR 5 x0, uI x1, uI x2, uI x3, uX 0, uI x5, uI (x6 + 1)] (d14 (j := 46) rfl) rfl (by decide) (s10 c1 c2 c3 c6) rfl ?_
          refine b_goto (d14 (j := 47) rfl) ?_
          exact (k6 c1 c2 c3 c6)
        ·
          refine b_aload_n (d14 (j := 19) rfl) rfl ?_
          refine b_getR (d14 (j := 20) rfl) rfl rfl rfl rfl ?_
          refine b_iload_n (d14 (j := 21) rfl) rfl ?_
          refine b_iconst (d14 (j := 22) rfl) (by decide) ?_
          refine b_iadd (d14 (j := 23) rfl) rfl rfl ?_
          refine b_stk [uI (x1 + 1), uR 27 (x0 + 7)] (by rw [dsw_b (s11 c1 c2 c3 c6) (by decide)]) ?_
          refine b_iaload (d14 (j := 24) rfl) rfl (s11 c1 c2 c3 c6) ?_
          refine b_aload_n (d14 (j := 25) rfl) rfl ?_
          refine b_getRA (d14 (j := 26) rfl) rfl rfl rfl rfl ?_
          refine b_getR (d14 (j := 27) rfl) rfl rfl rfl rfl ?_
          refine b_stk [uR 21 29, uI (M (x0 + 7) (x1 + 1))] rfl ?_
          refine b_iload (d14 (j := 28) rfl) rfl ?_
          refine b_iaload (d14 (j := 29) rfl) rfl (s12 c1 c2 c3 c6) ?_
          refine b_callS (d14 (j := 30) rfl) (Or.inr rfl) rfl (bCk_mk (n := 0) (k := 2) (by decide +kernel) rfl rfl) (pu145 ?_)
          refine b_stk [uI (if (dsAnd (dsShr (M (x0 + 7) (x1 + 1)) (M 29 x6)) 1 = 1) then 1 else 0)] rfl ?_
          refine b_ifeqP (d14 (j := 31) rfl) (fun c7 => ?_) (fun c7 => ?_)
          ·
            refine b_aload_n (d14 (j := 48) rfl) rfl ?_
            refine b_getR (d14 (j := 49) rfl) rfl rfl rfl rfl ?_
            refine b_iload_n (d14 (j := 50) rfl) rfl ?_
            refine b_dup2 (d14 (j := 51) rfl) ?_
            refine b_iaload (d14 (j := 52) rfl) rfl (s13 c1 c2 c3 c6 c7) ?_
            refine b_iload (d14 (j := 53) rfl) rfl ?_
            refine b_iadd (d14 (j := 54) rfl) rfl rfl ?_
            refine b_iastore (d14 (j := 55) rfl) rfl (s13 c1 c2 c3 c6 c7) ?_
            exact b_vret (d14 (j := 56) rfl) rfl (k7 c1 c2 c3 c6 c7)
          ·
            refine b_aload_n (d14 (j := 32) rfl) rfl ?_
            refine b_getR (d14 (j := 33) rfl) rfl rfl rfl rfl ?_
            refine b_getI (d14 (j := 34) rfl) rfl rfl rfl rfl (Or.inl rfl) ?_
            refine b_stk [uI (M (x0 + 1) 4)] rfl ?_
            refine b_iload (d14 (j := 35) rfl) rfl ?_
            refine b_callS (d14 (j := 36) rfl) (Or.inr rfl) rfl (bCk_mk (n := 0) (k := 2) (by decide +kernel) rfl rfl) (pu145 ?_)
            refine b_stk [uI (if (dsAnd (dsShr (M (x0 + 1) 4) x6) 1 = 1) then 1 else 0)] rfl ?_
            refine b_ifneP (d14 (j := 37) rfl) (fun c8 => ?_) (fun c8 => ?_)
            ·
              refine b_aload_n (d14 (j := 39) rfl) rfl ?_
              refine b_iload_n (d14 (j := 40) rfl) rfl ?_
              refine b_iload (d14 (j := 41) rfl) rfl ?_
              refine b_iload_n (d14 (j := 42) rfl) rfl ?_
              refine b_iload (d14 (j := 43) rfl) rfl ?_
              refine b_callV (d14 (j := 44) rfl) rfl rfl (Or.inl rfl) rfl (bCk_mk (n := 0) (k := 5) (by decide +kernel) rfl rfl) ((hA2 c1 c2 c3 c6 c7 c8) _ (fun M2 hR2 => ?_))
              refine b_stk [uI (g2 M2)] rfl ?_
              refine b_istore [uR 5 x0, uI x1, uI x2, uI x3, uX 0, uI (g2 M2), uI x6] (d14 (j := 45) rfl) (by decide) rfl ?_
              refine b_iinc [uR 5 x0, uI x1, uI x2, uI x3, uX 0, uI (g2 M2), uI (x6 + 1)] (d14 (j := 46) rfl) rfl (by decide) (s14 c1 c2 c3 c6 c7 c8 M2 hR2) rfl ?_
              refine b_goto (d14 (j := 47) rfl) ?_
              exact (k8 c1 c2 c3 c6 c7 c8 M2 hR2)
            ·
              refine b_goto (d14 (j := 38) rfl) ?_
              refine b_aload_n (d14 (j := 48) rfl) rfl ?_
              refine b_getR (d14 (j := 49) rfl) rfl rfl rfl rfl ?_
              refine b_iload_n (d14 (j := 50) rfl) rfl ?_
              refine b_dup2 (d14 (j := 51) rfl) ?_
              refine b_iaload (d14 (j := 52) rfl) rfl (s15 c1 c2 c3 c6 c7 c8) ?_
              refine b_iload (d14 (j := 53) rfl) rfl ?_
              refine b_iadd (d14 (j := 54) rfl) rfl rfl ?_
              refine b_iastore (d14 (j := 55) rfl) rfl (s15 c1 c2 c3 c6 c7 c8) ?_
              exact b_vret (d14 (j := 56) rfl) rfl (k9 c1 c2 c3 c6 c7 c8)
def L16 : List (Nat × Instr × Nat × Nat) := [(0, .iload_n 2, 1, 0), (1, .iload_n 1, 2, 0), (2, .iconst 1, 3, 0), (3, .iadd, 4, 0), (4, .invokestatic 117, 7, 0), (7, .istore 5, 9, 0), (9, .aload_n 0, 10, 0), (10, .getfield 58, 13, 0), (13, .iconst 3, 14, 0), (14, .if_icmp .ne 12, 17, 26), (17, .aload_n 0, 18, 0), (18, .getfield 55, 21, 0), (21, .iload_n 2, 22, 0), (22, .iaload, 23, 0), (23, .goto 17, 26, 40), (26, .aload_n 0, 27, 0), (27, .getfield 55, 30, 0), (30, .iload_n 2, 31, 0), (31, .iaload, 32, 0), (32, .aload_n 0, 33, 0), (33, .getfield 28, 36, 0), (36, .iload 5, 38, 0), (38, .iaload, 39, 0), (39, .isub, 40, 0), (40, .istore 6, 42, 0), (42, .iload 4, 44, 0), (44, .iload 6, 46, 0), (46, .if_icmp .ge 8, 49, 54), (49, .iload 4, 51, 0), (51, .goto 5, 54, 56), (54, .iload 6, 56, 0), (56, .istore 7, 58, 0), (58, .iload 7, 60, 0), (60, .ifCond .gt 6, 63, 66), (63, .iload 4, 65, 0), (65, .ireturn, 66, 0), (66, .aload_n 0, 67, 0), (67, .getfield 28, 70, 0), (70, .iload 5, 72, 0), (72, .iaload, 73, 0), (73, .iload 7, 75, 0), (75, .iadd, 76, 0), (76, .aload_n 0, 77, 0), (77, .getfield 55, 80, 0), (80, .iload_n 2, 81, 0), (81, .iaload, 82, 0), (82, .isub, 83, 0), (83, .istore 8, 85, 0), (85, .iload 8, 87, 0), (87, .ifCond .le 20, 90, 107), (90, .aload_n 0, 91, 0), (91, .getfield 37, 94, 0), (94, .iload_n 1, 95, 0), (95, .dup2, 96, 0), (96, .iaload, 97, 0), (97, .aload_n 0, 98, 0), (98, .iload 5, 100, 0), (100, .iload 8, 102, 0), (102, .invokevirtual 178, 105, 0), (105, .iadd, 106, 0), (106, .iastore, 107, 0), (107, .aload_n 0, 108, 0), (108, .iload 5, 110, 0), (110, .iload_n 3, 111, 0), (111, .iload 7, 113, 0), (113, .invokevirtual 181, 116, 0), (116, .aload_n 0, 117, 0), (117, .getfield 49, 120, 0), (120, .iload_n 2, 121, 0), (121, .dup2, 122, 0), (122, .iaload, 123, 0), (123, .iload 7, 125, 0), (125, .iadd, 126, 0), (126, .iastore, 127, 0), (127, .iload 4, 129, 0), (129, .iload 7, 131, 0), (131, .isub, 132, 0), (132, .ireturn, 133, 0)]
set_option maxRecDepth 100000 in
theorem L16_ok : L16.all (dck 16) = true := by decide +kernel
theorem d16 {j pc nx tg : Nat} {ins : Instr} (hj : L16[j]? = some (pc, ins, nx, tg)) : dcd 16 pc ins nx tg := dcl_ok L16_ok hj
set_option maxRecDepth 100000 in
set_option maxHeartbeats 4000000 in
theorem r16_0 {x0 x1 x2 x3 x4 : Int} {R1 : dsMem → Prop} {R2 : dsMem → Prop} {g2 : dsMem → Int} {R3 : dsMem → dsMem → Prop} {R4 : dsMem → Prop} {R5 : dsMem → Prop} {g5 : dsMem → Int} {R6 : dsMem → dsMem → Prop} {R7 : dsMem → Prop} {R8 : dsMem → Prop} {g8 : dsMem → Int} {R9 : dsMem → dsMem → Prop} {R10 : dsMem → Prop} {R11 : dsMem → Prop} {g11 : dsMem → Int} {R12 : dsMem → dsMem → Prop} {M : dsMem} {Q : bQT} (s1 : -2147483648 ≤ (x1 + 1) ∧ (x1 + 1) < 2147483648 := by intros; omega) (s2 : -2147483648 ≤ (((x1 + 1) * 6) + x2) ∧ (((x1 + 1) * 6) + x2) < 2147483648 := by intros; omega) (s3 : (¬ (M x0 14) = 3) → 0 ≤ x2 ∧ x2 < 6 := by intros; omega) (s4 : (¬ (M x0 14) = 3) → 0 ≤ (((x1 + 1) * 6) + x2) ∧ (((x1 + 1) * 6) + x2) < 78 := by intros; omega) (s5 : (¬ (M x0 14) = 3) → -2147483648 ≤ ((M (x0 + 14) x2) - (M (x0 + 5) (((x1 + 1) * 6) + x2))) ∧ ((M (x0 + 14) x2) - (M (x0 + 5) (((x1 + 1) * 6) + x2))) < 2147483648 := by intros; omega) (s6 : (¬ (M x0 14) = 3) → (((M (x0 + 14) x2) - (M (x0 + 5) (((x1 + 1) * 6) + x2))) ≤ x4) → (0 < ((M (x0 + 14) x2) - (M (x0 + 5) (((x1 + 1) * 6) + x2)))) → -2147483648 ≤ (((M (x0 + 5) (((x1 + 1) * 6) + x2)) + ((M (x0 + 14) x2) - (M (x0 + 5) (((x1 + 1) * 6) + x2)))) - (M (x0 + 14) x2)) ∧ (((M (x0 + 5) (((x1 + 1) * 6) + x2)) + ((M (x0 + 14) x2) - (M (x0 + 5) (((x1 + 1) * 6) + x2)))) - (M (x0 + 14) x2)) < 2147483648 := by intros; omega) (hA1 : (¬ (M x0 14) = 3) → (((M (x0 + 14) x2) - (M (x0 + 5) (((x1 + 1) * 6) + x2))) ≤ x4) → (0 < ((M (x0 + 14) x2) - (M (x0 + 5) (((x1 + 1) * 6) + x2)))) → ((((M (x0 + 5) (((x1 + 1) * 6) + x2)) + ((M (x0 + 14) x2) - (M (x0 + 5) (((x1 + 1) * 6) + x2)))) - (M (x0 + 14) x2)) ≤ 0) → bCt 17 [uR 5 x0, uI (((x1 + 1) * 6) + x2), uI x3, uI ((M (x0 + 14) x2) - (M (x0 + 5) (((x1 + 1) * 6) + x2))), uX 0] M (fun _ => []) R1) (s7 : (¬ (M x0 14) = 3) → (((M (x0 + 14) x2) - (M (x0 + 5) (((x1 + 1) * 6) + x2))) ≤ x4) → (0 < ((M (x0 + 14) x2) - (M (x0 + 5) (((x1 + 1) * 6) + x2)))) → ((((M (x0 + 5) (((x1 + 1) * 6) + x2)) + ((M (x0 + 14) x2) - (M (x0 + 5) (((x1 + 1) * 6) + x2)))) - (M (x0 + 14) x2)) ≤ 0) → ∀ M1 : dsMem, R1 M1 → -2147483648 ≤ (x4 - ((M (x0 + 14) x2) - (M (x0 + 5) (((x1 + 1) * 6) + x2)))) ∧ (x4 - ((M (x0 + 14) x2) - (M (x0 + 5) (((x1 + 1) * 6) + x2)))) < 2147483648 := by intros; omega) (k1 : (¬ (M x0 14) = 3) → (((M (x0 + 14) x2) - (M (x0 + 5) (((x1 + 1) * 6) + x2))) ≤ x4) → (0 < ((M (x0 + 14) x2) - (M (x0 + 5) (((x1 + 1) * 6) + x2)))) → ((((M (x0 + 5) (((x1 + 1) * 6) + x2)) + ((M (x0 + 14) x2) - (M (x0 + 5) (((x1 + 1) * 6) + x2)))) - (M (x0 + 14) x2)) ≤ 0) → ∀ M1 : dsMem, R1 M1 → Q [uI (x4 - ((M (x0 + 14) x2) - (M (x0 + 5) (((x1 + 1) * 6) + x2))))] (dsSet M1 (x0 + 12) x2 (dsw (((M1 (x0 + 12) x2) + ((M (x0 + 14) x2) - (M (x0 + 5) (((x1 + 1) * 6) + x2)))))))) (s8 : (¬ (M x0 14) = 3) → (((M (x0 + 14) x2) - (M (x0 + 5) (((x1 + 1) * 6) + x2))) ≤ x4) → (0 < ((M (x0 + 14) x2) - (M (x0 + 5) (((x1 + 1) * 6) + x2)))) → (¬ (((M (x0 + 5) (((x1 + 1) * 6) + x2)) + ((M (x0 + 14) x2) - (M (x0 + 5) (((x1 + 1) * 6) + x2)))) - (M (x0 + 14) x2)) ≤ 0) → 0 ≤ x1 ∧ x1 < 12 := by intros; omega) (hA2 : (¬ (M x0 14) = 3) → (((M (x0 + 14) x2) - (M (x0 + 5) (((x1 + 1) * 6) + x2))) ≤ x4) → (0 < ((M (x0 + 14) x2) - (M (x0 + 5) (((x1 + 1) * 6) + x2)))) → (¬ (((M (x0 + 5) (((x1 + 1) * 6) + x2)) + ((M (x0 + 14) x2) - (M (x0 + 5) (((x1 + 1) * 6) + x2)))) - (M (x0 + 14) x2)) ≤ 0) → bCt 18 [uR 5 x0, uI (((x1 + 1) * 6) + x2), uI (((M (x0 + 5) (((x1 + 1) * 6) + x2)) + ((M (x0 + 14) x2) - (M (x0 + 5) (((x1 + 1) * 6) + x2)))) - (M (x0 + 14) x2)), uX 0, uX 0, uX 0, uX 0, uX 0] M (fun M2 => [uI (g2 M2)]) R2) (hA3 : (¬ (M x0 14) = 3) → (((M (x0 + 14) x2) - (M (x0 + 5) (((x1 + 1) * 6) + x2))) ≤ x4) → (0 < ((M (x0 + 14) x2) - (M (x0 + 5) (((x1 + 1) * 6) + x2)))) → (¬ (((M (x0 + 5) (((x1 + 1) * 6) + x2)) + ((M (x0 + 14) x2) - (M (x0 + 5) (((x1 + 1) * 6) + x2)))) - (M (x0 + 14) x2)) ≤ 0) → ∀ M2 : dsMem, R2 M2 → bCt 17 [uR 5 x0, uI (((x1 + 1) * 6) + x2), uI x3, uI ((M (x0 + 14) x2) - (M (x0 + 5) (((x1 + 1) * 6) + x2))), uX 0] (dsSet M2 (x0 + 8) x1 (dsw (((M (x0 + 8) x1) + (g2 M2))))) (fun _ => []) (R3 M2)) (s9 : (¬ (M x0 14) = 3) → (((M (x0 + 14) x2) - (M (x0 + 5) (((x1 + 1) * 6) + x2))) ≤ x4) → (0 < ((M (x0 + 14) x2) - (M (x0 + 5) (((x1 + 1) * 6) + x2)))) → (¬ (((M (x0 + 5) (((x1 + 1) * 6) + x2)) + ((M (x0 + 14) x2) - (M (x0 + 5) (((x1 + 1) * 6) + x2)))) - (M (x0 + 14) x2)) ≤ 0) → ∀ M2 : dsMem, R2 M2 → ∀ M3 : dsMem, R3 M2 M3 → -2147483648 ≤ (x4 - ((M (x0 + 14) x2) - (M (x0 + 5) (((x1 + 1) * 6) + x2)))) ∧ (x4 - ((M (x0 + 14) x2) - (M (x0 + 5) (((x1 + 1) * 6) + x2)))) < 2147483648 := by intros; omega) (k2 : (¬ (M x0 14) = 3) → (((M (x0 + 14) x2) - (M (x0 + 5) (((x1 + 1) * 6) + x2))) ≤ x4) → (0 < ((M (x0 + 14) x2) - (M (x0 + 5) (((x1 + 1) * 6) + x2)))) → (¬ (((M (x0 + 5) (((x1 + 1) * 6) + x2)) + ((M (x0 + 14) x2) - (M (x0 + 5) (((x1 + 1) * 6) + x2)))) - (M (x0 + 14) x2)) ≤ 0) → ∀ M2 : dsMem, R2 M2 → ∀ M3 : dsMem, R3 M2 M3 → Q [uI (x4 - ((M (x0 + 14) x2) - (M (x0 + 5) (((x1 + 1) * 6) + x2))))] (dsSet M3 (x0 + 12) x2 (dsw (((M3 (x0 + 12) x2) + ((M (x0 + 14) x2) - (M (x0 + 5) (((x1 + 1) * 6) + x2)))))))) (k3 : (¬ (M x0 14) = 3) → (((M (x0 + 14) x2) - (M (x0 + 5) (((x1 + 1) * 6) + x2))) ≤ x4) → (¬ 0 < ((M (x0 + 14) x2) - (M (x0 + 5) (((x1 + 1) * 6) + x2)))) → Q [uI x4] M) (s10 : (¬ (M x0 14) = 3) → (¬ ((M (x0 + 14) x2) - (M (x0 + 5) (((x1 + 1) * 6) + x2))) ≤ x4) → (0 < x4) → -2147483648 ≤ (((M (x0 + 5) (((x1 + 1) * 6) + x2)) + x4) - (M (x0 + 14) x2)) ∧ (((M (x0 + 5) (((x1 + 1) * 6) + x2)) + x4) - (M (x0 + 14) x2)) < 2147483648 := by intros; omega) (hA4 : (¬ (M x0 14) = 3) → (¬ ((M (x0 + 14) x2) - (M (x0 + 5) (((x1 + 1) * 6) + x2))) ≤ x4) → (0 < x4) → ((((M (x0 + 5) (((x1 + 1) * 6) + x2)) + x4) - (M (x0 + 14) x2)) ≤ 0) → bCt 17 [uR 5 x0, uI (((x1 + 1) * 6) + x2), uI x3, uI x4, uX 0] M (fun _ => []) R4) (s11 : (¬ (M x0 14) = 3) → (¬ ((M (x0 + 14) x2) - (M (x0 + 5) (((x1 + 1) * 6) + x2))) ≤ x4) → (0 < x4) → ((((M (x0 + 5) (((x1 + 1) * 6) + x2)) + x4) - (M (x0 + 14) x2)) ≤ 0) → ∀ M4 : dsMem, R4 M4 → -2147483648 ≤ (x4 - x4) ∧ (x4 - x4) < 2147483648 := by intros; omega) (k4 : (¬ (M x0 14) = 3) → (¬ ((M (x0 + 14) x2) - (M (x0 + 5) (((x1 + 1) * 6) + x2))) ≤ x4) → (0 < x4) → ((((M (x0 + 5) (((x1 + 1) * 6) + x2)) + x4) - (M (x0 + 14) x2)) ≤ 0) → ∀ M4 : dsMem, R4 M4 → Q [uI (x4 - x4)] (dsSet M4 (x0 + 12) x2 (dsw (((M4 (x0 + 12) x2) + x4))))) (s12 : (¬ (M x0 14) = 3) → (¬ ((M (x0 + 14) x2) - (M (x0 + 5) (((x1 + 1) * 6) + x2))) ≤ x4) → (0 < x4) → (¬ (((M (x0 + 5) (((x1 + 1) * 6) + x2)) + x4) - (M (x0 + 14) x2)) ≤ 0) → 0 ≤ x1 ∧ x1 < 12 := by intros; omega) (hA5 : (¬ (M x0 14) = 3) → (¬ ((M (x0 + 14) x2) - (M (x0 + 5) (((x1 + 1) * 6) + x2))) ≤ x4) → (0 < x4) → (¬ (((M (x0 + 5) (((x1 + 1) * 6) + x2)) + x4) - (M (x0 + 14) x2)) ≤ 0) → bCt 18 [uR 5 x0, uI (((x1 + 1) * 6) + x2), uI (((M (x0 + 5) (((x1 + 1) * 6) + x2)) + x4) - (M (x0 + 14) x2)), uX 0, uX 0, uX 0, uX 0, uX 0] M (fun M5 => [uI (g5 M5)]) R5) (hA6 : (¬ (M x0 14) = 3) → (¬ ((M (x0 + 14) x2) - (M (x0 + 5) (((x1 + 1) * 6) + x2))) ≤ x4) → (0 < x4) → (¬ (((M (x0 + 5) (((x1 + 1) * 6) + x2)) + x4) - (M (x0 + 14) x2)) ≤ 0) → ∀ M5 : dsMem, R5 M5 → bCt 17 [uR 5 x0, uI (((x1 + 1) * 6) + x2), uI x3, uI x4, uX 0] (dsSet M5 (x0 + 8) x1 (dsw (((M (x0 + 8) x1) + (g5 M5))))) (fun _ => []) (R6 M5)) (s13 : (¬ (M x0 14) = 3) → (¬ ((M (x0 + 14) x2) - (M (x0 + 5) (((x1 + 1) * 6) + x2))) ≤ x4) → (0 < x4) → (¬ (((M (x0 + 5) (((x1 + 1) * 6) + x2)) + x4) - (M (x0 + 14) x2)) ≤ 0) → ∀ M5 : dsMem, R5 M5 → ∀ M6 : dsMem, R6 M5 M6 → -2147483648 ≤ (x4 - x4) ∧ (x4 - x4) < 2147483648 := by intros; omega) (k5 : (¬ (M x0 14) = 3) → (¬ ((M (x0 + 14) x2) - (M (x0 + 5) (((x1 + 1) * 6) + x2))) ≤ x4) → (0 < x4) → (¬ (((M (x0 + 5) (((x1 + 1) * 6) + x2)) + x4) - (M (x0 + 14) x2)) ≤ 0) → ∀ M5 : dsMem, R5 M5 → ∀ M6 : dsMem, R6 M5 M6 → Q [uI (x4 - x4)] (dsSet M6 (x0 + 12) x2 (dsw (((M6 (x0 + 12) x2) + x4))))) (k6 : (¬ (M x0 14) = 3) → (¬ ((M (x0 + 14) x2) - (M (x0 + 5) (((x1 + 1) * 6) + x2))) ≤ x4) → (¬ 0 < x4) → Q [uI x4] M) (s14 : ((M x0 14) = 3) → 0 ≤ x2 ∧ x2 < 6 := by intros; omega) (s15 : ((M x0 14) = 3) → ((M (x0 + 14) x2) ≤ x4) → (0 < (M (x0 + 14) x2)) → 0 ≤ (((x1 + 1) * 6) + x2) ∧ (((x1 + 1) * 6) + x2) < 78 := by intros; omega) (s16 : ((M x0 14) = 3) → ((M (x0 + 14) x2) ≤ x4) → (0 < (M (x0 + 14) x2)) → -2147483648 ≤ (((M (x0 + 5) (((x1 + 1) * 6) + x2)) + (M (x0 + 14) x2)) - (M (x0 + 14) x2)) ∧ (((M (x0 + 5) (((x1 + 1) * 6) + x2)) + (M (x0 + 14) x2)) - (M (x0 + 14) x2)) < 2147483648 := by intros; omega) (hA7 : ((M x0 14) = 3) → ((M (x0 + 14) x2) ≤ x4) → (0 < (M (x0 + 14) x2)) → ((((M (x0 + 5) (((x1 + 1) * 6) + x2)) + (M (x0 + 14) x2)) - (M (x0 + 14) x2)) ≤ 0) → bCt 17 [uR 5 x0, uI (((x1 + 1) * 6) + x2), uI x3, uI (M (x0 + 14) x2), uX 0] M (fun _ => []) R7) (s17 : ((M x0 14) = 3) → ((M (x0 + 14) x2) ≤ x4) → (0 < (M (x0 + 14) x2)) → ((((M (x0 + 5) (((x1 + 1) * 6) + x2)) + (M (x0 + 14) x2)) - (M (x0 + 14) x2)) ≤ 0) → ∀ M7 : dsMem, R7 M7 → -2147483648 ≤ (x4 - (M (x0 + 14) x2)) ∧ (x4 - (M (x0 + 14) x2)) < 2147483648 := by intros; omega) (k7 : ((M x0 14) = 3) → ((M (x0 + 14) x2) ≤ x4) → (0 < (M (x0 + 14) x2)) → ((((M (x0 + 5) (((x1 + 1) * 6) + x2)) + (M (x0 + 14) x2)) - (M (x0 + 14) x2)) ≤ 0) → ∀ M7 : dsMem, R7 M7 → Q [uI (x4 - (M (x0 + 14) x2))] (dsSet M7 (x0 + 12) x2 (dsw (((M7 (x0 + 12) x2) + (M (x0 + 14) x2)))))) (s18 : ((M x0 14) = 3) → ((M (x0 + 14) x2) ≤ x4) → (0 < (M (x0 + 14) x2)) → (¬ (((M (x0 + 5) (((x1 + 1) * 6) + x2)) + (M (x0 + 14) x2)) - (M (x0 + 14) x2)) ≤ 0) → 0 ≤ x1 ∧ x1 < 12 := by intros; omega) (hA8 : ((M x0 14) = 3) → ((M (x0 + 14) x2) ≤ x4) → (0 < (M (x0 + 14) x2)) → (¬ (((M (x0 + 5) (((x1 + 1) * 6) + x2)) + (M (x0 + 14) x2)) - (M (x0 + 14) x2)) ≤ 0) → bCt 18 [uR 5 x0, uI (((x1 + 1) * 6) + x2), uI (((M (x0 + 5) (((x1 + 1) * 6) + x2)) + (M (x0 + 14) x2)) - (M (x0 + 14) x2)), uX 0, uX 0, uX 0, uX 0, uX 0] M (fun M8 => [uI (g8 M8)]) R8) (hA9 : ((M x0 14) = 3) → ((M (x0 + 14) x2) ≤ x4) → (0 < (M (x0 + 14) x2)) → (¬ (((M (x0 + 5) (((x1 + 1) * 6) + x2)) + (M (x0 + 14) x2)) - (M (x0 + 14) x2)) ≤ 0) → ∀ M8 : dsMem, R8 M8 → bCt 17 [uR 5 x0, uI (((x1 + 1) * 6) + x2), uI x3, uI (M (x0 + 14) x2), uX 0] (dsSet M8 (x0 + 8) x1 (dsw (((M (x0 + 8) x1) + (g8 M8))))) (fun _ => []) (R9 M8)) (s19 : ((M x0 14) = 3) → ((M (x0 + 14) x2) ≤ x4) → (0 < (M (x0 + 14) x2)) → (¬ (((M (x0 + 5) (((x1 + 1) * 6) + x2)) + (M (x0 + 14) x2)) - (M (x0 + 14) x2)) ≤ 0) → ∀ M8 : dsMem, R8 M8 → ∀ M9 : dsMem, R9 M8 M9 → -2147483648 ≤ (x4 - (M (x0 + 14) x2)) ∧ (x4 - (M (x0 + 14) x2)) < 2147483648 := by intros; omega) (k8 : ((M x0 14) = 3) → ((M (x0 + 14) x2) ≤ x4) → (0 < (M (x0 + 14) x2)) → (¬ (((M (x0 + 5) (((x1 + 1) * 6) + x2)) + (M (x0 + 14) x2)) - (M (x0 + 14) x2)) ≤ 0) → ∀ M8 : dsMem, R8 M8 → ∀ M9 : dsMem, R9 M8 M9 → Q [uI (x4 - (M (x0 + 14) x2))] (dsSet M9 (x0 + 12) x2 (dsw (((M9 (x0 + 12) x2) + (M (x0 + 14) x2)))))) (k9 : ((M x0 14) = 3) → ((M (x0 + 14) x2) ≤ x4) → (¬ 0 < (M (x0 + 14) x2)) → Q [uI x4] M) (s20 : ((M x0 14) = 3) → (¬ (M (x0 + 14) x2) ≤ x4) → (0 < x4) → 0 ≤ (((x1 + 1) * 6) + x2) ∧ (((x1 + 1) * 6) + x2) < 78 := by intros; omega) (s21 : ((M x0 14) = 3) → (¬ (M (x0 + 14) x2) ≤ x4) → (0 < x4) → -2147483648 ≤ (((M (x0 + 5) (((x1 + 1) * 6) + x2)) + x4) - (M (x0 + 14) x2)) ∧ (((M (x0 + 5) (((x1 + 1) * 6) + x2)) + x4) - (M (x0 + 14) x2)) < 2147483648 := by intros; omega) (hA10 : ((M x0 14) = 3) → (¬ (M (x0 + 14) x2) ≤ x4) → (0 < x4) → ((((M (x0 + 5) (((x1 + 1) * 6) + x2)) + x4) - (M (x0 + 14) x2)) ≤ 0) → bCt 17 [uR 5 x0, uI (((x1 + 1) * 6) + x2), uI x3, uI x4, uX 0] M (fun _ => []) R10) (s22 : ((M x0 14) = 3) → (¬ (M (x0 + 14) x2) ≤ x4) → (0 < x4) → ((((M (x0 + 5) (((x1 + 1) * 6) + x2)) + x4) - (M (x0 + 14) x2)) ≤ 0) → ∀ M10 : dsMem, R10 M10 → -2147483648 ≤ (x4 - x4) ∧ (x4 - x4) < 2147483648 := by intros; omega) (k10 : ((M x0 14) = 3) → (¬ (M (x0 + 14) x2) ≤ x4) → (0 < x4) → ((((M (x0 + 5) (((x1 + 1) * 6) + x2)) + x4) - (M (x0 + 14) x2)) ≤ 0) → ∀ M10 : dsMem, R10 M10 → Q [uI (x4 - x4)] (dsSet M10 (x0 + 12) x2 (dsw (((M10 (x0 + 12) x2) + x4))))) (s23 : ((M x0 14) = 3) → (¬ (M (x0 + 14) x2) ≤ x4) → (0 < x4) → (¬ (((M (x0 + 5) (((x1 + 1) * 6) + x2)) + x4) - (M (x0 + 14) x2)) ≤ 0) → 0 ≤ x1 ∧ x1 < 12 := by intros; omega) (hA11 : ((M x0 14) = 3) → (¬ (M (x0 + 14) x2) ≤ x4) → (0 < x4) → (¬ (((M (x0 + 5) (((x1 + 1) * 6) + x2)) + x4) - (M (x0 + 14) x2)) ≤ 0) → bCt 18 [uR 5 x0, uI (((x1 + 1) * 6) + x2), uI (((M (x0 + 5) (((x1 + 1) * 6) + x2)) + x4) - (M (x0 + 14) x2)), uX 0, uX 0, uX 0, uX 0, uX 0] M (fun M11 => [uI (g11 M11)]) R11) (hA12 : ((M x0 14) = 3) → (¬ (M (x0 + 14) x2) ≤ x4) → (0 < x4) → (¬ (((M (x0 + 5) (((x1 + 1) * 6) + x2)) + x4) - (M (x0 + 14) x2)) ≤ 0) → ∀ M11 : dsMem, R11 M11 → bCt 17 [uR 5 x0, uI (((x1 + 1) * 6) + x2), uI x3, uI x4, uX 0] (dsSet M11 (x0 + 8) x1 (dsw (((M (x0 + 8) x1) + (g11 M11))))) (fun _ => []) (R12 M11)) (s24 : ((M x0 14) = 3) → (¬ (M (x0 + 14) x2) ≤ x4) → (0 < x4) → (¬ (((M (x0 + 5) (((x1 + 1) * 6) + x2)) + x4) - (M (x0 + 14) x2)) ≤ 0) → ∀ M11 : dsMem, R11 M11 → ∀ M12 : dsMem, R12 M11 M12 → -2147483648 ≤ (x4 - x4) ∧ (x4 - x4) < 2147483648 := by intros; omega) (k11 : ((M x0 14) = 3) → (¬ (M (x0 + 14) x2) ≤ x4) → (0 < x4) → (¬ (((M (x0 + 5) (((x1 + 1) * 6) + x2)) + x4) - (M (x0 + 14) x2)) ≤ 0) → ∀ M11 : dsMem, R11 M11 → ∀ M12 : dsMem, R12 M11 M12 → Q [uI (x4 - x4)] (dsSet M12 (x0 + 12) x2 (dsw (((M12 (x0 + 12) x2) + x4))))) (k12 : ((M x0 14) = 3) → (¬ (M (x0 + 14) x2) ≤ x4) → (¬ 0 < x4) → Q [uI x4] M) :
    bB 16 0 [uR 5 x0, uI x1, uI x2, uI x3, uI x4, uX 0, uX 0, uX 0, uX 0] [] M Q := by
  refine b_iload_n (d16 (j := 0) rfl) rfl ?_
  refine b_iload_n (d16 (j := 1) rfl) rfl ?_
  refine b_iconst (d16 (j := 2) rfl) (by decide) ?_
  refine b_iadd (d16 (j := 3) rfl) rfl rfl ?_
  refine b_stk [uI (x1 + 1), uI x2] (by rw [dsw_r s1]) ?_
  refine b_callS (d16 (j := 4) rfl) (Or.inr rfl) rfl (bCk_mk (n := 0) (k := 2) (by decide +kernel) rfl rfl) (pu146 s2 ?_)
  refine b_stk [uI (((x1 + 1) * 6) + x2)] rfl ?_
  refine b_istore [uR 5 x0, uI x1, uI x2, uI x3, uI x4, uI (((x1 + 1) * 6) + x2), uX 0, uX 0, uX 0] (d16 (j := 5) rfl) (by decide) rfl ?_
  refine b_aload_n (d16 (j := 6) rfl) rfl ?_
  refine b_getI (d16 (j := 7) rfl) rfl rfl rfl rfl (Or.inl rfl) ?_
  refine b_stk [uI (M x0 14)] rfl ?_
  refine b_iconst (d16 (j := 8) rfl) (by decide) ?_
  refine b_icmp_ne (d16 (j := 9) rfl) (fun c1 => ?_) (fun c1 => ?_)
  ·
    refine b_aload_n (d16 (j := 15) rfl) rfl ?_
    refine b_getR (d16 (j := 16) rfl) rfl rfl rfl rfl ?_
    refine b_iload_n (d16 (j := 17) rfl) rfl ?_
    refine b_iaload (d16 (j := 18) rfl) rfl (s3 c1) ?_
    refine b_aload_n (d16 (j := 19) rfl) rfl ?_
    refine b_getR (d16 (j := 20) rfl) rfl rfl rfl rfl ?_
    refine b_iload (d16 (j := 21) rfl) rfl ?_
    refine b_iaload (d16 (j := 22) rfl) rfl (s4 c1) ?_
    refine b_isub (d16 (j := 23) rfl) rfl rfl ?_
    refine b_stk [uI ((M (x0 + 14) x2) - (M (x0 + 5) (((x1 + 1) * 6) + x2)))] (by rw [dsw_r (s5 c1)]) ?_
    refine b_istore [uR 5 x0, uI x1, uI x2, uI x3, uI x4, uI (((x1 + 1) * 6) + x2), uI ((M (x0 + 14) x2) - (M (x0 + 5) (((x1 + 1) * 6) + x2))), uX 0, uX 0] (d16 (j := 24) rfl) (by decide) rfl ?_
    refine b_iload (d16 (j := 25) rfl) rfl ?_
    refine b_iload (d16 (j := 26) rfl) rfl ?_
    refine b_icmp_ge (d16 (j := 27) rfl) (fun c2 => ?_) (fun c2 => ?_)
    ·
      refine b_iload (d16 (j := 30) rfl) rfl ?_
      refine b_istore [uR 5 x0, uI x1, uI x2, uI x3, uI x4, uI (((x1 + 1) * 6) + x2), uI ((M (x0 + 14) x2) - (M (x0 + 5) (((x1 + 1) * 6) + x2))), uI ((M (x0 + 14) x2) - (M (x0 + 5) (((x1 + 1) * 6) + x2))), uX 0] (d16 (j := 31) rfl) (by decide) rfl ?_
      refine b_iload (d16 (j := 32) rfl) rfl ?_
      refine b_if_gt (d16 (j := 33) rfl) (fun c3 => ?_) (fun c3 => ?_)
      ·
        refine b_aload_n (d16 (j := 36) rfl) rfl ?_
        refine b_getR (d16 (j := 37) rfl) rfl rfl rfl rfl ?_
        refine b_iload (d16 (j := 38) rfl) rfl ?_
        refine b_iaload (d16 (j := 39) rfl) rfl (s4 c1) ?_
        refine b_iload (d16 (j := 40) rfl) rfl ?_
        refine b_iadd (d16 (j := 41) rfl) rfl rfl ?_
        refine b_aload_n (d16 (j := 42) rfl) rfl ?_
        refine b_getR (d16 (j := 43) rfl) rfl rfl rfl rfl ?_
        refine b_iload_n (d16 (j := 44) rfl) rfl ?_
        refine b_iaload (d16 (j := 45) rfl) rfl (s3 c1) ?_
        refine b_isub (d16 (j := 46) rfl) (dsw_dsw _) rfl ?_
        refine b_stk [uI (((M (x0 + 5) (((x1 + 1) * 6) + x2)) + ((M (x0 + 14) x2) - (M (x0 + 5) (((x1 + 1) * 6) + x2)))) - (M (x0 + 14) x2))] (by rw [dsw_r (s6 c1 c2 c3)]) ?_
        refine b_istore [uR 5 x0, uI x1, uI x2, uI x3, uI x4, uI (((x1 + 1) * 6) + x2), uI ((M (x0 + 14) x2) - (M (x0 + 5) (((x1 + 1) * 6) + x2))), uI ((M (x0 + 14) x2) - (M (x0 + 5) (((x1 + 1) * 6) + x2))), uI (((M (x0 + 5) (((x1 + 1) * 6) + x2)) + ((M (x0 + 14) x2) - (M (x0 + 5) (((x1 + 1) * 6) + x2)))) - (M (x0 + 14) x2))] (d16 (j := 47) rfl) (by decide) rfl ?_
        refine b_iload (d16 (j := 48) rfl) rfl ?_
        refine b_if_le (d16 (j := 49) rfl) (fun c4 => ?_) (fun c4 => ?_)
        ·
          refine b_aload_n (d16 (j := 61) rfl) rfl ?_
          refine b_iload (d16 (j := 62) rfl) rfl ?_
          refine b_iload_n (d16 (j := 63) rfl) rfl ?_
          refine b_iload (d16 (j := 64) rfl) rfl ?_
          refine b_callV (d16 (j := 65) rfl) rfl rfl (Or.inl rfl) rfl (bCk_mk (n := 0) (k := 4) (by decide +kernel) rfl rfl) ((hA1 c1 c2 c3 c4) _ (fun M1 hR1 => ?_))
          refine b_stk [] rfl ?_
          refine b_aload_n (d16 (j := 66) rfl) rfl ?_
          refine b_getR (d16 (j := 67) rfl) rfl rfl rfl rfl ?_
          refine b_iload_n (d16 (j := 68) rfl) rfl ?_
          refine b_dup2 (d16 (j := 69) rfl) ?_
          refine b_iaload (d16 (j := 70) rfl) rfl (s3 c1) ?_
          refine b_iload (d16 (j := 71) rfl) rfl ?_
          refine b_iadd (d16 (j := 72) rfl) rfl rfl ?_
          refine b_iastore (d16 (j := 73) rfl) rfl (s3 c1) ?_
          refine b_iload (d16 (j := 74) rfl) rfl ?_
          refine b_iload (d16 (j := 75) rfl) rfl ?_
          refine b_isub (d16 (j := 76) rfl) rfl rfl ?_
          refine b_stk [uI (x4 - ((M (x0 + 14) x2) - (M (x0 + 5) (((x1 + 1) * 6) + x2))))] (by rw [dsw_r (s7 c1 c2 c3 c4 M1 hR1)]) ?_
          exact b_iret (d16 (j := 77) rfl) rfl (k1 c1 c2 c3 c4 M1 hR1)
        ·
          refine b_aload_n (d16 (j := 50) rfl) rfl ?_
          refine b_getR (d16 (j := 51) rfl) rfl rfl rfl rfl ?_
          refine b_iload_n (d16 (j := 52) rfl) rfl ?_
          refine b_dup2 (d16 (j := 53) rfl) ?_
          refine b_iaload (d16 (j := 54) rfl) rfl (s8 c1 c2 c3 c4) ?_
          refine b_aload_n (d16 (j := 55) rfl) rfl ?_
          refine b_iload (d16 (j := 56) rfl) rfl ?_
          refine b_iload (d16 (j := 57) rfl) rfl ?_
          refine b_callV (d16 (j := 58) rfl) rfl rfl (Or.inl rfl) rfl (bCk_mk (n := 3) (k := 3) (by decide +kernel) rfl rfl) ((hA2 c1 c2 c3 c4) _ (fun M2 hR2 => ?_))
          refine b_stk [uI (g2 M2), uI (M (x0 + 8) x1), uI x1, uR 28 (x0 + 8)] rfl ?_
          refine b_iadd (d16 (j := 59) rfl) rfl rfl ?_
          refine b_iastore (d16 (j := 60) rfl) rfl (s8 c1 c2 c3 c4) ?_
          refine b_aload_n (d16 (j := 61) rfl) rfl ?_
          refine b_iload (d16 (j := 62) rfl) rfl ?_
          refine b_iload_n (d16 (j := 63) rfl) rfl ?_
          refine b_iload (d16 (j := 64) rfl) rfl ?_
          refine b_callV (d16 (j := 65) rfl) rfl rfl (Or.inl rfl) rfl (bCk_mk (n := 0) (k := 4) (by decide +kernel) rfl rfl) ((hA3 c1 c2 c3 c4 M2 hR2) _ (fun M3 hR3 => ?_))
          refine b_stk [] rfl ?_
          refine b_aload_n (d16 (j := 66) rfl) rfl ?_
          refine b_getR (d16 (j := 67) rfl) rfl rfl rfl rfl ?_
          refine b_iload_n (d16 (j := 68) rfl) rfl ?_
          refine b_dup2 (d16 (j := 69) rfl) ?_
          refine b_iaload (d16 (j := 70) rfl) rfl (s3 c1) ?_
          refine b_iload (d16 (j := 71) rfl) rfl ?_
          refine b_iadd (d16 (j := 72) rfl) rfl rfl ?_
          refine b_iastore (d16 (j := 73) rfl) rfl (s3 c1) ?_
          refine b_iload (d16 (j := 74) rfl) rfl ?_
          refine b_iload (d16 (j := 75) rfl) rfl ?_
          refine b_isub (d16 (j := 76) rfl) rfl rfl ?_
          refine b_stk [uI (x4 - ((M (x0 + 14) x2) - (M (x0 + 5) (((x1 + 1) * 6) + x2))))] (by rw [dsw_r (s9 c1 c2 c3 c4 M2 hR2 M3 hR3)]) ?_
          exact b_iret (d16 (j := 77) rfl) rfl (k2 c1 c2 c3 c4 M2 hR2 M3 hR3)
      ·
        refine b_iload (d16 (j := 34) rfl) rfl ?_
        exact b_iret (d16 (j := 35) rfl) rfl (k3 c1 c2 c3)
    ·
      refine b_iload (d16 (j := 28) rfl) rfl ?_
      refine b_goto (d16 (j := 29) rfl) ?_
      refine b_istore [uR 5 x0, uI x1, uI x2, uI x3, uI x4, uI (((x1 + 1) * 6) + x2), uI ((M (x0 + 14) x2) - (M (x0 + 5) (((x1 + 1) * 6) + x2))), uI x4, uX 0] (d16 (j := 31) rfl) (by decide) rfl ?_
      refine b_iload (d16 (j := 32) rfl) rfl ?_
      refine b_if_gt (d16 (j := 33) rfl) (fun c5 => ?_) (fun c5 => ?_)
      ·
        refine b_aload_n (d16 (j := 36) rfl) rfl ?_
        refine b_getR (d16 (j := 37) rfl) rfl rfl rfl rfl ?_
        refine b_iload (d16 (j := 38) rfl) rfl ?_
        refine b_iaload (d16 (j := 39) rfl) rfl (s4 c1) ?_
        refine b_iload (d16 (j := 40) rfl) rfl ?_
        refine b_iadd (d16 (j := 41) rfl) rfl rfl ?_
        refine b_aload_n (d16 (j := 42) rfl) rfl ?_
        refine b_getR (d16 (j := 43) rfl) rfl rfl rfl rfl ?_
        refine b_iload_n (d16 (j := 44) rfl) rfl ?_
        refine b_iaload (d16 (j := 45) rfl) rfl (s3 c1) ?_
        refine b_isub (d16 (j := 46) rfl) (dsw_dsw _) rfl ?_
        refine b_stk [uI (((M (x0 + 5) (((x1 + 1) * 6) + x2)) + x4) - (M (x0 + 14) x2))] (by rw [dsw_r (s10 c1 c2 c5)]) ?_
        refine b_istore [uR 5 x0, uI x1, uI x2, uI x3, uI x4, uI (((x1 + 1) * 6) + x2), uI ((M (x0 + 14) x2) - (M (x0 + 5) (((x1 + 1) * 6) + x2))), uI x4, uI (((M (x0 + 5) (((x1 + 1) * 6) + x2)) + x4) - (M (x0 + 14) x2))] (d16 (j := 47) rfl) (by decide) rfl ?_
        refine b_iload (d16 (j := 48) rfl) rfl ?_
        refine b_if_le (d16 (j := 49) rfl) (fun c6 => ?_) (fun c6 => ?_)
        ·
          refine b_aload_n (d16 (j := 61) rfl) rfl ?_
          refine b_iload (d16 (j := 62) rfl) rfl ?_
          refine b_iload_n (d16 (j := 63) rfl) rfl ?_
          refine b_iload (d16 (j := 64) rfl) rfl ?_
          refine b_callV (d16 (j := 65) rfl) rfl rfl (Or.inl rfl) rfl (bCk_mk (n := 0) (k := 4) (by decide +kernel) rfl rfl) ((hA4 c1 c2 c5 c6) _ (fun M4 hR4 => ?_))
          refine b_stk [] rfl ?_
          refine b_aload_n (d16 (j := 66) rfl) rfl ?_
          refine b_getR (d16 (j := 67) rfl) rfl rfl rfl rfl ?_
          refine b_iload_n (d16 (j := 68) rfl) rfl ?_
          refine b_dup2 (d16 (j := 69) rfl) ?_
          refine b_iaload (d16 (j := 70) rfl) rfl (s3 c1) ?_
          refine b_iload (d16 (j := 71) rfl) rfl ?_
          refine b_iadd (d16 (j := 72) rfl) rfl rfl ?_
          refine b_iastore (d16 (j := 73) rfl) rfl (s3 c1) ?_
          refine b_iload (d16 (j := 74) rfl) rfl ?_
          refine b_iload (d16 (j := 75) rfl) rfl ?_
          refine b_isub (d16 (j := 76) rfl) rfl rfl ?_
          refine b_stk [uI (x4 - x4)] (by rw [dsw_r (s11 c1 c2 c5 c6 M4 hR4)]) ?_
          exact b_iret (d16 (j := 77) rfl) rfl (k4 c1 c2 c5 c6 M4 hR4)
        ·
          refine b_aload_n (d16 (j := 50) rfl) rfl ?_
          refine b_getR (d16 (j := 51) rfl) rfl rfl rfl rfl ?_
          refine b_iload_n (d16 (j := 52) rfl) rfl ?_
          refine b_dup2 (d16 (j := 53) rfl) ?_
          refine b_iaload (d16 (j := 54) rfl) rfl (s12 c1 c2 c5 c6) ?_
          refine b_aload_n (d16 (j := 55) rfl) rfl ?_
          refine b_iload (d16 (j := 56) rfl) rfl ?_
          refine b_iload (d16 (j := 57) rfl) rfl ?_
          refine b_callV (d16 (j := 58) rfl) rfl rfl (Or.inl rfl) rfl (bCk_mk (n := 3) (k := 3) (by decide +kernel) rfl rfl) ((hA5 c1 c2 c5 c6) _ (fun M5 hR5 => ?_))
          refine b_stk [uI (g5 M5), uI (M (x0 + 8) x1), uI x1, uR 28 (x0 + 8)] rfl ?_
          refine b_iadd (d16 (j := 59) rfl) rfl rfl ?_
          refine b_iastore (d16 (j := 60) rfl) rfl (s12 c1 c2 c5 c6) ?_
          refine b_aload_n (d16 (j := 61) rfl) rfl ?_
          refine b_iload (d16 (j := 62) rfl) rfl ?_
          refine b_iload_n (d16 (j := 63) rfl) rfl ?_
          refine b_iload (d16 (j := 64) rfl) rfl ?_
          refine b_callV (d16 (j := 65) rfl) rfl rfl (Or.inl rfl) rfl (bCk_mk (n := 0) (k := 4) (by decide +kernel) rfl rfl) ((hA6 c1 c2 c5 c6 M5 hR5) _ (fun M6 hR6 => ?_))
          refine b_stk [] rfl ?_
          refine b_aload_n (d16 (j := 66) rfl) rfl ?_
          refine b_getR (d16 (j := 67) rfl) rfl rfl rfl rfl ?_
          refine b_iload_n (d16 (j := 68) rfl) rfl ?_
          refine b_dup2 (d16 (j := 69) rfl) ?_
          refine b_iaload (d16 (j := 70) rfl) rfl (s3 c1) ?_
          refine b_iload (d16 (j := 71) rfl) rfl ?_
          refine b_iadd (d16 (j := 72) rfl) rfl rfl ?_
          refine b_iastore (d16 (j := 73) rfl) rfl (s3 c1) ?_
          refine b_iload (d16 (j := 74) rfl) rfl ?_
          refine b_iload (d16 (j := 75) rfl) rfl ?_
          refine b_isub (d16 (j := 76) rfl) rfl rfl ?_
          refine b_stk [uI (x4 - x4)] (by rw [dsw_r (s13 c1 c2 c5 c6 M5 hR5 M6 hR6)]) ?_
          exact b_iret (d16 (j := 77) rfl) rfl (k5 c1 c2 c5 c6 M5 hR5 M6 hR6)
      ·
        refine b_iload (d16 (j := 34) rfl) rfl ?_
        exact b_iret (d16 (j := 35) rfl) rfl (k6 c1 c2 c5)
  ·
    refine b_aload_n (d16 (j := 10) rfl) rfl ?_
    refine b_getR (d16 (j := 11) rfl) rfl rfl rfl rfl ?_
    refine b_iload_n (d16 (j := 12) rfl) rfl ?_
    refine b_iaload (d16 (j := 13) rfl) rfl (s14 c1) ?_
    refine b_goto (d16 (j := 14) rfl) ?_
    refine b_istore [uR 5 x0, uI x1, uI x2, uI x3, uI x4, uI (((x1 + 1) * 6) + x2), uI (M (x0 + 14) x2), uX 0, uX 0] (d16 (j := 24) rfl) (by decide) rfl ?_
    refine b_iload (d16 (j := 25) rfl) rfl ?_
    refine b_iload (d16 (j := 26) rfl) rfl ?_
    refine b_icmp_ge (d16 (j := 27) rfl) (fun c7 => ?_) (fun c7 => ?_)
    ·
      refine b_iload (d16 (j := 30) rfl) rfl ?_
      refine b_istore [uR 5 x0, uI x1, uI x2, uI x3, uI x4, uI (((x1 + 1) * 6) + x2), uI (M (x0 + 14) x2), uI (M (x0 + 14) x2), uX 0] (d16 (j := 31) rfl) (by decide) rfl ?_
      refine b_iload (d16 (j := 32) rfl) rfl ?_
      refine b_if_gt (d16 (j := 33) rfl) (fun c8 => ?_) (fun c8 => ?_)
      ·
        refine b_aload_n (d16 (j := 36) rfl) rfl ?_
        refine b_getR (d16 (j := 37) rfl) rfl rfl rfl rfl ?_
        refine b_iload (d16 (j := 38) rfl) rfl ?_
        refine b_iaload (d16 (j := 39) rfl) rfl (s15 c1 c7 c8) ?_
        refine b_iload (d16 (j := 40) rfl) rfl ?_
        refine b_iadd (d16 (j := 41) rfl) rfl rfl ?_
        refine b_aload_n (d16 (j := 42) rfl) rfl ?_
        refine b_getR (d16 (j := 43) rfl) rfl rfl rfl rfl ?_
        refine b_iload_n (d16 (j := 44) rfl) rfl ?_
        refine b_iaload (d16 (j := 45) rfl) rfl (s14 c1) ?_
        refine b_isub (d16 (j := 46) rfl) (dsw_dsw _) rfl ?_
        refine b_stk [uI (((M (x0 + 5) (((x1 + 1) * 6) + x2)) + (M (x0 + 14) x2)) - (M (x0 + 14) x2))] (by rw [dsw_r (s16 c1 c7 c8)]) ?_
        refine b_istore [uR 5 x0, uI x1, uI x2, uI x3, uI x4, uI (((x1 + 1) * 6) + x2), uI (M (x0 + 14) x2), uI (M (x0 + 14) x2), uI (((M (x0 + 5) (((x1 + 1) * 6) + x2)) + (M (x0 + 14) x2)) - (M (x0 + 14) x2))] (d16 (j := 47) rfl) (by decide) rfl ?_
        refine b_iload (d16 (j := 48) rfl) rfl ?_
        refine b_if_le (d16 (j := 49) rfl) (fun c9 => ?_) (fun c9 => ?_)
        ·
          refine b_aload_n (d16 (j := 61) rfl) rfl ?_
          refine b_iload (d16 (j := 62) rfl) rfl ?_
          refine b_iload_n (d16 (j := 63) rfl) rfl ?_
          refine b_iload (d16 (j := 64) rfl) rfl ?_
          refine b_callV (d16 (j := 65) rfl) rfl rfl (Or.inl rfl) rfl (bCk_mk (n := 0) (k := 4) (by decide +kernel) rfl rfl) ((hA7 c1 c7 c8 c9) _ (fun M7 hR7 => ?_))
          refine b_stk [] rfl ?_
          refine b_aload_n (d16 (j := 66) rfl) rfl ?_
          refine b_getR (d16 (j := 67) rfl) rfl rfl rfl rfl ?_
          refine b_iload_n (d16 (j := 68) rfl) rfl ?_
          refine b_dup2 (d16 (j := 69) rfl) ?_
          refine b_iaload (d16 (j := 70) rfl) rfl (s14 c1) ?_
          refine b_iload (d16 (j := 71) rfl) rfl ?_
          refine b_iadd (d16 (j := 72) rfl) rfl rfl ?_
          refine b_iastore (d16 (j := 73) rfl) rfl (s14 c1) ?_
          refine b_iload (d16 (j := 74) rfl) rfl ?_
          refine b_iload (d16 (j := 75) rfl) rfl ?_
          refine b_isub (d16 (j := 76) rfl) rfl rfl ?_
          refine b_stk [uI (x4 - (M (x0 + 14) x2))] (by rw [dsw_r (s17 c1 c7 c8 c9 M7 hR7)]) ?_
          exact b_iret (d16 (j := 77) rfl) rfl (k7 c1 c7 c8 c9 M7 hR7)
        ·
          refine b_aload_n (d16 (j := 50) rfl) rfl ?_
          refine b_getR (d16 (j := 51) rfl) rfl rfl rfl rfl ?_
          refine b_iload_n (d16 (j := 52) rfl) rfl ?_
          refine b_dup2 (d16 (j := 53) rfl) ?_
          refine b_iaload (d16 (j := 54) rfl) rfl (s18 c1 c7 c8 c9) ?_
          refine b_aload_n (d16 (j := 55) rfl) rfl ?_
          refine b_iload (d16 (j := 56) rfl) rfl ?_
          refine b_iload (d16 (j := 57) rfl) rfl ?_
          refine b_callV (d16 (j := 58) rfl) rfl rfl (Or.inl rfl) rfl (bCk_mk (n := 3) (k := 3) (by decide +kernel) rfl rfl) ((hA8 c1 c7 c8 c9) _ (fun M8 hR8 => ?_))
          refine b_stk [uI (g8 M8), uI (M (x0 + 8) x1), uI x1, uR 28 (x0 + 8)] rfl ?_
          refine b_iadd (d16 (j := 59) rfl) rfl rfl ?_
          refine b_iastore (d16 (j := 60) rfl) rfl (s18 c1 c7 c8 c9) ?_
          refine b_aload_n (d16 (j := 61) rfl) rfl ?_
          refine b_iload (d16 (j := 62) rfl) rfl ?_
          refine b_iload_n (d16 (j := 63) rfl) rfl ?_
          refine b_iload (d16 (j := 64) rfl) rfl ?_
          refine b_callV (d16 (j := 65) rfl) rfl rfl (Or.inl rfl) rfl (bCk_mk (n := 0) (k := 4) (by decide +kernel) rfl rfl) ((hA9 c1 c7 c8 c9 M8 hR8) _ (fun M9 hR9 => ?_))
          refine b_stk [] rfl ?_
          refine b_aload_n (d16 (j := 66) rfl) rfl ?_
          refine b_getR (d16 (j := 67) rfl) rfl rfl rfl rfl ?_
          refine b_iload_n (d16 (j := 68) rfl) rfl ?_
          refine b_dup2 (d16 (j := 69) rfl) ?_
          refine b_iaload (d16 (j := 70) rfl) rfl (s14 c1) ?_
          refine b_iload (d16 (j := 71) rfl) rfl ?_
          refine b_iadd (d16 (j := 72) rfl) rfl rfl ?_
          refine b_iastore (d16 (j := 73) rfl) rfl (s14 c1) ?_
          refine b_iload (d16 (j := 74) rfl) rfl ?_
          refine b_iload (d16 (j := 75) rfl) rfl ?_
          refine b_isub (d16 (j := 76) rfl) rfl rfl ?_
          refine b_stk [uI (x4 - (M (x0 + 14) x2))] (by rw [dsw_r (s19 c1 c7 c8 c9 M8 hR8 M9 hR9)]) ?_
          exact b_iret (d16 (j := 77) rfl) rfl (k8 c1 c7 c8 c9 M8 hR8 M9 hR9)
      ·
        refine b_iload (d16 (j := 34) rfl) rfl ?_
        exact b_iret (d16 (j := 35) rfl) rfl (k9 c1 c7 c8)
    ·
      refine b_iload (d16 (j := 28) rfl) rfl ?_
      refine b_goto (d16 (j := 29) rfl) ?_
      refine b_istore [uR 5 x0, uI x1, uI x2, uI x3, uI x4, uI (((x1 + 1) * 6) + x2), uI (M (x0 + 14) x2), uI x4, uX 0] (d16 (j := 31) rfl) (by decide) rfl ?_
      refine b_iload (d16 (j := 32) rfl) rfl ?_
      refine b_if_gt (d16 (j := 33) rfl) (fun c10 => ?_) (fun c10 => ?_)
      ·
        refine b_aload_n (d16 (j := 36) rfl) rfl ?_
        refine b_getR (d16 (j := 37) rfl) rfl rfl rfl rfl ?_
        refine b_iload (d16 (j := 38) rfl) rfl ?_
        refine b_iaload (d16 (j := 39) rfl) rfl (s20 c1 c7 c10) ?_
        refine b_iload (d16 (j := 40) rfl) rfl ?_
        refine b_iadd (d16 (j := 41) rfl) rfl rfl ?_
        refine b_aload_n (d16 (j := 42) rfl) rfl ?_
        refine b_getR (d16 (j := 43) rfl) rfl rfl rfl rfl ?_
        refine b_iload_n (d16 (j := 44) rfl) rfl ?_
        refine b_iaload (d16 (j := 45) rfl) rfl (s14 c1) ?_
        refine b_isub (d16 (j := 46) rfl) (dsw_dsw _) rfl ?_
        refine b_stk [uI (((M (x0 + 5) (((x1 + 1) * 6) + x2)) + x4) - (M (x0 + 14) x2))] (by rw [dsw_r (s21 c1 c7 c10)]) ?_
        refine b_istore [uR 5 x0, uI x1, uI x2, uI x3, uI x4, uI (((x1 + 1) * 6) + x2), uI (M (x0 + 14) x2), uI x4, uI (((M (x0 + 5) (((x1 + 1) * 6) + x2)) + x4) - (M (x0 + 14) x2))] (d16 (j := 47) rfl) (by decide) rfl ?_
        refine b_iload (d16 (j := 48) rfl) rfl ?_
        refine b_if_le (d16 (j := 49) rfl) (fun c11 => ?_) (fun c11 => ?_)
        ·
          refine b_aload_n (d16 (j := 61) rfl) rfl ?_
          refine b_iload (d16 (j := 62) rfl) rfl ?_
          refine b_iload_n (d16 (j := 63) rfl) rfl ?_
          refine b_iload (d16 (j := 64) rfl) rfl ?_
          refine b_callV (d16 (j := 65) rfl) rfl rfl (Or.inl rfl) rfl (bCk_mk (n := 0) (k := 4) (by decide +kernel) rfl rfl) ((hA10 c1 c7 c10 c11) _ (fun M10 hR10 => ?_))
          refine b_stk [] rfl ?_
          refine b_aload_n (d16 (j := 66) rfl) rfl ?_
          refine b_getR (d16 (j := 67) rfl) rfl rfl rfl rfl ?_
          refine b_iload_n (d16 (j := 68) rfl) rfl ?_
          refine b_dup2 (d16 (j := 69) rfl) ?_
          refine b_iaload (d16 (j := 70) rfl) rfl (s14 c1) ?_
          refine b_iload (d16 (j := 71) rfl) rfl ?_
          refine b_iadd (d16 (j := 72) rfl) rfl rfl ?_
          refine b_iastore (d16 (j := 73) rfl) rfl (s14 c1) ?_
          refine b_iload (d16 (j := 74) rfl) rfl ?_
          refine b_iload (d16 (j := 75) rfl) rfl ?_
          refine b_isub (d16 (j := 76) rfl) rfl rfl ?_
          refine b_stk [uI (x4 - x4)] (by rw [dsw_r (s22 c1 c7 c10 c11 M10 hR10)]) ?_
          exact b_iret (d16 (j := 77) rfl) rfl (k10 c1 c7 c10 c11 M10 hR10)
        ·
          refine b_aload_n (d16 (j := 50) rfl) rfl ?_
          refine b_getR (d16 (j := 51) rfl) rfl rfl rfl rfl ?_
          refine b_iload_n (d16 (j := 52) rfl) rfl ?_
          refine b_dup2 (d16 (j := 53) rfl) ?_
          refine b_iaload (d16 (j := 54) rfl) rfl (s23 c1 c7 c10 c11) ?_
          refine b_aload_n (d16 (j := 55) rfl) rfl ?_
          refine b_iload (d16 (j := 56) rfl) rfl ?_
          refine b_iload (d16 (j := 57) rfl) rfl ?_
          refine b_callV (d16 (j := 58) rfl) rfl rfl (Or.inl rfl) rfl (bCk_mk (n := 3) (k := 3) (by decide +kernel) rfl rfl) ((hA11 c1 c7 c10 c11) _ (fun M11 hR11 => ?_))
          refine b_stk [uI (g11 M11), uI (M (x0 + 8) x1), uI x1, uR 28 (x0 + 8)] rfl ?_
          refine b_iadd (d16 (j := 59) rfl) rfl rfl ?_
          refine b_iastore (d16 (j := 60) rfl) rfl (s23 c1 c7 c10 c11) ?_
          refine b_aload_n (d16 (j := 61) rfl) rfl ?_
          refine b_iload (d16 (j := 62) rfl) rfl ?_
          refine b_iload_n (d16 (j := 63) rfl) rfl ?_
          refine b_iload (d16 (j := 64) rfl) rfl ?_
          refine b_callV (d16 (j := 65) rfl) rfl rfl (Or.inl rfl) rfl (bCk_mk (n := 0) (k := 4) (by decide +kernel) rfl rfl) ((hA12 c1 c7 c10 c11 M11 hR11) _ (fun M12 hR12 => ?_))
          refine b_stk [] rfl ?_
          refine b_aload_n (d16 (j := 66) rfl) rfl ?_
          refine b_getR (d16 (j := 67) rfl) rfl rfl rfl rfl ?_
          refine b_iload_n (d16 (j := 68) rfl) rfl ?_
          refine b_dup2 (d16 (j := 69) rfl) ?_
          refine b_iaload (d16 (j := 70) rfl) rfl (s14 c1) ?_
          refine b_iload (d16 (j := 71) rfl) rfl ?_
          refine b_iadd (d16 (j := 72) rfl) rfl rfl ?_
          refine b_iastore (d16 (j := 73) rfl) rfl (s14 c1) ?_
          refine b_iload (d16 (j := 74) rfl) rfl ?_
          refine b_iload (d16 (j := 75) rfl) rfl ?_
          refine b_isub (d16 (j := 76) rfl) rfl rfl ?_
          refine b_stk [uI (x4 - x4)] (by rw [dsw_r (s24 c1 c7 c10 c11 M11 hR11 M12 hR12)]) ?_
          exact b_iret (d16 (j := 77) rfl) rfl (k11 c1 c7 c10 c11 M11 hR11 M12 hR12)
      ·
        refine b_iload (d16 (j := 34) rfl) rfl ?_
        exact b_iret (d16 (j := 35) rfl) rfl (k12 c1 c7 c10)
def L17 : List (Nat × Instr × Nat × Nat) := [(0, .iload_n 1, 1, 0), (1, .bipush 60, 3, 0), (3, .imul, 4, 0), (4, .aload_n 0, 5, 0), (5, .getfield 25, 8, 0), (8, .iload_n 1, 9, 0), (9, .iaload, 10, 0), (10, .iadd, 11, 0), (11, .istore 4, 13, 0), (13, .aload_n 0, 14, 0), (14, .getfield 25, 17, 0), (17, .iload_n 1, 18, 0), (18, .iaload, 19, 0), (19, .ifCond .le 32, 22, 51), (22, .aload_n 0, 23, 0), (23, .getfield 18, 26, 0), (26, .iload 4, 28, 0), (28, .iconst 1, 29, 0), (29, .isub, 30, 0), (30, .iaload, 31, 0), (31, .iload_n 2, 32, 0), (32, .if_icmp .ne 19, 35, 51), (35, .aload_n 0, 36, 0), (36, .getfield 22, 39, 0), (39, .iload 4, 41, 0), (41, .iconst 1, 42, 0), (42, .isub, 43, 0), (43, .dup2, 44, 0), (44, .iaload, 45, 0), (45, .iload_n 3, 46, 0), (46, .iadd, 47, 0), (47, .iastore, 48, 0), (48, .goto 40, 51, 88), (51, .aload_n 0, 52, 0), (52, .getfield 25, 55, 0), (55, .iload_n 1, 56, 0), (56, .iaload, 57, 0), (57, .bipush 60, 59, 0), (59, .if_icmp .ge 29, 62, 88), (62, .aload_n 0, 63, 0), (63, .getfield 18, 66, 0), (66, .iload 4, 68, 0), (68, .iload_n 2, 69, 0), (69, .iastore, 70, 0), (70, .aload_n 0, 71, 0), (71, .getfield 22, 74, 0), (74, .iload 4, 76, 0), (76, .iload_n 3, 77, 0), (77, .iastore, 78, 0), (78, .aload_n 0, 79, 0), (79, .getfield 25, 82, 0), (82, .iload_n 1, 83, 0), (83, .dup2, 84, 0), (84, .iaload, 85, 0), (85, .iconst 1, 86, 0), (86, .iadd, 87, 0), (87, .iastore, 88, 0), (88, .aload_n 0, 89, 0), (89, .getfield 28, 92, 0), (92, .iload_n 1, 93, 0), (93, .dup2, 94, 0), (94, .iaload, 95, 0), (95, .iload_n 3, 96, 0), (96, .iadd, 97, 0), (97, .iastore, 98, 0), (98, .return_, 99, 0)]
set_option maxRecDepth 100000 in
theorem L17_ok : L17.all (dck 17) = true := by decide +kernel
theorem d17 {j pc nx tg : Nat} {ins : Instr} (hj : L17[j]? = some (pc, ins, nx, tg)) : dcd 17 pc ins nx tg := dcl_ok L17_ok hj
set_option maxRecDepth 100000 in
set_option maxHeartbeats 4000000 in
theorem r17_0 {x0 x1 x2 x3 : Int}  {M : dsMem} {Q : bQT} (s1 : 0 ≤ x1 ∧ x1 < 78 := by intros; omega) (s2 : -2147483648 ≤ ((x1 * 60) + (M (x0 + 4) x1)) ∧ ((x1 * 60) + (M (x0 + 4) x1)) < 2147483648 := by intros; omega) (s3 : ((M (x0 + 4) x1) ≤ 0) → (60 ≤ (M (x0 + 4) x1)) → -2147483648 ≤ ((M (x0 + 5) x1) + x3) ∧ ((M (x0 + 5) x1) + x3) < 2147483648 := by intros; omega) (k1 : ((M (x0 + 4) x1) ≤ 0) → (60 ≤ (M (x0 + 4) x1)) → Q [] (dsSet M (x0 + 5) x1 ((M (x0 + 5) x1) + x3))) (s4 : ((M (x0 + 4) x1) ≤ 0) → (¬ 60 ≤ (M (x0 + 4) x1)) → 0 ≤ ((x1 * 60) + (M (x0 + 4) x1)) ∧ ((x1 * 60) + (M (x0 + 4) x1)) < 4680 := by intros; omega) (s5 : ((M (x0 + 4) x1) ≤ 0) → (¬ 60 ≤ (M (x0 + 4) x1)) → -2147483648 ≤ ((M (x0 + 4) x1) + 1) ∧ ((M (x0 + 4) x1) + 1) < 2147483648 := by intros; omega) (s6 : ((M (x0 + 4) x1) ≤ 0) → (¬ 60 ≤ (M (x0 + 4) x1)) → -2147483648 ≤ ((M (x0 + 5) x1) + x3) ∧ ((M (x0 + 5) x1) + x3) < 2147483648 := by intros; omega) (k2 : ((M (x0 + 4) x1) ≤ 0) → (¬ 60 ≤ (M (x0 + 4) x1)) → Q [] (dsSet (dsSet (dsSet (dsSet M (x0 + 2) ((x1 * 60) + (M (x0 + 4) x1)) x2) (x0 + 3) ((x1 * 60) + (M (x0 + 4) x1)) x3) (x0 + 4) x1 ((M (x0 + 4) x1) + 1)) (x0 + 5) x1 ((M (x0 + 5) x1) + x3))) (s7 : (¬ (M (x0 + 4) x1) ≤ 0) → 0 ≤ (((x1 * 60) + (M (x0 + 4) x1)) - 1) ∧ (((x1 * 60) + (M (x0 + 4) x1)) - 1) < 4680 := by intros; omega) (s8 : (¬ (M (x0 + 4) x1) ≤ 0) → (¬ (M (x0 + 2) (((x1 * 60) + (M (x0 + 4) x1)) - 1)) = x2) → (60 ≤ (M (x0 + 4) x1)) → -2147483648 ≤ ((M (x0 + 5) x1) + x3) ∧ ((M (x0 + 5) x1) + x3) < 2147483648 := by intros; omega) (k3 : (¬ (M (x0 + 4) x1) ≤ 0) → (¬ (M (x0 + 2) (((x1 * 60) + (M (x0 + 4) x1)) - 1)) = x2) → (60 ≤ (M (x0 + 4) x1)) → Q [] (dsSet M (x0 + 5) x1 ((M (x0 + 5) x1) + x3))) (s9 : (¬ (M (x0 + 4) x1) ≤ 0) → (¬ (M (x0 + 2) (((x1 * 60) + (M (x0 + 4) x1)) - 1)) = x2) → (¬ 60 ≤ (M (x0 + 4) x1)) → 0 ≤ ((x1 * 60) + (M (x0 + 4) x1)) ∧ ((x1 * 60) + (M (x0 + 4) x1)) < 4680 := by intros; omega) (s10 : (¬ (M (x0 + 4) x1) ≤ 0) → (¬ (M (x0 + 2) (((x1 * 60) + (M (x0 + 4) x1)) - 1)) = x2) → (¬ 60 ≤ (M (x0 + 4) x1)) → -2147483648 ≤ ((M (x0 + 4) x1) + 1) ∧ ((M (x0 + 4) x1) + 1) < 2147483648 := by intros; omega) (s11 : (¬ (M (x0 + 4) x1) ≤ 0) → (¬ (M (x0 + 2) (((x1 * 60) + (M (x0 + 4) x1)) - 1)) = x2) → (¬ 60 ≤ (M (x0 + 4) x1)) → -2147483648 ≤ ((M (x0 + 5) x1) + x3) ∧ ((M (x0 + 5) x1) + x3) < 2147483648 := by intros; omega) (k4 : (¬ (M (x0 + 4) x1) ≤ 0) → (¬ (M (x0 + 2) (((x1 * 60) + (M (x0 + 4) x1)) - 1)) = x2) → (¬ 60 ≤ (M (x0 + 4) x1)) → Q [] (dsSet (dsSet (dsSet (dsSet M (x0 + 2) ((x1 * 60) + (M (x0 + 4) x1)) x2) (x0 + 3) ((x1 * 60) + (M (x0 + 4) x1)) x3) (x0 + 4) x1 ((M (x0 + 4) x1) + 1)) (x0 + 5) x1 ((M (x0 + 5) x1) + x3))) (s12 : (¬ (M (x0 + 4) x1) ≤ 0) → ((M (x0 + 2) (((x1 * 60) + (M (x0 + 4) x1)) - 1)) = x2) → -2147483648 ≤ ((M (x0 + 3) (((x1 * 60) + (M (x0 + 4) x1)) - 1)) + x3) ∧ ((M (x0 + 3) (((x1 * 60) + (M (x0 + 4) x1)) - 1)) + x3) < 2147483648 := by intros; omega) (s13 : (¬ (M (x0 + 4) x1) ≤ 0) → ((M (x0 + 2) (((x1 * 60) + (M (x0 + 4) x1)) - 1)) = x2) → -2147483648 ≤ ((M (x0 + 5) x1) + x3) ∧ ((M (x0 + 5) x1) + x3) < 2147483648 := by intros; omega) (k5 : (¬ (M (x0 + 4) x1) ≤ 0) → ((M (x0 + 2) (((x1 * 60) + (M (x0 + 4) x1)) - 1)) = x2) → Q [] (dsSet (dsSet M (x0 + 3) (((x1 * 60) + (M (x0 + 4) x1)) - 1) ((M (x0 + 3) (((x1 * 60) + (M (x0 + 4) x1)) - 1)) + x3)) (x0 + 5) x1 ((M (x0 + 5) x1) + x3))) :
    bB 17 0 [uR 5 x0, uI x1, uI x2, uI x3, uX 0] [] M Q := by
  refine b_iload_n (d17 (j := 0) rfl) rfl ?_
  refine b_bipush (d17 (j := 1) rfl) (by decide) ?_
  refine b_imul (d17 (j := 2) rfl) rfl rfl ?_
  refine b_aload_n (d17 (j := 3) rfl) rfl ?_
  refine b_getR (d17 (j := 4) rfl) rfl rfl rfl rfl ?_
  refine b_iload_n (d17 (j := 5) rfl) rfl ?_
  refine b_iaload (d17 (j := 6) rfl) rfl s1 ?_
  refine b_iadd (d17 (j := 7) rfl) (dsw_dsw _) rfl ?_
  refine b_stk [uI ((x1 * 60) + (M (x0 + 4) x1))] (by rw [dsw_r s2]) ?_
  refine b_istore [uR 5 x0, uI x1, uI x2, uI x3, uI ((x1 * 60) + (M (x0 + 4) x1))] (d17 (j := 8) rfl) (by decide) rfl ?_
  refine b_aload_n (d17 (j := 9) rfl) rfl ?_
  refine b_getR (d17 (j := 10) rfl) rfl rfl rfl rfl ?_
  refine b_iload_n (d17 (j := 11) rfl) rfl ?_
  refine b_iaload (d17 (j := 12) rfl) rfl s1 ?_
  refine b_if_le (d17 (j := 13) rfl) (fun c1 => ?_) (fun c1 => ?_)
  ·
    refine b_aload_n (d17 (j := 33) rfl) rfl ?_
    refine b_getR (d17 (j := 34) rfl) rfl rfl rfl rfl ?_
    refine b_iload_n (d17 (j := 35) rfl) rfl ?_
    refine b_iaload (d17 (j := 36) rfl) rfl s1 ?_
    refine b_bipush (d17 (j := 37) rfl) (by decide) ?_
    refine b_icmp_ge (d17 (j := 38) rfl) (fun c2 => ?_) (fun c2 => ?_)
    ·
      refine b_aload_n (d17 (j := 57) rfl) rfl ?_
      refine b_getR (d17 (j := 58) rfl) rfl rfl rfl rfl ?_
      refine b_iload_n (d17 (j := 59) rfl) rfl ?_
      refine b_dup2 (d17 (j := 60) rfl) ?_
      refine b_iaload (d17 (j := 61) rfl) rfl s1 ?_
      refine b_iload_n (d17 (j := 62) rfl) rfl ?_
      refine b_iadd (d17 (j := 63) rfl) rfl rfl ?_
      refine b_stk [uI ((M (x0 + 5) x1) + x3), uI x1, uR 25 (x0 + 5)] (by rw [dsw_r (s3 c1 c2)]) ?_
      refine b_iastore (d17 (j := 64) rfl) rfl s1 ?_
      exact b_vret (d17 (j := 65) rfl) rfl (k1 c1 c2)
    ·
      refine b_aload_n (d17 (j := 39) rfl) rfl ?_
      refine b_getR (d17 (j := 40) rfl) rfl rfl rfl rfl ?_
      refine b_iload (d17 (j := 41) rfl) rfl ?_
      refine b_iload_n (d17 (j := 42) rfl) rfl ?_
      refine b_iastore (d17 (j := 43) rfl) rfl (s4 c1 c2) ?_
      refine b_aload_n (d17 (j := 44) rfl) rfl ?_
      refine b_getR (d17 (j := 45) rfl) rfl rfl rfl rfl ?_
      refine b_iload (d17 (j := 46) rfl) rfl ?_
      refine b_iload_n (d17 (j := 47) rfl) rfl ?_
      refine b_iastore (d17 (j := 48) rfl) rfl (s4 c1 c2) ?_
      refine b_aload_n (d17 (j := 49) rfl) rfl ?_
      refine b_getR (d17 (j := 50) rfl) rfl rfl rfl rfl ?_
      refine b_iload_n (d17 (j := 51) rfl) rfl ?_
      refine b_dup2 (d17 (j := 52) rfl) ?_
      refine b_iaload (d17 (j := 53) rfl) rfl s1 ?_
      refine b_stk [uI (M (x0 + 4) x1), uI x1, uR 25 (x0 + 4)] (by rw [ds_get_ne (by omega), ds_get_ne (by omega)] <;> rfl) ?_
      refine b_iconst (d17 (j := 54) rfl) (by decide) ?_
      refine b_iadd (d17 (j := 55) rfl) rfl rfl ?_
      refine b_stk [uI ((M (x0 + 4) x1) + 1), uI x1, uR 25 (x0 + 4)] (by rw [dsw_r (s5 c1 c2)]) ?_
      refine b_iastore (d17 (j := 56) rfl) rfl s1 ?_
      refine b_aload_n (d17 (j := 57) rfl) rfl ?_
      refine b_getR (d17 (j := 58) rfl) rfl rfl rfl rfl ?_
      refine b_iload_n (d17 (j := 59) rfl) rfl ?_
      refine b_dup2 (d17 (j := 60) rfl) ?_
      refine b_iaload (d17 (j := 61) rfl) rfl s1 ?_
      refine b_stk [uI (M (x0 + 5) x1), uI x1, uR 25 (x0 + 5)] (by rw [ds_get_ne (by omega), ds_get_ne (by omega), ds_get_ne (by omega)] <;> rfl) ?_
      refine b_iload_n (d17 (j := 62) rfl) rfl ?_
      refine b_iadd (d17 (j := 63) rfl) rfl rfl ?_
      refine b_stk [uI ((M (x0 + 5) x1) + x3), uI x1, uR 25 (x0 + 5)] (by rw [dsw_r (s6 c1 c2)]) ?_
      refine b_iastore (d17 (j := 64) rfl) rfl s1 ?_
      exact b_vret (d17 (j := 65) rfl) rfl (k2 c1 c2)
  ·
    refine b_aload_n (d17 (j := 14) rfl) rfl ?_
    refine b_getR (d17 (j := 15) rfl) rfl rfl rfl rfl ?_
    refine b_iload (d17 (j := 16) rfl) rfl ?_
    refine b_iconst (d17 (j := 17) rfl) (by decide) ?_
    refine b_isub (d17 (j := 18) rfl) rfl rfl ?_
    refine b_stk [uI (((x1 * 60) + (M (x0 + 4) x1)) - 1), uR 24 (x0 + 2)] (by rw [dsw_b (s7 c1) (by decide)]) ?_
    refine b_iaload (d17 (j := 19) rfl) rfl (s7 c1) ?_
    refine b_iload_n (d17 (j := 20) rfl) rfl ?_
    refine b_icmp_ne (d17 (j := 21) rfl) (fun c3 => ?_) (fun c3 => ?_)
    ·
      refine b_aload_n (d17 (j := 33) rfl) rfl ?_
      refine b_getR (d17 (j := 34) rfl) rfl rfl rfl rfl ?_
      refine b_iload_n (d17 (j := 35) rfl) rfl ?_
      refine b_iaload (d17 (j := 36) rfl) rfl s1 ?_
      refine b_bipush (d17 (j := 37) rfl) (by decide) ?_
      refine b_icmp_ge (d17 (j := 38) rfl) (fun c4 => ?_) (fun c4 => ?_)
      ·
        refine b_aload_n (d17 (j := 57) rfl) rfl ?_
        refine b_getR (d17 (j := 58) rfl) rfl rfl rfl rfl ?_
        refine b_iload_n (d17 (j := 59) rfl) rfl ?_
        refine b_dup2 (d17 (j := 60) rfl) ?_
        refine b_iaload (d17 (j := 61) rfl) rfl s1 ?_
        refine b_iload_n (d17 (j := 62) rfl) rfl ?_
        refine b_iadd (d17 (j := 63) rfl) rfl rfl ?_
        refine b_stk [uI ((M (x0 + 5) x1) + x3), uI x1, uR 25 (x0 + 5)] (by rw [dsw_r (s8 c1 c3 c4)]) ?_
        refine b_iastore (d17 (j := 64) rfl) rfl s1 ?_
        exact b_vret (d17 (j := 65) rfl) rfl (k3 c1 c3 c4)
      ·
        refine b_aload_n (d17 (j := 39) rfl) rfl ?_
        refine b_getR (d17 (j := 40) rfl) rfl rfl rfl rfl ?_
        refine b_iload (d17 (j := 41) rfl) rfl ?_
        refine b_iload_n (d17 (j := 42) rfl) rfl ?_
        refine b_iastore (d17 (j := 43) rfl) rfl (s9 c1 c3 c4) ?_
        refine b_aload_n (d17 (j := 44) rfl) rfl ?_
        refine b_getR (d17 (j := 45) rfl) rfl rfl rfl rfl ?_
        refine b_iload (d17 (j := 46) rfl) rfl ?_
        refine b_iload_n (d17 (j := 47) rfl) rfl ?_
        refine b_iastore (d17 (j := 48) rfl) rfl (s9 c1 c3 c4) ?_
        refine b_aload_n (d17 (j := 49) rfl) rfl ?_
        refine b_getR (d17 (j := 50) rfl) rfl rfl rfl rfl ?_
        refine b_iload_n (d17 (j := 51) rfl) rfl ?_
        refine b_dup2 (d17 (j := 52) rfl) ?_
        refine b_iaload (d17 (j := 53) rfl) rfl s1 ?_
        refine b_stk [uI (M (x0 + 4) x1), uI x1, uR 25 (x0 + 4)] (by rw [ds_get_ne (by omega), ds_get_ne (by omega)] <;> rfl) ?_
        refine b_iconst (d17 (j := 54) rfl) (by decide) ?_
        refine b_iadd (d17 (j := 55) rfl) rfl rfl ?_
        refine b_stk [uI ((M (x0 + 4) x1) + 1), uI x1, uR 25 (x0 + 4)] (by rw [dsw_r (s10 c1 c3 c4)]) ?_
        refine b_iastore (d17 (j := 56) rfl) rfl s1 ?_
        refine b_aload_n (d17 (j := 57) rfl) rfl ?_
        refine b_getR (d17 (j := 58) rfl) rfl rfl rfl rfl ?_
        refine b_iload_n (d17 (j := 59) rfl) rfl ?_
        refine b_dup2 (d17 (j := 60) rfl) ?_
        refine b_iaload (d17 (j := 61) rfl) rfl s1 ?_
        refine b_stk [uI (M (x0 + 5) x1), uI x1, uR 25 (x0 + 5)] (by rw [ds_get_ne (by omega), ds_get_ne (by omega), ds_get_ne (by omega)] <;> rfl) ?_
        refine b_iload_n (d17 (j := 62) rfl) rfl ?_
        refine b_iadd (d17 (j := 63) rfl) rfl rfl ?_
        refine b_stk [uI ((M (x0 + 5) x1) + x3), uI x1, uR 25 (x0 + 5)] (by rw [dsw_r (s11 c1 c3 c4)]) ?_
        refine b_iastore (d17 (j := 64) rfl) rfl s1 ?_
        exact b_vret (d17 (j := 65) rfl) rfl (k4 c1 c3 c4)
    ·
      refine b_aload_n (d17 (j := 22) rfl) rfl ?_
      refine b_getR (d17 (j := 23) rfl) rfl rfl rfl rfl ?_
      refine b_iload (d17 (j := 24) rfl) rfl ?_
      refine b_iconst (d17 (j := 25) rfl) (by decide) ?_
      refine b_isub (d17 (j := 26) rfl) rfl rfl ?_
      refine b_stk [uI (((x1 * 60) + (M (x0 + 4) x1)) - 1), uR 24 (x0 + 3)] (by rw [dsw_b (s7 c1) (by decide)]) ?_
      refine b_dup2 (d17 (j := 27) rfl) ?_
      refine b_iaload (d17 (j := 28) rfl) rfl (s7 c1) ?_
      refine b_iload_n (d17 (j := 29) rfl) rfl ?_
      refine b_iadd (d17 (j := 30) rfl) rfl rfl ?_
      refine b_stk [uI ((M (x0 + 3) (((x1 * 60) + (M (x0 + 4) x1)) - 1)) + x3), uI (((x1 * 60) + (M (x0 + 4) x1)) - 1), uR 24 (x0 + 3)] (by rw [dsw_r (s12 c1 c3)]) ?_
      refine b_iastore (d17 (j := 31) rfl) rfl (s7 c1) ?_
      refine b_goto (d17 (j := 32) rfl) ?_
      refine b_aload_n (d17 (j := 57) rfl) rfl ?_
      refine b_getR (d17 (j := 58) rfl) rfl rfl rfl rfl ?_
      refine b_iload_n (d17 (j := 59) rfl) rfl ?_
      refine b_dup2 (d17 (j := 60) rfl) ?_
      refine b_iaload (d17 (j := 61) rfl) rfl s1 ?_
      refine b_stk [uI (M (x0 + 5) x1), uI x1, uR 25 (x0 + 5)] (by rw [ds_get_ne (by omega)] <;> rfl) ?_
      refine b_iload_n (d17 (j := 62) rfl) rfl ?_
      refine b_iadd (d17 (j := 63) rfl) rfl rfl ?_
      refine b_stk [uI ((M (x0 + 5) x1) + x3), uI x1, uR 25 (x0 + 5)] (by rw [dsw_r (s13 c1 c3)]) ?_
      refine b_iastore (d17 (j := 64) rfl) rfl s1 ?_
      exact b_vret (d17 (j := 65) rfl) rfl (k5 c1 c3)
def L18 : List (Nat × Instr × Nat × Nat) := [(0, .iconst 0, 1, 0), (1, .istore_n 3, 2, 0), (2, .iload_n 3, 3, 0), (3, .iconst 5, 4, 0), (4, .if_icmp .gt 16, 7, 20), (7, .aload_n 0, 8, 0), (8, .getfield 52, 11, 0), (11, .iload_n 3, 12, 0), (12, .iconst 0, 13, 0), (13, .iastore, 14, 0), (14, .iinc 3 1, 17, 0), (17, .goto (-15), 20, 2), (20, .iload_n 1, 21, 0), (21, .bipush 60, 23, 0), (23, .imul, 24, 0), (24, .istore_n 3, 25, 0), (25, .iload_n 2, 26, 0), (26, .istore 4, 28, 0), (28, .iconst 0, 29, 0), (29, .istore 5, 31, 0), (31, .iconst 0, 32, 0), (32, .istore 6, 34, 0), (34, .iload 6, 36, 0), (36, .aload_n 0, 37, 0), (37, .getfield 25, 40, 0), (40, .iload_n 1, 41, 0), (41, .iaload, 42, 0), (42, .if_icmp .ge 110, 45, 152), (45, .iload 4, 47, 0), (47, .ifCond .le 105, 50, 152), (50, .iload 4, 52, 0), (52, .aload_n 0, 53, 0), (53, .getfield 22, 56, 0), (56, .iload_n 3, 57, 0), (57, .iload 6, 59, 0), (59, .iadd, 60, 0), (60, .iaload, 61, 0), (61, .if_icmp .ge 8, 64, 69), (64, .iload 4, 66, 0), (66, .goto 12, 69, 78), (69, .aload_n 0, 70, 0), (70, .getfield 22, 73, 0), (73, .iload_n 3, 74, 0), (74, .iload 6, 76, 0), (76, .iadd, 77, 0), (77, .iaload, 78, 0), (78, .istore 7, 80, 0), (80, .aload_n 0, 81, 0), (81, .getfield 22, 84, 0), (84, .iload_n 3, 85, 0), (85, .iload 6, 87, 0), (87, .iadd, 88, 0), (88, .dup2, 89, 0), (89, .iaload, 90, 0), (90, .iload 7, 92, 0), (92, .isub, 93, 0), (93, .iastore, 94, 0), (94, .aload_n 0, 95, 0), (95, .getfield 52, 98, 0), (98, .aload_n 0, 99, 0), (99, .getfield 18, 102, 0), (102, .iload_n 3, 103, 0), (103, .iload 6, 105, 0), (105, .iadd, 106, 0), (106, .iaload, 107, 0), (107, .dup2, 108, 0), (108, .iaload, 109, 0), (109, .iload 7, 111, 0), (111, .iadd, 112, 0), (112, .iastore, 113, 0), (113, .aload_n 0, 114, 0), (114, .getfield 28, 117, 0), (117, .iload_n 1, 118, 0), (118, .dup2, 119, 0), (119, .iaload, 120, 0), (120, .iload 7, 122, 0), (122, .isub, 123, 0), (123, .iastore, 124, 0), (124, .iload 4, 126, 0), (126, .iload 7, 128, 0), (128, .isub, 129, 0), (129, .istore 4, 131, 0), (131, .aload_n 0, 132, 0), (132, .getfield 22, 135, 0), (135, .iload_n 3, 136, 0), (136, .iload 6, 138, 0), (138, .iadd, 139, 0), (139, .iaload, 140, 0), (140, .ifCond .ne 6, 143, 146), (143, .iinc 5 1, 146, 0), (146, .iinc 6 1, 149, 0), (149, .goto (-115), 152, 34), (152, .iload 5, 154, 0), (154, .istore 6, 156, 0), (156, .iload 5, 158, 0), (158, .ifCond .le 62, 161, 220), (161, .iload 6, 163, 0), (163, .aload_n 0, 164, 0), (164, .getfield 25, 167, 0), (167, .iload_n 1, 168, 0), (168, .iaload, 169, 0), (169, .if_icmp .ge 51, 172, 220), (172, .aload_n 0, 173, 0), (173, .getfield 18, 176, 0), (176, .iload_n 3, 177, 0), (177, .iload 6, 179, 0), (179, .iadd, 180, 0), (180, .iload 5, 182, 0), (182, .isub, 183, 0), (183, .aload_n 0, 184, 0), (184, .getfield 18, 187, 0), (187, .iload_n 3, 188, 0), (188, .iload 6, 190, 0), (190, .iadd, 191, 0), (191, .iaload, 192, 0), (192, .iastore, 193, 0), (193, .aload_n 0, 194, 0), (194, .getfield 22, 197, 0), (197, .iload_n 3, 198, 0), (198, .iload 6, 200, 0), (200, .iadd, 201, 0), (201, .iload 5, 203, 0), (203, .isub, 204, 0), (204, .aload_n 0, 205, 0), (205, .getfield 22, 208, 0), (208, .iload_n 3, 209, 0), (209, .iload 6, 211, 0), (211, .iadd, 212, 0), (212, .iaload, 213, 0), (213, .iastore, 214, 0), (214, .iinc 6 1, 217, 0), (217, .goto (-61), 220, 156), (220, .aload_n 0, 221, 0), (221, .getfield 25, 224, 0), (224, .iload_n 1, 225, 0), (225, .dup2, 226, 0), (226, .iaload, 227, 0), (227, .iload 5, 229, 0), (229, .isub, 230, 0), (230, .iastore, 231, 0), (231, .iload_n 2, 232, 0), (232, .iload 4, 234, 0), (234, .isub, 235, 0), (235, .ireturn, 236, 0)]
set_option maxRecDepth 100000 in
theorem L18_ok : L18.all (dck 18) = true := by decide +kernel
theorem d18 {j pc nx tg : Nat} {ins : Instr} (hj : L18[j]? = some (pc, ins, nx, tg)) : dcd 18 pc ins nx tg := dcl_ok L18_ok hj
set_option maxRecDepth 100000 in
set_option maxHeartbeats 4000000 in
theorem r18_0 {x0 x1 x2 : Int}  {M : dsMem} {Q : bQT} (k1 : bB 18 2 [uR 5 x0, uI x1, uI x2, uI 0, uX 0, uX 0, uX 0, uX 0] [] M Q) :
    bB 18 0 [uR 5 x0, uI x1, uI x2, uX 0, uX 0, uX 0, uX 0, uX 0] [] M Q := by
  refine b_iconst (d18 (j := 0) rfl) (by decide) ?_
  refine b_istore_n [uR 5 x0, uI x1, uI x2, uI 0, uX 0, uX 0, uX 0, uX 0] (d18 (j := 1) rfl) (by decide) rfl ?_
  exact k1
set_option maxRecDepth 100000 in
set_option maxHeartbeats 4000000 in
theorem r18_2 {x0 x1 x2 x3 : Int}  {M : dsMem} {Q : bQT} (s1 : (5 < x3) → -2147483648 ≤ (x1 * 60) ∧ (x1 * 60) < 2147483648 := by intros; omega) (k1 : (5 < x3) → bB 18 34 [uR 5 x0, uI x1, uI x2, uI (x1 * 60), uI x2, uI 0, uI 0, uX 0] [] M Q) (s2 : (¬ 5 < x3) → 0 ≤ x3 ∧ x3 < 6 := by intros; omega) (s3 : (¬ 5 < x3) → -2147483648 ≤ x3 + 1 ∧ x3 + 1 < 2147483648 := by intros; omega) (k2 : (¬ 5 < x3) → bB 18 2 [uR 5 x0, uI x1, uI x2, uI (x3 + 1), uX 0, uX 0, uX 0, uX 0] [] (dsSet M (x0 + 13) x3 0) Q) :
    bB 18 2 [uR 5 x0, uI x1, uI x2, uI x3, uX 0, uX 0, uX 0, uX 0] [] M Q := by
  refine b_iload_n (d18 (j := 2) rfl) rfl ?_
  refine b_iconst (d18 (j := 3) rfl) (by decide) ?_
  refine b_icmp_gt (d18 (j := 4) rfl) (fun c1 => ?_) (fun c1 => ?_)
  ·
    refine b_iload_n (d18 (j := 12) rfl) rfl ?_
    refine b_bipush (d18 (j := 13) rfl) (by decide) ?_
    refine b_imul (d18 (j := 14) rfl) rfl rfl ?_
    refine b_stk [uI (x1 * 60)] (by rw [dsw_r (s1 c1)]) ?_
    refine b_istore_n [uR 5 x0, uI x1, uI x2, uI (x1 * 60), uX 0, uX 0, uX 0, uX 0] (d18 (j := 15) rfl) (by decide) rfl ?_
    refine b_iload_n (d18 (j := 16) rfl) rfl ?_
    refine b_istore [uR 5 x0, uI x1, uI x2, uI (x1 * 60), uI x2, uX 0, uX 0, uX 0] (d18 (j := 17) rfl) (by decide) rfl ?_
    refine b_iconst (d18 (j := 18) rfl) (by decide) ?_
    refine b_istore [uR 5 x0, uI x1, uI x2, uI (x1 * 60), uI x2, uI 0, uX 0, uX 0] (d18 (j := 19) rfl) (by decide) rfl ?_
    refine b_iconst (d18 (j := 20) rfl) (by decide) ?_
    refine b_istore [uR 5 x0, uI x1, uI x2, uI (x1 * 60), uI x2, uI 0, uI 0, uX 0] (d18 (j := 21) rfl) (by decide) rfl ?_
    exact (k1 c1)
  ·
    refine b_aload_n (d18 (j := 5) rfl) rfl ?_
    refine b_getR (d18 (j := 6) rfl) rfl rfl rfl rfl ?_
    refine b_iload_n (d18 (j := 7) rfl) rfl ?_
    refine b_iconst (d18 (j := 8) rfl) (by decide) ?_
    refine b_iastore (d18 (j := 9) rfl) rfl (s2 c1) ?_
    refine b_iinc [uR 5 x0, uI x1, uI x2, uI (x3 + 1), uX 0, uX 0, uX 0, uX 0] (d18 (j := 10) rfl) rfl (by decide) (s3 c1) rfl ?_
    refine b_goto (d18 (j := 11) rfl) ?_
    exact (k2 c1)
set_option maxRecDepth 100000 in
set_option maxHeartbeats 4000000 in
theorem r18_34 {x0 x1 x2 x3 x4 x5 x6 : Int}  {M : dsMem} {Q : bQT} (s1 : 0 ≤ x1 ∧ x1 < 78 := by intros; omega) (k1 : ((M (x0 + 4) x1) ≤ x6) → bB 18 156 [uR 5 x0, uI x1, uI x2, uI x3, uI x4, uI x5, uI x5, uX 0] [] M Q) (k2 : (¬ (M (x0 + 4) x1) ≤ x6) → (x4 ≤ 0) → bB 18 156 [uR 5 x0, uI x1, uI x2, uI x3, uI x4, uI x5, uI x5, uX 0] [] M Q) (s2 : (¬ (M (x0 + 4) x1) ≤ x6) → (¬ x4 ≤ 0) → 0 ≤ (x3 + x6) ∧ (x3 + x6) < 4680 := by intros; omega) (s3 : (¬ (M (x0 + 4) x1) ≤ x6) → (¬ x4 ≤ 0) → ((M (x0 + 3) (x3 + x6)) ≤ x4) → -2147483648 ≤ ((M (x0 + 3) (x3 + x6)) - (M (x0 + 3) (x3 + x6))) ∧ ((M (x0 + 3) (x3 + x6)) - (M (x0 + 3) (x3 + x6))) < 2147483648 := by intros; omega) (s4 : (¬ (M (x0 + 4) x1) ≤ x6) → (¬ x4 ≤ 0) → ((M (x0 + 3) (x3 + x6)) ≤ x4) → 0 ≤ (M (x0 + 2) (x3 + x6)) ∧ (M (x0 + 2) (x3 + x6)) < 6 := by intros; omega) (s5 : (¬ (M (x0 + 4) x1) ≤ x6) → (¬ x4 ≤ 0) → ((M (x0 + 3) (x3 + x6)) ≤ x4) → -2147483648 ≤ ((M (x0 + 13) (M (x0 + 2) (x3 + x6))) + (M (x0 + 3) (x3 + x6))) ∧ ((M (x0 + 13) (M (x0 + 2) (x3 + x6))) + (M (x0 + 3) (x3 + x6))) < 2147483648 := by intros; omega) (s6 : (¬ (M (x0 + 4) x1) ≤ x6) → (¬ x4 ≤ 0) → ((M (x0 + 3) (x3 + x6)) ≤ x4) → -2147483648 ≤ ((M (x0 + 5) x1) - (M (x0 + 3) (x3 + x6))) ∧ ((M (x0 + 5) x1) - (M (x0 + 3) (x3 + x6))) < 2147483648 := by intros; omega) (s7 : (¬ (M (x0 + 4) x1) ≤ x6) → (¬ x4 ≤ 0) → ((M (x0 + 3) (x3 + x6)) ≤ x4) → -2147483648 ≤ (x4 - (M (x0 + 3) (x3 + x6))) ∧ (x4 - (M (x0 + 3) (x3 + x6))) < 2147483648 := by intros; omega) (s8 : (¬ (M (x0 + 4) x1) ≤ x6) → (¬ x4 ≤ 0) → ((M (x0 + 3) (x3 + x6)) ≤ x4) → (¬ ((M (x0 + 3) (x3 + x6)) - (M (x0 + 3) (x3 + x6))) = 0) → -2147483648 ≤ x6 + 1 ∧ x6 + 1 < 2147483648 := by intros; omega) (k3 : (¬ (M (x0 + 4) x1) ≤ x6) → (¬ x4 ≤ 0) → ((M (x0 + 3) (x3 + x6)) ≤ x4) → (¬ ((M (x0 + 3) (x3 + x6)) - (M (x0 + 3) (x3 + x6))) = 0) → bB 18 34 [uR 5 x0, uI x1, uI x2, uI x3, uI (x4 - (M (x0 + 3) (x3 + x6))), uI x5, uI (x6 + 1), uX 0] [] (dsSet (dsSet (dsSet M (x0 + 3) (x3 + x6) ((M (x0 + 3) (x3 + x6)) - (M (x0 + 3) (x3 + x6)))) (x0 + 13) (M (x0 + 2) (x3 + x6)) ((M (x0 + 13) (M (x0 + 2) (x3 + x6))) + (M (x0 + 3) (x3 + x6)))) (x0 + 5) x1 ((M (x0 + 5) x1) - (M (x0 + 3) (x3 + x6)))) Q) (s9 : (¬ (M (x0 + 4) x1) ≤ x6) → (¬ x4 ≤ 0) → ((M (x0 + 3) (x3 + x6)) ≤ x4) → (((M (x0 + 3) (x3 + x6)) - (M (x0 + 3) (x3 + x6))) = 0) → -2147483648 ≤ x5 + 1 ∧ x5 + 1 < 2147483648 := by intros; omega) (s10 : (¬ (M (x0 + 4) x1) ≤ x6) → (¬ x4 ≤ 0) → ((M (x0 + 3) (x3 + x6)) ≤ x4) → (((M (x0 + 3) (x3 + x6)) - (M (x0 + 3) (x3 + x6))) = 0) → -2147483648 ≤ x6 + 1 ∧ x6 + 1 < 2147483648 := by intros; omega) (k4 : (¬ (M (x0 + 4) x1) ≤ x6) → (¬ x4 ≤ 0) → ((M (x0 + 3) (x3 + x6)) ≤ x4) → (((M (x0 + 3) (x3 + x6)) - (M (x0 + 3) (x3 + x6))) = 0) → bB 18 34 [uR 5 x0, uI x1, uI x2, uI x3, uI (x4 - (M (x0 + 3) (x3 + x6))), uI (x5 + 1), uI (x6 + 1), uX 0] [] (dsSet (dsSet (dsSet M (x0 + 3) (x3 + x6) ((M (x0 + 3) (x3 + x6)) - (M (x0 + 3) (x3 + x6)))) (x0 + 13) (M (x0 + 2) (x3 + x6)) ((M (x0 + 13) (M (x0 + 2) (x3 + x6))) + (M (x0 + 3) (x3 + x6)))) (x0 + 5) x1 ((M (x0 + 5) x1) - (M (x0 + 3) (x3 + x6)))) Q) (s11 : (¬ (M (x0 + 4) x1) ≤ x6) → (¬ x4 ≤ 0) → (¬ (M (x0 + 3) (x3 + x6)) ≤ x4) → -2147483648 ≤ ((M (x0 + 3) (x3 + x6)) - x4) ∧ ((M (x0 + 3) (x3 + x6)) - x4) < 2147483648 := by intros; omega) (s12 : (¬ (M (x0 + 4) x1) ≤ x6) → (¬ x4 ≤ 0) → (¬ (M (x0 + 3) (x3 + x6)) ≤ x4) → 0 ≤ (M (x0 + 2) (x3 + x6)) ∧ (M (x0 + 2) (x3 + x6)) < 6 := by intros; omega) (s13 : (¬ (M (x0 + 4) x1) ≤ x6) → (¬ x4 ≤ 0) → (¬ (M (x0 + 3) (x3 + x6)) ≤ x4) → -2147483648 ≤ ((M (x0 + 13) (M (x0 + 2) (x3 + x6))) + x4) ∧ ((M (x0 + 13) (M (x0 + 2) (x3 + x6))) + x4) < 2147483648 := by intros; omega) (s14 : (¬ (M (x0 + 4) x1) ≤ x6) → (¬ x4 ≤ 0) → (¬ (M (x0 + 3) (x3 + x6)) ≤ x4) → -2147483648 ≤ ((M (x0 + 5) x1) - x4) ∧ ((M (x0 + 5) x1) - x4) < 2147483648 := by intros; omega) (s15 : (¬ (M (x0 + 4) x1) ≤ x6) → (¬ x4 ≤ 0) → (¬ (M (x0 + 3) (x3 + x6)) ≤ x4) → -2147483648 ≤ (x4 - x4) ∧ (x4 - x4) < 2147483648 := by intros; omega) (s16 : (¬ (M (x0 + 4) x1) ≤ x6) → (¬ x4 ≤ 0) → (¬ (M (x0 + 3) (x3 + x6)) ≤ x4) → (¬ ((M (x0 + 3) (x3 + x6)) - x4) = 0) → -2147483648 ≤ x6 + 1 ∧ x6 + 1 < 2147483648 := by intros; omega) (k5 : (¬ (M (x0 + 4) x1) ≤ x6) → (¬ x4 ≤ 0) → (¬ (M (x0 + 3) (x3 + x6)) ≤ x4) → (¬ ((M (x0 + 3) (x3 + x6)) - x4) = 0) → bB 18 34 [uR 5 x0, uI x1, uI x2, uI x3, uI (x4 - x4), uI x5, uI (x6 + 1), uX 0] [] (dsSet (dsSet (dsSet M (x0 + 3) (x3 + x6) ((M (x0 + 3) (x3 + x6)) - x4)) (x0 + 13) (M (x0 + 2) (x3 + x6)) ((M (x0 + 13) (M (x0 + 2) (x3 + x6))) + x4)) (x0 + 5) x1 ((M (x0 + 5) x1) - x4)) Q) (s17 : (¬ (M (x0 + 4) x1) ≤ x6) → (¬ x4 ≤ 0) → (¬ (M (x0 + 3) (x3 + x6)) ≤ x4) → (((M (x0 + 3) (x3 + x6)) - x4) = 0) → -2147483648 ≤ x5 + 1 ∧ x5 + 1 < 2147483648 := by intros; omega) (s18 : (¬ (M (x0 + 4) x1) ≤ x6) → (¬ x4 ≤ 0) → (¬ (M (x0 + 3) (x3 + x6)) ≤ x4) → (((M (x0 + 3) (x3 + x6)) - x4) = 0) → -2147483648 ≤ x6 + 1 ∧ x6 + 1 < 2147483648 := by intros; omega) (k6 : (¬ (M (x0 + 4) x1) ≤ x6) → (¬ x4 ≤ 0) → (¬ (M (x0 + 3) (x3 + x6)) ≤ x4) → (((M (x0 + 3) (x3 + x6)) - x4) = 0) → bB 18 34 [uR 5 x0, uI x1, uI x2, uI x3, uI (x4 - x4), uI (x5 + 1), uI (x6 + 1), uX 0] [] (dsSet (dsSet (dsSet M (x0 + 3) (x3 + x6) ((M (x0 + 3) (x3 + x6)) - x4)) (x0 + 13) (M (x0 + 2) (x3 + x6)) ((M (x0 + 13) (M (x0 + 2) (x3 + x6))) + x4)) (x0 + 5) x1 ((M (x0 + 5) x1) - x4)) Q) :
    bB 18 34 [uR 5 x0, uI x1, uI x2, uI x3, uI x4, uI x5, uI x6, uX 0] [] M Q := by
  refine b_iload (d18 (j := 22) rfl) rfl ?_
  refine b_aload_n (d18 (j := 23) rfl) rfl ?_
  refine b_getR (d18 (j := 24) rfl) rfl rfl rfl rfl ?_
  refine b_iload_n (d18 (j := 25) rfl) rfl ?_
  refine b_iaload (d18 (j := 26) rfl) rfl s1 ?_
  refine b_icmp_ge (d18 (j := 27) rfl) (fun c1 => ?_) (fun c1 => ?_)
  ·
    refine b_iload (d18 (j := 92) rfl) rfl ?_
    refine b_istore [uR 5 x0, uI x1, uI x2, uI x3, uI x4, uI x5, uI x5, uX 0] (d18 (j := 93) rfl) (by decide) rfl ?_
    exact (k1 c1)
  ·
    refine b_iload (d18 (j := 28) rfl) rfl ?_
    refine b_if_le (d18 (j := 29) rfl) (fun c2 => ?_) (fun c2 => ?_)
    ·
      refine b_iload (d18 (j := 92) rfl) rfl ?_
      refine b_istore [uR 5 x0, uI x1, uI x2, uI x3, uI x4, uI x5, uI x5, uX 0] (d18 (j := 93) rfl) (by decide) rfl ?_
      exact (k2 c1 c2)
    ·
      refine b_iload (d18 (j := 30) rfl) rfl ?_
      refine b_aload_n (d18 (j := 31) rfl) rfl ?_
      refine b_getR (d18 (j := 32) rfl) rfl rfl rfl rfl ?_
      refine b_iload_n (d18 (j := 33) rfl) rfl ?_
      refine b_iload (d18 (j := 34) rfl) rfl ?_
      refine b_iadd (d18 (j := 35) rfl) rfl rfl ?_
      refine b_stk [uI (x3 + x6), uR 24 (x0 + 3), uI x4] (by rw [dsw_b (s2 c1 c2) (by decide)]) ?_
      refine b_iaload (d18 (j := 36) rfl) rfl (s2 c1 c2) ?_
      refine b_icmp_ge (d18 (j := 37) rfl) (fun c3 => ?_) (fun c3 => ?_)
      ·
        refine b_aload_n (d18 (j := 40) rfl) rfl ?_
        refine b_getR (d18 (j := 41) rfl) rfl rfl rfl rfl ?_
        refine b_iload_n (d18 (j := 42) rfl) rfl ?_
        refine b_iload (d18 (j := 43) rfl) rfl ?_
        refine b_iadd (d18 (j := 44) rfl) rfl rfl ?_
        refine b_stk [uI (x3 + x6), uR 24 (x0 + 3)] (by rw [dsw_b (s2 c1 c2) (by decide)]) ?_
        refine b_iaload (d18 (j := 45) rfl) rfl (s2 c1 c2) ?_
        refine b_istore [uR 5 x0, uI x1, uI x2, uI x3, uI x4, uI x5, uI x6, uI (M (x0 + 3) (x3 + x6))] (d18 (j := 46) rfl) (by decide) rfl ?_
        refine b_aload_n (d18 (j := 47) rfl) rfl ?_
        refine b_getR (d18 (j := 48) rfl) rfl rfl rfl rfl ?_
        refine b_iload_n (d18 (j := 49) rfl) rfl ?_
        refine b_iload (d18 (j := 50) rfl) rfl ?_
        refine b_iadd (d18 (j := 51) rfl) rfl rfl ?_
        refine b_stk [uI (x3 + x6), uR 24 (x0 + 3)] (by rw [dsw_b (s2 c1 c2) (by decide)]) ?_
        refine b_dup2 (d18 (j := 52) rfl) ?_
        refine b_iaload (d18 (j := 53) rfl) rfl (s2 c1 c2) ?_
        refine b_iload (d18 (j := 54) rfl) rfl ?_
        refine b_isub (d18 (j := 55) rfl) rfl rfl ?_
        refine b_stk [uI ((M (x0 + 3) (x3 + x6)) - (M (x0 + 3) (x3 + x6))), uI (x3 + x6), uR 24 (x0 + 3)] (by rw [dsw_r (s3 c1 c2 c3)]) ?_
        refine b_iastore (d18 (j := 56) rfl) rfl (s2 c1 c2) ?_
        refine b_aload_n (d18 (j := 57) rfl) rfl ?_
        refine b_getR (d18 (j := 58) rfl) rfl rfl rfl rfl ?_
        refine b_aload_n (d18 (j := 59) rfl) rfl ?_
        refine b_getR (d18 (j := 60) rfl) rfl rfl rfl rfl ?_
        refine b_iload_n (d18 (j := 61) rfl) rfl ?_
        refine b_iload (d18 (j := 62) rfl) rfl ?_
        refine b_iadd (d18 (j := 63) rfl) rfl rfl ?_
        refine b_stk [uI (x3 + x6), uR 24 (x0 + 2), uR 21 (x0 + 13)] (by rw [dsw_b (s2 c1 c2) (by decide)]) ?_
        refine b_iaload (d18 (j := 64) rfl) rfl (s2 c1 c2) ?_
        refine b_stk [uI (M (x0 + 2) (x3 + x6)), uR 21 (x0 + 13)] (by rw [ds_get_ne (by omega)] <;> rfl) ?_
        refine b_dup2 (d18 (j := 65) rfl) ?_
        refine b_iaload (d18 (j := 66) rfl) rfl (s4 c1 c2 c3) ?_
        refine b_stk [uI (M (x0 + 13) (M (x0 + 2) (x3 + x6))), uI (M (x0 + 2) (x3 + x6)), uR 21 (x0 + 13)] (by rw [ds_get_ne (by omega)] <;> rfl) ?_
        refine b_iload (d18 (j := 67) rfl) rfl ?_
        refine b_iadd (d18 (j := 68) rfl) rfl rfl ?_
        refine b_stk [uI ((M (x0 + 13) (M (x0 + 2) (x3 + x6))) + (M (x0 + 3) (x3 + x6))), uI (M (x0 + 2) (x3 + x6)), uR 21 (x0 + 13)] (by rw [dsw_r (s5 c1 c2 c3)]) ?_
        refine b_iastore (d18 (j := 69) rfl) rfl (s4 c1 c2 c3) ?_
        refine b_aload_n (d18 (j := 70) rfl) rfl ?_
        refine b_getR (d18 (j := 71) rfl) rfl rfl rfl rfl ?_
        refine b_iload_n (d18 (j := 72) rfl) rfl ?_
        refine b_dup2 (d18 (j := 73) rfl) ?_
        refine b_iaload (d18 (j := 74) rfl) rfl s1 ?_
        refine b_stk [uI (M (x0 + 5) x1), uI x1, uR 25 (x0 + 5)] (by rw [ds_get_ne (by omega), ds_get_ne (by omega)] <;> rfl) ?_
        refine b_iload (d18 (j := 75) rfl) rfl ?_
        refine b_isub (d18 (j := 76) rfl) rfl rfl ?_
        refine b_stk [uI ((M (x0 + 5) x1) - (M (x0 + 3) (x3 + x6))), uI x1, uR 25 (x0 + 5)] (by rw [dsw_r (s6 c1 c2 c3)]) ?_
        refine b_iastore (d18 (j := 77) rfl) rfl s1 ?_
        refine b_iload (d18 (j := 78) rfl) rfl ?_
        refine b_iload (d18 (j := 79) rfl) rfl ?_
        refine b_isub (d18 (j := 80) rfl) rfl rfl ?_
        refine b_stk [uI (x4 - (M (x0 + 3) (x3 + x6)))] (by rw [dsw_r (s7 c1 c2 c3)]) ?_
        refine b_istore [uR 5 x0, uI x1, uI x2, uI x3, uI (x4 - (M (x0 + 3) (x3 + x6))), uI x5, uI x6, uI (M (x0 + 3) (x3 + x6))] (d18 (j := 81) rfl) (by decide) rfl ?_
        refine b_aload_n (d18 (j := 82) rfl) rfl ?_
        refine b_getR (d18 (j := 83) rfl) rfl rfl rfl rfl ?_
        refine b_iload_n (d18 (j := 84) rfl) rfl ?_
        refine b_iload (d18 (j := 85) rfl) rfl ?_
        refine b_iadd (d18 (j := 86) rfl) rfl rfl ?_
        refine b_stk [uI (x3 + x6), uR 24 (x0 + 3)] (by rw [dsw_b (s2 c1 c2) (by decide)]) ?_
        refine b_iaload (d18 (j := 87) rfl) rfl (s2 c1 c2) ?_
        refine b_stk [uI ((M (x0 + 3) (x3 + x6)) - (M (x0 + 3) (x3 + x6)))] (by rw [ds_get_ne (by omega), ds_get_ne (by omega), ds_get_eq] <;> rfl) ?_
        refine b_if_ne (d18 (j := 88) rfl) (fun c4 => ?_) (fun c4 => ?_)
        ·
          refine b_iinc [uR 5 x0, uI x1, uI x2, uI x3, uI (x4 - (M (x0 + 3) (x3 + x6))), uI x5, uI (x6 + 1), uI (M (x0 + 3) (x3 + x6))] (d18 (j := 90) rfl) rfl (by decide) (s8 c1 c2 c3 c4) rfl ?_
          refine b_goto (d18 (j := 91) rfl) ?_
          exact bB_le _ (bLe_s (bLe_s (bLe_s (bLe_s (bLe_s (bLe_s (bLe_s (bLe_x bLe_nil)))))))) (k3 c1 c2 c3 c4)
        ·
          refine b_iinc [uR 5 x0, uI x1, uI x2, uI x3, uI (x4 - (M (x0 + 3) (x3 + x6))), uI (x5 + 1), uI x6, uI (M (x0 + 3) (x3 + x6))] (d18 (j := 89) rfl) rfl (by decide) (s9 c1 c2 c3 c4) rfl ?_
          refine b_iinc [uR 5 x0, uI x1, uI x2, uI x3, uI (x4 - (M (x0 + 3) (x3 + x6))), uI (x5 + 1), uI (x6 + 1), uI (M (x0 + 3) (x3 + x6))] (d18 (j := 90) rfl) rfl (by decide) (s10 c1 c2 c3 c4) rfl ?_
          refine b_goto (d18 (j := 91) rfl) ?_
          exact bB_le _ (bLe_s (bLe_s (bLe_s (bLe_s (bLe_s (bLe_s (bLe_s (bLe_x bLe_nil)))))))) (k4 c1 c2 c3 c4)
      ·
        refine b_iload (d18 (j := 38) rfl) rfl ?_
        refine b_goto (d18 (j := 39) rfl) ?_
        refine b_istore [uR 5 x0, uI x1, uI x2, uI x3, uI x4, uI x5, uI x6, uI x4] (d18 (j := 46) rfl) (by decide) rfl ?_
        refine b_aload_n (d18 (j := 47) rfl) rfl ?_
        refine b_getR (d18 (j := 48) rfl) rfl rfl rfl rfl ?_
        refine b_iload_n (d18 (j := 49) rfl) rfl ?_
        refine b_iload (d18 (j := 50) rfl) rfl ?_
        refine b_iadd (d18 (j := 51) rfl) rfl rfl ?_
        refine b_stk [uI (x3 + x6), uR 24 (x0 + 3)] (by rw [dsw_b (s2 c1 c2) (by decide)]) ?_
        refine b_dup2 (d18 (j := 52) rfl) ?_
        refine b_iaload (d18 (j := 53) rfl) rfl (s2 c1 c2) ?_
        refine b_iload (d18 (j := 54) rfl) rfl ?_
        refine b_isub (d18 (j := 55) rfl) rfl rfl ?_
        refine b_stk [uI ((M (x0 + 3) (x3 + x6)) - x4), uI (x3 + x6), uR 24 (x0 + 3)] (by rw [dsw_r (s11 c1 c2 c3)]) ?_
        refine b_iastore (d18 (j := 56) rfl) rfl (s2 c1 c2) ?_
        refine b_aload_n (d18 (j := 57) rfl) rfl ?_
        refine b_getR (d18 (j := 58) rfl) rfl rfl rfl rfl ?_
        refine b_aload_n (d18 (j := 59) rfl) rfl ?_
        refine b_getR (d18 (j := 60) rfl) rfl rfl rfl rfl ?_
        refine b_iload_n (d18 (j := 61) rfl) rfl ?_
        refine b_iload (d18 (j := 62) rfl) rfl ?_
        refine b_iadd (d18 (j := 63) rfl) rfl rfl ?_
        refine b_stk [uI (x3 + x6), uR 24 (x0 + 2), uR 21 (x0 + 13)] (by rw [dsw_b (s2 c1 c2) (by decide)]) ?_
        refine b_iaload (d18 (j := 64) rfl) rfl (s2 c1 c2) ?_
        refine b_stk [uI (M (x0 + 2) (x3 + x6)), uR 21 (x0 + 13)] (by rw [ds_get_ne (by omega)] <;> rfl) ?_
        refine b_dup2 (d18 (j := 65) rfl) ?_
        refine b_iaload (d18 (j := 66) rfl) rfl (s12 c1 c2 c3) ?_
        refine b_stk [uI (M (x0 + 13) (M (x0 + 2) (x3 + x6))), uI (M (x0 + 2) (x3 + x6)), uR 21 (x0 + 13)] (by rw [ds_get_ne (by omega)] <;> rfl) ?_
        refine b_iload (d18 (j := 67) rfl) rfl ?_
        refine b_iadd (d18 (j := 68) rfl) rfl rfl ?_
        refine b_stk [uI ((M (x0 + 13) (M (x0 + 2) (x3 + x6))) + x4), uI (M (x0 + 2) (x3 + x6)), uR 21 (x0 + 13)] (by rw [dsw_r (s13 c1 c2 c3)]) ?_
        refine b_iastore (d18 (j := 69) rfl) rfl (s12 c1 c2 c3) ?_
        refine b_aload_n (d18 (j := 70) rfl) rfl ?_
        refine b_getR (d18 (j := 71) rfl) rfl rfl rfl rfl ?_
        refine b_iload_n (d18 (j := 72) rfl) rfl ?_
        refine b_dup2 (d18 (j := 73) rfl) ?_
        refine b_iaload (d18 (j := 74) rfl) rfl s1 ?_
        refine b_stk [uI (M (x0 + 5) x1), uI x1, uR 25 (x0 + 5)] (by rw [ds_get_ne (by omega), ds_get_ne (by omega)] <;> rfl) ?_
        refine b_iload (d18 (j := 75) rfl) rfl ?_
        refine b_isub (d18 (j := 76) rfl) rfl rfl ?_
        refine b_stk [uI ((M (x0 + 5) x1) - x4), uI x1, uR 25 (x0 + 5)] (by rw [dsw_r (s14 c1 c2 c3)]) ?_
        refine b_iastore (d18 (j := 77) rfl) rfl s1 ?_
        refine b_iload (d18 (j := 78) rfl) rfl ?_
        refine b_iload (d18 (j := 79) rfl) rfl ?_
        refine b_isub (d18 (j := 80) rfl) rfl rfl ?_
        refine b_stk [uI (x4 - x4)] (by rw [dsw_r (s15 c1 c2 c3)]) ?_
        refine b_istore [uR 5 x0, uI x1, uI x2, uI x3, uI (x4 - x4), uI x5, uI x6, uI x4] (d18 (j := 81) rfl) (by decide) rfl ?_
        refine b_aload_n (d18 (j := 82) rfl) rfl ?_
        refine b_getR (d18 (j := 83) rfl) rfl rfl rfl rfl ?_
        refine b_iload_n (d18 (j := 84) rfl) rfl ?_
        refine b_iload (d18 (j := 85) rfl) rfl ?_
        refine b_iadd (d18 (j := 86) rfl) rfl rfl ?_
        refine b_stk [uI (x3 + x6), uR 24 (x0 + 3)] (by rw [dsw_b (s2 c1 c2) (by decide)]) ?_
        refine b_iaload (d18 (j := 87) rfl) rfl (s2 c1 c2) ?_
        refine b_stk [uI ((M (x0 + 3) (x3 + x6)) - x4)] (by rw [ds_get_ne (by omega), ds_get_ne (by omega), ds_get_eq] <;> rfl) ?_
        refine b_if_ne (d18 (j := 88) rfl) (fun c5 => ?_) (fun c5 => ?_)
        ·
          refine b_iinc [uR 5 x0, uI x1, uI x2, uI x3, uI (x4 - x4), uI x5, uI (x6 + 1), uI x4] (d18 (j := 90) rfl) rfl (by decide) (s16 c1 c2 c3 c5) rfl ?_
          refine b_goto (d18 (j := 91) rfl) ?_
          exact bB_le _ (bLe_s (bLe_s (bLe_s (bLe_s (bLe_s (bLe_s (bLe_s (bLe_x bLe_nil)))))))) (k5 c1 c2 c3 c5)
        ·
          refine b_iinc [uR 5 x0, uI x1, uI x2, uI x3, uI (x4 - x4), uI (x5 + 1), uI x6, uI x4] (d18 (j := 89) rfl) rfl (by decide) (s17 c1 c2 c3 c5) rfl ?_
          refine b_iinc [uR 5 x0, uI x1, uI x2, uI x3, uI (x4 - x4), uI (x5 + 1), uI (x6 + 1), uI x4] (d18 (j := 90) rfl) rfl (by decide) (s18 c1 c2 c3 c5) rfl ?_
          refine b_goto (d18 (j := 91) rfl) ?_
          exact bB_le _ (bLe_s (bLe_s (bLe_s (bLe_s (bLe_s (bLe_s (bLe_s (bLe_x bLe_nil)))))))) (k6 c1 c2 c3 c5)
set_option maxRecDepth 100000 in
set_option maxHeartbeats 4000000 in
theorem r18_156 {x0 x1 x2 x3 x4 x5 x6 : Int}  {M : dsMem} {Q : bQT} (s1 : (x5 ≤ 0) → 0 ≤ x1 ∧ x1 < 78 := by intros; omega) (s2 : (x5 ≤ 0) → -2147483648 ≤ ((M (x0 + 4) x1) - x5) ∧ ((M (x0 + 4) x1) - x5) < 2147483648 := by intros; omega) (s3 : (x5 ≤ 0) → -2147483648 ≤ (x2 - x4) ∧ (x2 - x4) < 2147483648 := by intros; omega) (k1 : (x5 ≤ 0) → Q [uI (x2 - x4)] (dsSet M (x0 + 4) x1 ((M (x0 + 4) x1) - x5))) (s4 : (¬ x5 ≤ 0) → 0 ≤ x1 ∧ x1 < 78 := by intros; omega) (s5 : (¬ x5 ≤ 0) → ((M (x0 + 4) x1) ≤ x6) → -2147483648 ≤ ((M (x0 + 4) x1) - x5) ∧ ((M (x0 + 4) x1) - x5) < 2147483648 := by intros; omega) (s6 : (¬ x5 ≤ 0) → ((M (x0 + 4) x1) ≤ x6) → -2147483648 ≤ (x2 - x4) ∧ (x2 - x4) < 2147483648 := by intros; omega) (k2 : (¬ x5 ≤ 0) → ((M (x0 + 4) x1) ≤ x6) → Q [uI (x2 - x4)] (dsSet M (x0 + 4) x1 ((M (x0 + 4) x1) - x5))) (s7 : (¬ x5 ≤ 0) → (¬ (M (x0 + 4) x1) ≤ x6) → 0 ≤ (x3 + x6) ∧ (x3 + x6) < 4680 := by intros; omega) (s8 : (¬ x5 ≤ 0) → (¬ (M (x0 + 4) x1) ≤ x6) → 0 ≤ ((x3 + x6) - x5) ∧ ((x3 + x6) - x5) < 4680 := by intros; omega) (s9 : (¬ x5 ≤ 0) → (¬ (M (x0 + 4) x1) ≤ x6) → -2147483648 ≤ x6 + 1 ∧ x6 + 1 < 2147483648 := by intros; omega) (k3 : (¬ x5 ≤ 0) → (¬ (M (x0 + 4) x1) ≤ x6) → bB 18 156 [uR 5 x0, uI x1, uI x2, uI x3, uI x4, uI x5, uI (x6 + 1), uX 0] [] (dsSet (dsSet M (x0 + 2) ((x3 + x6) - x5) (M (x0 + 2) (x3 + x6))) (x0 + 3) ((x3 + x6) - x5) (M (x0 + 3) (x3 + x6))) Q) :
    bB 18 156 [uR 5 x0, uI x1, uI x2, uI x3, uI x4, uI x5, uI x6, uX 0] [] M Q := by
  refine b_iload (d18 (j := 94) rfl) rfl ?_
  refine b_if_le (d18 (j := 95) rfl) (fun c1 => ?_) (fun c1 => ?_)
  ·
    refine b_aload_n (d18 (j := 132) rfl) rfl ?_
    refine b_getR (d18 (j := 133) rfl) rfl rfl rfl rfl ?_
    refine b_iload_n (d18 (j := 134) rfl) rfl ?_
    refine b_dup2 (d18 (j := 135) rfl) ?_
    refine b_iaload (d18 (j := 136) rfl) rfl (s1 c1) ?_
    refine b_iload (d18 (j := 137) rfl) rfl ?_
    refine b_isub (d18 (j := 138) rfl) rfl rfl ?_
    refine b_stk [uI ((M (x0 + 4) x1) - x5), uI x1, uR 25 (x0 + 4)] (by rw [dsw_r (s2 c1)]) ?_
    refine b_iastore (d18 (j := 139) rfl) rfl (s1 c1) ?_
    refine b_iload_n (d18 (j := 140) rfl) rfl ?_
    refine b_iload (d18 (j := 141) rfl) rfl ?_
    refine b_isub (d18 (j := 142) rfl) rfl rfl ?_
    refine b_stk [uI (x2 - x4)] (by rw [dsw_r (s3 c1)]) ?_
    exact b_iret (d18 (j := 143) rfl) rfl (k1 c1)
  ·
    refine b_iload (d18 (j := 96) rfl) rfl ?_
    refine b_aload_n (d18 (j := 97) rfl) rfl ?_
    refine b_getR (d18 (j := 98) rfl) rfl rfl rfl rfl ?_
    refine b_iload_n (d18 (j := 99) rfl) rfl ?_
    refine b_iaload (d18 (j := 100) rfl) rfl (s4 c1) ?_
    refine b_icmp_ge (d18 (j := 101) rfl) (fun c2 => ?_) (fun c2 => ?_)
    ·
      refine b_aload_n (d18 (j := 132) rfl) rfl ?_
      refine b_getR (d18 (j := 133) rfl) rfl rfl rfl rfl ?_
      refine b_iload_n (d18 (j := 134) rfl) rfl ?_
      refine b_dup2 (d18 (j := 135) rfl) ?_
      refine b_iaload (d18 (j := 136) rfl) rfl (s4 c1) ?_
      refine b_iload (d18 (j := 137) rfl) rfl ?_
      refine b_isub (d18 (j := 138) rfl) rfl rfl ?_
      refine b_stk [uI ((M (x0 + 4) x1) - x5), uI x1, uR 25 (x0 + 4)] (by rw [dsw_r (s5 c1 c2)]) ?_
      refine b_iastore (d18 (j := 139) rfl) rfl (s4 c1) ?_
      refine b_iload_n (d18 (j := 140) rfl) rfl ?_
      refine b_iload (d18 (j := 141) rfl) rfl ?_
      refine b_isub (d18 (j := 142) rfl) rfl rfl ?_
      refine b_stk [uI (x2 - x4)] (by rw [dsw_r (s6 c1 c2)]) ?_
      exact b_iret (d18 (j := 143) rfl) rfl (k2 c1 c2)
    ·
      refine b_aload_n (d18 (j := 102) rfl) rfl ?_
      refine b_getR (d18 (j := 103) rfl) rfl rfl rfl rfl ?_
      refine b_iload_n (d18 (j := 104) rfl) rfl ?_
      refine b_iload (d18 (j := 105) rfl) rfl ?_
      refine b_iadd (d18 (j := 106) rfl) rfl rfl ?_
      refine b_iload (d18 (j := 107) rfl) rfl ?_
      refine b_isub (d18 (j := 108) rfl) (dsw_dsw _) rfl ?_
      refine b_aload_n (d18 (j := 109) rfl) rfl ?_
      refine b_getR (d18 (j := 110) rfl) rfl rfl rfl rfl ?_
      refine b_iload_n (d18 (j := 111) rfl) rfl ?_
      refine b_iload (d18 (j := 112) rfl) rfl ?_
      refine b_iadd (d18 (j := 113) rfl) rfl rfl ?_
      refine b_stk [uI (x3 + x6), uR 24 (x0 + 2), uI (dsw (((x3 + x6) - x5))), uR 24 (x0 + 2)] (by rw [dsw_b (s7 c1 c2) (by decide)]) ?_
      refine b_iaload (d18 (j := 114) rfl) rfl (s7 c1 c2) ?_
      refine b_stk [uI (M (x0 + 2) (x3 + x6)), uI ((x3 + x6) - x5), uR 24 (x0 + 2)] (by rw [dsw_b (s8 c1 c2) (by decide)]) ?_
      refine b_iastore (d18 (j := 115) rfl) rfl (s8 c1 c2) ?_
      refine b_aload_n (d18 (j := 116) rfl) rfl ?_
      refine b_getR (d18 (j := 117) rfl) rfl rfl rfl rfl ?_
      refine b_iload_n (d18 (j := 118) rfl) rfl ?_
      refine b_iload (d18 (j := 119) rfl) rfl ?_
      refine b_iadd (d18 (j := 120) rfl) rfl rfl ?_
      refine b_iload (d18 (j := 121) rfl) rfl ?_
      refine b_isub (d18 (j := 122) rfl) (dsw_dsw _) rfl ?_
      refine b_aload_n (d18 (j := 123) rfl) rfl ?_
      refine b_getR (d18 (j := 124) rfl) rfl rfl rfl rfl ?_
      refine b_iload_n (d18 (j := 125) rfl) rfl ?_
      refine b_iload (d18 (j := 126) rfl) rfl ?_
      refine b_iadd (d18 (j := 127) rfl) rfl rfl ?_
      refine b_stk [uI (x3 + x6), uR 24 (x0 + 3), uI (dsw (((x3 + x6) - x5))), uR 24 (x0 + 3)] (by rw [dsw_b (s7 c1 c2) (by decide)]) ?_
      refine b_iaload (d18 (j := 128) rfl) rfl (s7 c1 c2) ?_
      refine b_stk [uI (M (x0 + 3) (x3 + x6)), uI (dsw (((x3 + x6) - x5))), uR 24 (x0 + 3)] (by rw [ds_get_ne (by omega)] <;> rfl) ?_
      refine b_stk [uI (M (x0 + 3) (x3 + x6)), uI ((x3 + x6) - x5), uR 24 (x0 + 3)] (by rw [dsw_b (s8 c1 c2) (by decide)]) ?_
      refine b_iastore (d18 (j := 129) rfl) rfl (s8 c1 c2) ?_
      refine b_iinc [uR 5 x0, uI x1, uI x2, uI x3, uI x4, uI x5, uI (x6 + 1), uX 0] (d18 (j := 130) rfl) rfl (by decide) (s9 c1 c2) rfl ?_
      refine b_goto (d18 (j := 131) rfl) ?_
      exact (k3 c1 c2)
def L19 : List (Nat × Instr × Nat × Nat) := [(0, .aload_n 0, 1, 0), (1, .getfield 62, 4, 0), (4, .getfield 185, 7, 0), (7, .getfield 135, 10, 0), (10, .istore_n 2, 11, 0), (11, .iconst 0, 12, 0), (12, .istore_n 3, 13, 0), (13, .iload_n 3, 14, 0), (14, .iload_n 2, 15, 0), (15, .aload_n 0, 16, 0), (16, .getfield 62, 19, 0), (19, .getfield 140, 22, 0), (22, .getfield 135, 25, 0), (25, .iadd, 26, 0), (26, .if_icmp .ge 136, 29, 162), (29, .iload_n 3, 30, 0), (30, .iload_n 2, 31, 0), (31, .if_icmp .lt 7, 34, 38), (34, .iconst 1, 35, 0), (35, .goto 4, 38, 39), (38, .iconst 0, 39, 0), (39, .istore 4, 41, 0), (41, .iload 4, 43, 0), (43, .ifCond .eq 13, 46, 56), (46, .aload_n 0, 47, 0), (47, .getfield 62, 50, 0), (50, .getfield 140, 53, 0), (53, .goto 10, 56, 63), (56, .aload_n 0, 57, 0), (57, .getfield 62, 60, 0), (60, .getfield 185, 63, 0), (63, .astore 5, 65, 0), (65, .iload 4, 67, 0), (67, .ifCond .eq 9, 70, 76), (70, .iload_n 3, 71, 0), (71, .iload_n 2, 72, 0), (72, .isub, 73, 0), (73, .goto 4, 76, 77), (76, .iload_n 3, 77, 0), (77, .istore 6, 79, 0), (79, .iload 4, 81, 0), (81, .ifCond .eq 23, 84, 104), (84, .aload 5, 86, 0), (86, .getfield 143, 89, 0), (89, .iload 6, 91, 0), (91, .iaload, 92, 0), (92, .iconst 1, 93, 0), (93, .if_icmp .ne 7, 96, 100), (96, .iconst 1, 97, 0), (97, .goto 19, 100, 116), (100, .iconst 0, 101, 0), (101, .goto 15, 104, 116), (104, .aload_n 0, 105, 0), (105, .getfield 12, 108, 0), (108, .getfield 188, 111, 0), (111, .iload 6, 113, 0), (113, .invokestatic 113, 116, 0), (116, .istore 7, 118, 0), (118, .iload 7, 120, 0), (120, .ifCond .eq 36, 123, 156), (123, .aload 5, 125, 0), (125, .getfield 149, 128, 0), (128, .iload 6, 130, 0), (130, .iaload, 131, 0), (131, .iload_n 1, 132, 0), (132, .if_icmp .ne 24, 135, 156), (135, .aload_n 0, 136, 0), (136, .iload_n 1, 137, 0), (137, .aload 5, 139, 0), (139, .getfield 152, 142, 0), (142, .iload 6, 144, 0), (144, .iaload, 145, 0), (145, .aload 5, 147, 0), (147, .getfield 155, 150, 0), (150, .iload 6, 152, 0), (152, .iaload, 153, 0), (153, .invokevirtual 191, 156, 0), (156, .iinc 3 1, 159, 0), (159, .goto (-146), 162, 13), (162, .return_, 163, 0)]
set_option maxRecDepth 100000 in
theorem L19_ok : L19.all (dck 19) = true := by decide +kernel
theorem d19 {j pc nx tg : Nat} {ins : Instr} (hj : L19[j]? = some (pc, ins, nx, tg)) : dcd 19 pc ins nx tg := dcl_ok L19_ok hj
set_option maxRecDepth 100000 in
set_option maxHeartbeats 4000000 in
theorem r19_0 {x0 x1 : Int}  {M : dsMem} {Q : bQT} (k1 : bB 19 13 [uR 5 x0, uI x1, uI (M 35 0), uI 0, uX 0, uX 0, uX 0, uX 0] [] M Q) :
    bB 19 0 [uR 5 x0, uI x1, uX 0, uX 0, uX 0, uX 0, uX 0, uX 0] [] M Q := by
  refine b_aload_n (d19 (j := 0) rfl) rfl ?_
  refine b_getRA (d19 (j := 1) rfl) rfl rfl rfl rfl ?_
  refine b_getR (d19 (j := 2) rfl) rfl rfl rfl rfl ?_
  refine b_stk [uR 2 35] rfl ?_
  refine b_getI (d19 (j := 3) rfl) rfl rfl rfl rfl (Or.inl rfl) ?_
  refine b_stk [uI (M 35 0)] rfl ?_
  refine b_istore_n [uR 5 x0, uI x1, uI (M 35 0), uX 0, uX 0, uX 0, uX 0, uX 0] (d19 (j := 4) rfl) (by decide) rfl ?_
  refine b_iconst (d19 (j := 5) rfl) (by decide) ?_
  refine b_istore_n [uR 5 x0, uI x1, uI (M 35 0), uI 0, uX 0, uX 0, uX 0, uX 0] (d19 (j := 6) rfl) (by decide) rfl ?_
  exact k1
set_option maxRecDepth 100000 in
set_option maxHeartbeats 4000000 in
theorem r19_13 {x0 x1 x2 x3 : Int} {R1 : dsMem → Prop} {R2 : dsMem → Prop} {M : dsMem} {Q : bQT} (s1 : -2147483648 ≤ (x2 + (M 40 0)) ∧ (x2 + (M 40 0)) < 2147483648 := by intros; omega) (k1 : ((x2 + (M 40 0)) ≤ x3) → Q [] M) (s2 : (¬ (x2 + (M 40 0)) ≤ x3) → (x3 < x2) → (¬ (dsAnd (dsShr (M (x0 + 1) 2) x3) 1 = 1)) → -2147483648 ≤ x3 + 1 ∧ x3 + 1 < 2147483648 := by intros; omega) (k2 : (¬ (x2 + (M 40 0)) ≤ x3) → (x3 < x2) → (¬ (dsAnd (dsShr (M (x0 + 1) 2) x3) 1 = 1)) → bB 19 13 [uR 5 x0, uI x1, uI x2, uI (x3 + 1), uX 0, uX 0, uX 0, uX 0] [] M Q) (s3 : (¬ (x2 + (M 40 0)) ≤ x3) → (x3 < x2) → ((dsAnd (dsShr (M (x0 + 1) 2) x3) 1 = 1)) → 0 ≤ x3 ∧ x3 < 6 := by intros; omega) (s4 : (¬ (x2 + (M 40 0)) ≤ x3) → (x3 < x2) → ((dsAnd (dsShr (M (x0 + 1) 2) x3) 1 = 1)) → (¬ (M 39 x3) = x1) → -2147483648 ≤ x3 + 1 ∧ x3 + 1 < 2147483648 := by intros; omega) (k3 : (¬ (x2 + (M 40 0)) ≤ x3) → (x3 < x2) → ((dsAnd (dsShr (M (x0 + 1) 2) x3) 1 = 1)) → (¬ (M 39 x3) = x1) → bB 19 13 [uR 5 x0, uI x1, uI x2, uI (x3 + 1), uX 0, uX 0, uX 0, uX 0] [] M Q) (hA1 : (¬ (x2 + (M 40 0)) ≤ x3) → (x3 < x2) → ((dsAnd (dsShr (M (x0 + 1) 2) x3) 1 = 1)) → ((M 39 x3) = x1) → bCt 20 [uR 5 x0, uI x1, uI (M 37 x3), uI (M 38 x3), uX 0] M (fun _ => []) R1) (s5 : (¬ (x2 + (M 40 0)) ≤ x3) → (x3 < x2) → ((dsAnd (dsShr (M (x0 + 1) 2) x3) 1 = 1)) → ((M 39 x3) = x1) → ∀ M1 : dsMem, R1 M1 → -2147483648 ≤ x3 + 1 ∧ x3 + 1 < 2147483648 := by intros; omega) (k4 : (¬ (x2 + (M 40 0)) ≤ x3) → (x3 < x2) → ((dsAnd (dsShr (M (x0 + 1) 2) x3) 1 = 1)) → ((M 39 x3) = x1) → ∀ M1 : dsMem, R1 M1 → bB 19 13 [uR 5 x0, uI x1, uI x2, uI (x3 + 1), uX 0, uX 0, uX 0, uX 0] [] M1 Q) (s6 : (¬ (x2 + (M 40 0)) ≤ x3) → (¬ x3 < x2) → -2147483648 ≤ (x3 - x2) ∧ (x3 - x2) < 2147483648 := by intros; omega) (s7 : (¬ (x2 + (M 40 0)) ≤ x3) → (¬ x3 < x2) → 0 ≤ (x3 - x2) ∧ (x3 - x2) < 30 := by intros; omega) (s8 : (¬ (x2 + (M 40 0)) ≤ x3) → (¬ x3 < x2) → (¬ (M 41 (x3 - x2)) = 1) → -2147483648 ≤ x3 + 1 ∧ x3 + 1 < 2147483648 := by intros; omega) (k5 : (¬ (x2 + (M 40 0)) ≤ x3) → (¬ x3 < x2) → (¬ (M 41 (x3 - x2)) = 1) → bB 19 13 [uR 5 x0, uI x1, uI x2, uI (x3 + 1), uX 0, uX 0, uX 0, uX 0] [] M Q) (s9 : (¬ (x2 + (M 40 0)) ≤ x3) → (¬ x3 < x2) → ((M 41 (x3 - x2)) = 1) → (¬ (M 44 (x3 - x2)) = x1) → -2147483648 ≤ x3 + 1 ∧ x3 + 1 < 2147483648 := by intros; omega) (k6 : (¬ (x2 + (M 40 0)) ≤ x3) → (¬ x3 < x2) → ((M 41 (x3 - x2)) = 1) → (¬ (M 44 (x3 - x2)) = x1) → bB 19 13 [uR 5 x0, uI x1, uI x2, uI (x3 + 1), uX 0, uX 0, uX 0, uX 0] [] M Q) (hA2 : (¬ (x2 + (M 40 0)) ≤ x3) → (¬ x3 < x2) → ((M 41 (x3 - x2)) = 1) → ((M 44 (x3 - x2)) = x1) → bCt 20 [uR 5 x0, uI x1, uI (M 42 (x3 - x2)), uI (M 43 (x3 - x2)), uX 0] M (fun _ => []) R2) (s10 : (¬ (x2 + (M 40 0)) ≤ x3) → (¬ x3 < x2) → ((M 41 (x3 - x2)) = 1) → ((M 44 (x3 - x2)) = x1) → ∀ M2 : dsMem, R2 M2 → -2147483648 ≤ x3 + 1 ∧ x3 + 1 < 2147483648 := by intros; omega) (k7 : (¬ (x2 + (M 40 0)) ≤ x3) → (¬ x3 < x2) → ((M 41 (x3 - x2)) = 1) → ((M 44 (x3 - x2)) = x1) → ∀ M2 : dsMem, R2 M2 → bB 19 13 [uR 5 x0, uI x1, uI x2, uI (x3 + 1), uX 0, uX 0, uX 0, uX 0] [] M2 Q) :
    bB 19 13 [uR 5 x0, uI x1, uI x2, uI x3, uX 0, uX 0, uX 0, uX 0] [] M Q := by
  refine b_iload_n (d19 (j := 7) rfl) rfl ?_
  refine b_iload_n (d19 (j := 8) rfl) rfl ?_
  refine b_aload_n (d19 (j := 9) rfl) rfl ?_
  refine b_getRA (d19 (j := 10) rfl) rfl rfl rfl rfl ?_
  refine b_getR (d19 (j := 11) rfl) rfl rfl rfl rfl ?_
  refine b_stk [uR 3 40, uI x2, uI x3] rfl ?_
  refine b_getI (d19 (j := 12) rfl) rfl rfl rfl rfl (Or.inl rfl) ?_
  refine b_stk [uI (M 40 0), uI x2, uI x3] rfl ?_
  refine b_iadd (d19 (j := 13) rfl) rfl rfl ?_
  refine b_stk [uI (x2 + (M 40 0)), uI x3] (by rw [dsw_r s1]) ?_
  refine b_icmp_ge (d19 (j := 14) rfl) (fun c1 => ?_) (fun c1 => ?_)
  ·
    exact b_vret (d19 (j := 79) rfl) rfl (k1 c1)
  ·
    refine b_iload_n (d19 (j := 15) rfl) rfl ?_
    refine b_iload_n (d19 (j := 16) rfl) rfl ?_
    refine b_icmp_lt (d19 (j := 17) rfl) (fun c2 => ?_) (fun c2 => ?_)
    ·
      refine b_iconst (d19 (j := 20) rfl) (by decide) ?_
      refine b_istore [uR 5 x0, uI x1, uI x2, uI x3, uI 0, uX 0, uX 0, uX 0] (d19 (j := 21) rfl) (by decide) rfl ?_
      refine b_iload (d19 (j := 22) rfl) rfl ?_
      refine b_if_eq (d19 (j := 23) rfl) (fun _ => ?_) (fun q => absurd q (by decide))
      refine b_aload_n (d19 (j := 28) rfl) rfl ?_
      refine b_getRA (d19 (j := 29) rfl) rfl rfl rfl rfl ?_
      refine b_getR (d19 (j := 30) rfl) rfl rfl rfl rfl ?_
      refine b_stk [uR 2 35] rfl ?_
      refine b_astore [uR 5 x0, uI x1, uI x2, uI x3, uI 0, uR 2 35, uX 0, uX 0] (d19 (j := 31) rfl) (by decide) rfl ?_
      refine b_iload (d19 (j := 32) rfl) rfl ?_
      refine b_if_eq (d19 (j := 33) rfl) (fun _ => ?_) (fun q => absurd q (by decide))
      refine b_iload_n (d19 (j := 38) rfl) rfl ?_
      refine b_istore [uR 5 x0, uI x1, uI x2, uI x3, uI 0, uR 2 35, uI x3, uX 0] (d19 (j := 39) rfl) (by decide) rfl ?_
      refine b_iload (d19 (j := 40) rfl) rfl ?_
      refine b_if_eq (d19 (j := 41) rfl) (fun _ => ?_) (fun q => absurd q (by decide))
      refine b_aload_n (d19 (j := 52) rfl) rfl ?_
      refine b_getR (d19 (j := 53) rfl) rfl rfl rfl rfl ?_
      refine b_getI (d19 (j := 54) rfl) rfl rfl rfl rfl (Or.inl rfl) ?_
      refine b_stk [uI (M (x0 + 1) 2)] rfl ?_
      refine b_iload (d19 (j := 55) rfl) rfl ?_
      refine b_callS (d19 (j := 56) rfl) (Or.inr rfl) rfl (bCk_mk (n := 0) (k := 2) (by decide +kernel) rfl rfl) (pu145 ?_)
      refine b_stk [uI (if (dsAnd (dsShr (M (x0 + 1) 2) x3) 1 = 1) then 1 else 0)] rfl ?_
      refine b_istore [uR 5 x0, uI x1, uI x2, uI x3, uI 0, uR 2 35, uI x3, uI (if (dsAnd (dsShr (M (x0 + 1) 2) x3) 1 = 1) then 1 else 0)] (d19 (j := 57) rfl) (by decide) rfl ?_
      refine b_iload (d19 (j := 58) rfl) rfl ?_
      refine b_ifeqP (d19 (j := 59) rfl) (fun c6 => ?_) (fun c6 => ?_)
      ·
        refine b_iinc [uR 5 x0, uI x1, uI x2, uI (x3 + 1), uI 0, uR 2 35, uI x3, uI (if (dsAnd (dsShr (M (x0 + 1) 2) x3) 1 = 1) then 1 else 0)] (d19 (j := 77) rfl) rfl (by decide) (s2 c1 c2 c6) rfl ?_
        refine b_goto (d19 (j := 78) rfl) ?_
        exact bB_le _ (bLe_s (bLe_s (bLe_s (bLe_s (bLe_x (bLe_x (bLe_x (bLe_x bLe_nil)))))))) (k2 c1 c2 c6)
      ·
        refine b_aload (d19 (j := 60) rfl) rfl ?_
        refine b_getR (d19 (j := 61) rfl) rfl rfl rfl rfl ?_
        refine b_stk [uR 21 39] rfl ?_
        refine b_iload (d19 (j := 62) rfl) rfl ?_
        refine b_iaload (d19 (j := 63) rfl) rfl (s3 c1 c2 c6) ?_
        refine b_iload_n (d19 (j := 64) rfl) rfl ?_
        refine b_icmp_ne (d19 (j := 65) rfl) (fun c7 => ?_) (fun c7 => ?_)
        ·
          refine b_iinc [uR 5 x0, uI x1, uI x2, uI (x3 + 1), uI 0, uR 2 35, uI x3, uI (if (dsAnd (dsShr (M (x0 + 1) 2) x3) 1 = 1) then 1 else 0)] (d19 (j := 77) rfl) rfl (by decide) (s4 c1 c2 c6 c7) rfl ?_
          refine b_goto (d19 (j := 78) rfl) ?_
          exact bB_le _ (bLe_s (bLe_s (bLe_s (bLe_s (bLe_x (bLe_x (bLe_x (bLe_x bLe_nil)))))))) (k3 c1 c2 c6 c7)
        ·
          refine b_aload_n (d19 (j := 66) rfl) rfl ?_
          refine b_iload_n (d19 (j := 67) rfl) rfl ?_
          refine b_aload (d19 (j := 68) rfl) rfl ?_
          refine b_getR (d19 (j := 69) rfl) rfl rfl rfl rfl ?_
          refine b_stk [uR 21 37, uI x1, uR 5 x0] rfl ?_
          refine b_iload (d19 (j := 70) rfl) rfl ?_
          refine b_iaload (d19 (j := 71) rfl) rfl (s3 c1 c2 c6) ?_
          refine b_aload (d19 (j := 72) rfl) rfl ?_
          refine b_getR (d19 (j := 73) rfl) rfl rfl rfl rfl ?_
          refine b_stk [uR 21 38, uI (M 37 x3), uI x1, uR 5 x0] rfl ?_
          refine b_iload (d19 (j := 74) rfl) rfl ?_
          refine b_iaload (d19 (j := 75) rfl) rfl (s3 c1 c2 c6) ?_
          refine b_callV (d19 (j := 76) rfl) rfl rfl (Or.inl rfl) rfl (bCk_mk (n := 0) (k := 4) (by decide +kernel) rfl rfl) ((hA1 c1 c2 c6 c7) _ (fun M1 hR1 => ?_))
          refine b_stk [] rfl ?_
          refine b_iinc [uR 5 x0, uI x1, uI x2, uI (x3 + 1), uI 0, uR 2 35, uI x3, uI (if (dsAnd (dsShr (M (x0 + 1) 2) x3) 1 = 1) then 1 else 0)] (d19 (j := 77) rfl) rfl (by decide) (s5 c1 c2 c6 c7 M1 hR1) rfl ?_
          refine b_goto (d19 (j := 78) rfl) ?_
          exact bB_le _ (bLe_s (bLe_s (bLe_s (bLe_s (bLe_x (bLe_x (bLe_x (bLe_x bLe_nil)))))))) (k4 c1 c2 c6 c7 M1 hR1)
    ·
      refine b_iconst (d19 (j := 18) rfl) (by decide) ?_
      refine b_goto (d19 (j := 19) rfl) ?_
      refine b_istore [uR 5 x0, uI x1, uI x2, uI x3, uI 1, uX 0, uX 0, uX 0] (d19 (j := 21) rfl) (by decide) rfl ?_
      refine b_iload (d19 (j := 22) rfl) rfl ?_
      refine b_if_eq (d19 (j := 23) rfl) (fun q => absurd q (by decide)) (fun _ => ?_)
      refine b_aload_n (d19 (j := 24) rfl) rfl ?_
      refine b_getRA (d19 (j := 25) rfl) rfl rfl rfl rfl ?_
      refine b_getR (d19 (j := 26) rfl) rfl rfl rfl rfl ?_
      refine b_stk [uR 3 40] rfl ?_
      refine b_goto (d19 (j := 27) rfl) ?_
      refine b_astore [uR 5 x0, uI x1, uI x2, uI x3, uI 1, uR 3 40, uX 0, uX 0] (d19 (j := 31) rfl) (by decide) rfl ?_
      refine b_iload (d19 (j := 32) rfl) rfl ?_
      refine b_if_eq (d19 (j := 33) rfl) (fun q => absurd q (by decide)) (fun _ => ?_)
      refine b_iload_n (d19 (j := 34) rfl) rfl ?_
      refine b_iload_n (d19 (j := 35) rfl) rfl ?_
      refine b_isub (d19 (j := 36) rfl) rfl rfl ?_
      refine b_goto (d19 (j := 37) rfl) ?_
      refine b_stk [uI (x3 - x2)] (by rw [dsw_r (s6 c1 c2)]) ?_
      refine b_istore [uR 5 x0, uI x1, uI x2, uI x3, uI 1, uR 3 40, uI (x3 - x2), uX 0] (d19 (j := 39) rfl) (by decide) rfl ?_
      refine b_iload (d19 (j := 40) rfl) rfl ?_
      refine b_if_eq (d19 (j := 41) rfl) (fun q => absurd q (by decide)) (fun _ => ?_)
      refine b_aload (d19 (j := 42) rfl) rfl ?_
      refine b_getR (d19 (j := 43) rfl) rfl rfl rfl rfl ?_
      refine b_stk [uR 22 41] rfl ?_
      refine b_iload (d19 (j := 44) rfl) rfl ?_
      refine b_iaload (d19 (j := 45) rfl) rfl (s7 c1 c2) ?_
      refine b_iconst (d19 (j := 46) rfl) (by decide) ?_
      refine b_icmp_ne (d19 (j := 47) rfl) (fun c11 => ?_) (fun c11 => ?_)
      ·
        refine b_iconst (d19 (j := 50) rfl) (by decide) ?_
        refine b_goto (d19 (j := 51) rfl) ?_
        refine b_istore [uR 5 x0, uI x1, uI x2, uI x3, uI 1, uR 3 40, uI (x3 - x2), uI 0] (d19 (j := 57) rfl) (by decide) rfl ?_
        refine b_iload (d19 (j := 58) rfl) rfl ?_
        refine b_if_eq (d19 (j := 59) rfl) (fun _ => ?_) (fun q => absurd q (by decide))
        refine b_iinc [uR 5 x0, uI x1, uI x2, uI (x3 + 1), uI 1, uR 3 40, uI (x3 - x2), uI 0] (d19 (j := 77) rfl) rfl (by decide) (s8 c1 c2 c11) rfl ?_
        refine b_goto (d19 (j := 78) rfl) ?_
        exact bB_le _ (bLe_s (bLe_s (bLe_s (bLe_s (bLe_x (bLe_x (bLe_x (bLe_x bLe_nil)))))))) (k5 c1 c2 c11)
      ·
        refine b_iconst (d19 (j := 48) rfl) (by decide) ?_
        refine b_goto (d19 (j := 49) rfl) ?_
        refine b_istore [uR 5 x0, uI x1, uI x2, uI x3, uI 1, uR 3 40, uI (x3 - x2), uI 1] (d19 (j := 57) rfl) (by decide) rfl ?_
        refine b_iload (d19 (j := 58) rfl) rfl ?_
        refine b_if_eq (d19 (j := 59) rfl) (fun q => absurd q (by decide)) (fun _ => ?_)
        refine b_aload (d19 (j := 60) rfl) rfl ?_
        refine b_getR (d19 (j := 61) rfl) rfl rfl rfl rfl ?_
        refine b_stk [uR 22 44] rfl ?_
        refine b_iload (d19 (j := 62) rfl) rfl ?_
        refine b_iaload (d19 (j := 63) rfl) rfl (s7 c1 c2) ?_
        refine b_iload_n (d19 (j := 64) rfl) rfl ?_
        refine b_icmp_ne (d19 (j := 65) rfl) (fun c14 => ?_) (fun c14 => ?_)
        ·
          refine b_iinc [uR 5 x0, uI x1, uI x2, uI (x3 + 1), uI 1, uR 3 40, uI (x3 - x2), uI 1] (d19 (j := 77) rfl) rfl (by decide) (s9 c1 c2 c11 c14) rfl ?_
          refine b_goto (d19 (j := 78) rfl) ?_
          exact bB_le _ (bLe_s (bLe_s (bLe_s (bLe_s (bLe_x (bLe_x (bLe_x (bLe_x bLe_nil)))))))) (k6 c1 c2 c11 c14)
        ·
          refine b_aload_n (d19 (j := 66) rfl) rfl ?_
          refine b_iload_n (d19 (j := 67) rfl) rfl ?_
          refine b_aload (d19 (j := 68) rfl) rfl ?_
          refine b_getR (d19 (j := 69) rfl) rfl rfl rfl rfl ?_
          refine b_stk [uR 22 42, uI x1, uR 5 x0] rfl ?_
          refine b_iload (d19 (j := 70) rfl) rfl ?_
          refine b_iaload (d19 (j := 71) rfl) rfl (s7 c1 c2) ?_
          refine b_aload (d19 (j := 72) rfl) rfl ?_
          refine b_getR (d19 (j := 73) rfl) rfl rfl rfl rfl ?_
          refine b_stk [uR 22 43, uI (M 42 (x3 - x2)), uI x1, uR 5 x0] rfl ?_
          refine b_iload (d19 (j := 74) rfl) rfl ?_
          refine b_iaload (d19 (j := 75) rfl) rfl (s7 c1 c2) ?_
          refine b_callV (d19 (j := 76) rfl) rfl rfl (Or.inl rfl) rfl (bCk_mk (n := 0) (k := 4) (by decide +kernel) rfl rfl) ((hA2 c1 c2 c11 c14) _ (fun M2 hR2 => ?_))
          refine b_stk [] rfl ?_
          refine b_iinc [uR 5 x0, uI x1, uI x2, uI (x3 + 1), uI 1, uR 3 40, uI (x3 - x2), uI 1] (d19 (j := 77) rfl) rfl (by decide) (s10 c1 c2 c11 c14 M2 hR2) rfl ?_
          refine b_goto (d19 (j := 78) rfl) ?_
          exact bB_le _ (bLe_s (bLe_s (bLe_s (bLe_s (bLe_x (bLe_x (bLe_x (bLe_x bLe_nil)))))))) (k7 c1 c2 c11 c14 M2 hR2)
def L20 : List (Nat × Instr × Nat × Nat) := [(0, .aload_n 0, 1, 0), (1, .getfield 40, 4, 0), (4, .iload_n 1, 5, 0), (5, .dup2, 6, 0), (6, .iaload, 7, 0), (7, .aload_n 0, 8, 0), (8, .iload_n 2, 9, 0), (9, .iload_n 1, 10, 0), (10, .iconst 1, 11, 0), (11, .iadd, 12, 0), (12, .invokestatic 117, 15, 0), (15, .iload_n 3, 16, 0), (16, .invokevirtual 178, 19, 0), (19, .iadd, 20, 0), (20, .iastore, 21, 0), (21, .iconst 1, 22, 0), (22, .istore 4, 24, 0), (24, .iload 4, 26, 0), (26, .iconst 5, 27, 0), (27, .if_icmp .gt 49, 30, 76), (30, .aload_n 0, 31, 0), (31, .getfield 43, 34, 0), (34, .iload 4, 36, 0), (36, .dup2, 37, 0), (37, .iaload, 38, 0), (38, .aload_n 0, 39, 0), (39, .getfield 52, 42, 0), (42, .iload 4, 44, 0), (44, .iaload, 45, 0), (45, .iadd, 46, 0), (46, .iastore, 47, 0), (47, .aload_n 0, 48, 0), (48, .getfield 52, 51, 0), (51, .iload 4, 53, 0), (53, .iaload, 54, 0), (54, .ifCond .le 16, 57, 70), (57, .aload_n 0, 58, 0), (58, .getfield 46, 61, 0), (61, .iload_n 2, 62, 0), (62, .dup2, 63, 0), (63, .iaload, 64, 0), (64, .iconst 1, 65, 0), (65, .iload 4, 67, 0), (67, .ishl, 68, 0), (68, .ior, 69, 0), (69, .iastore, 70, 0), (70, .iinc 4 1, 73, 0), (73, .goto (-49), 76, 24), (76, .return_, 77, 0)]
set_option maxRecDepth 100000 in
theorem L20_ok : L20.all (dck 20) = true := by decide +kernel
theorem d20 {j pc nx tg : Nat} {ins : Instr} (hj : L20[j]? = some (pc, ins, nx, tg)) : dcd 20 pc ins nx tg := dcl_ok L20_ok hj
set_option maxRecDepth 100000 in
set_option maxHeartbeats 4000000 in
theorem r20_0 {x0 x1 x2 x3 : Int} {R1 : dsMem → Prop} {g1 : dsMem → Int} {M : dsMem} {Q : bQT} (s1 : 0 ≤ x1 ∧ x1 < 12 := by intros; omega) (s2 : -2147483648 ≤ (x1 + 1) ∧ (x1 + 1) < 2147483648 := by intros; omega) (s3 : -2147483648 ≤ (((x1 + 1) * 6) + x2) ∧ (((x1 + 1) * 6) + x2) < 2147483648 := by intros; omega) (hA1 : bCt 18 [uR 5 x0, uI (((x1 + 1) * 6) + x2), uI x3, uX 0, uX 0, uX 0, uX 0, uX 0] M (fun M1 => [uI (g1 M1)]) R1) (k1 : ∀ M1 : dsMem, R1 M1 → bB 20 24 [uR 5 x0, uX 0, uI x2, uX 0, uI 1] [] (dsSet M1 (x0 + 9) x1 (dsw (((M (x0 + 9) x1) + (g1 M1))))) Q) :
    bB 20 0 [uR 5 x0, uI x1, uI x2, uI x3, uX 0] [] M Q := by
  refine b_aload_n (d20 (j := 0) rfl) rfl ?_
  refine b_getR (d20 (j := 1) rfl) rfl rfl rfl rfl ?_
  refine b_iload_n (d20 (j := 2) rfl) rfl ?_
  refine b_dup2 (d20 (j := 3) rfl) ?_
  refine b_iaload (d20 (j := 4) rfl) rfl s1 ?_
  refine b_aload_n (d20 (j := 5) rfl) rfl ?_
  refine b_iload_n (d20 (j := 6) rfl) rfl ?_
  refine b_iload_n (d20 (j := 7) rfl) rfl ?_
  refine b_iconst (d20 (j := 8) rfl) (by decide) ?_
  refine b_iadd (d20 (j := 9) rfl) rfl rfl ?_
  refine b_stk [uI (x1 + 1), uI x2, uR 5 x0, uI (M (x0 + 9) x1), uI x1, uR 28 (x0 + 9)] (by rw [dsw_r s2]) ?_
  refine b_callS (d20 (j := 10) rfl) (Or.inr rfl) rfl (bCk_mk (n := 4) (k := 2) (by decide +kernel) rfl rfl) (pu146 s3 ?_)
  refine b_stk [uI (((x1 + 1) * 6) + x2), uR 5 x0, uI (M (x0 + 9) x1), uI x1, uR 28 (x0 + 9)] rfl ?_
  refine b_iload_n (d20 (j := 11) rfl) rfl ?_
  refine b_callV (d20 (j := 12) rfl) rfl rfl (Or.inl rfl) rfl (bCk_mk (n := 3) (k := 3) (by decide +kernel) rfl rfl) ((hA1) _ (fun M1 hR1 => ?_))
  refine b_stk [uI (g1 M1), uI (M (x0 + 9) x1), uI x1, uR 28 (x0 + 9)] rfl ?_
  refine b_iadd (d20 (j := 13) rfl) rfl rfl ?_
  refine b_iastore (d20 (j := 14) rfl) rfl s1 ?_
  refine b_iconst (d20 (j := 15) rfl) (by decide) ?_
  refine b_istore [uR 5 x0, uI x1, uI x2, uI x3, uI 1] (d20 (j := 16) rfl) (by decide) rfl ?_
  exact bB_le _ (bLe_s (bLe_x (bLe_s (bLe_x (bLe_s bLe_nil))))) (k1 M1 hR1)
set_option maxRecDepth 100000 in
set_option maxHeartbeats 4000000 in
theorem r20_24 {x0 x2 x4 : Int}  {M : dsMem} {Q : bQT} (k1 : (5 < x4) → Q [] M) (s1 : (¬ 5 < x4) → 0 ≤ x4 ∧ x4 < 6 := by intros; omega) (s2 : (¬ 5 < x4) → ((M (x0 + 13) x4) ≤ 0) → -2147483648 ≤ x4 + 1 ∧ x4 + 1 < 2147483648 := by intros; omega) (k2 : (¬ 5 < x4) → ((M (x0 + 13) x4) ≤ 0) → bB 20 24 [uR 5 x0, uX 0, uI x2, uX 0, uI (x4 + 1)] [] (dsSet M (x0 + 10) x4 (dsw (((M (x0 + 10) x4) + (M (x0 + 13) x4))))) Q) (s3 : (¬ 5 < x4) → (¬ (M (x0 + 13) x4) ≤ 0) → 0 ≤ x2 ∧ x2 < 6 := by intros; omega) (s4 : (¬ 5 < x4) → (¬ (M (x0 + 13) x4) ≤ 0) → -2147483648 ≤ x4 + 1 ∧ x4 + 1 < 2147483648 := by intros; omega) (k3 : (¬ 5 < x4) → (¬ (M (x0 + 13) x4) ≤ 0) → bB 20 24 [uR 5 x0, uX 0, uI x2, uX 0, uI (x4 + 1)] [] (dsSet (dsSet M (x0 + 10) x4 (dsw (((M (x0 + 10) x4) + (M (x0 + 13) x4))))) (x0 + 11) x2 (dsOr (M (x0 + 11) x2) (dsShl 1 x4))) Q) :
    bB 20 24 [uR 5 x0, uX 0, uI x2, uX 0, uI x4] [] M Q := by
  refine b_iload (d20 (j := 17) rfl) rfl ?_
  refine b_iconst (d20 (j := 18) rfl) (by decide) ?_
  refine b_icmp_gt (d20 (j := 19) rfl) (fun c1 => ?_) (fun c1 => ?_)
  ·
    exact b_vret (d20 (j := 48) rfl) rfl (k1 c1)
  ·
    refine b_aload_n (d20 (j := 20) rfl) rfl ?_
    refine b_getR (d20 (j := 21) rfl) rfl rfl rfl rfl ?_
    refine b_iload (d20 (j := 22) rfl) rfl ?_
    refine b_dup2 (d20 (j := 23) rfl) ?_
    refine b_iaload (d20 (j := 24) rfl) rfl (s1 c1) ?_
    refine b_aload_n (d20 (j := 25) rfl) rfl ?_
    refine b_getR (d20 (j := 26) rfl) rfl rfl rfl rfl ?_
    refine b_iload (d20 (j := 27) rfl) rfl ?_
    refine b_iaload (d20 (j := 28) rfl) rfl (s1 c1) ?_
    refine b_iadd (d20 (j := 29) rfl) rfl rfl ?_
    refine b_iastore (d20 (j := 30) rfl) rfl (s1 c1) ?_
    refine b_aload_n (d20 (j := 31) rfl) rfl ?_
    refine b_getR (d20 (j := 32) rfl) rfl rfl rfl rfl ?_
    refine b_iload (d20 (j := 33) rfl) rfl ?_
    refine b_iaload (d20 (j := 34) rfl) rfl (s1 c1) ?_
    refine b_stk [uI (M (x0 + 13) x4)] (by rw [ds_get_ne (by omega)] <;> rfl) ?_
    refine b_if_le (d20 (j := 35) rfl) (fun c2 => ?_) (fun c2 => ?_)
    ·
      refine b_iinc [uR 5 x0, uX 0, uI x2, uX 0, uI (x4 + 1)] (d20 (j := 46) rfl) rfl (by decide) (s2 c1 c2) rfl ?_
      refine b_goto (d20 (j := 47) rfl) ?_
      exact (k2 c1 c2)
    ·
      refine b_aload_n (d20 (j := 36) rfl) rfl ?_
      refine b_getR (d20 (j := 37) rfl) rfl rfl rfl rfl ?_
      refine b_iload_n (d20 (j := 38) rfl) rfl ?_
      refine b_dup2 (d20 (j := 39) rfl) ?_
      refine b_iaload (d20 (j := 40) rfl) rfl (s3 c1 c2) ?_
      refine b_stk [uI (M (x0 + 11) x2), uI x2, uR 21 (x0 + 11)] (by rw [ds_get_ne (by omega)] <;> rfl) ?_
      refine b_iconst (d20 (j := 41) rfl) (by decide) ?_
      refine b_iload (d20 (j := 42) rfl) rfl ?_
      refine b_ishl (d20 (j := 43) rfl) ?_
      refine b_ior (d20 (j := 44) rfl) ?_
      refine b_iastore (d20 (j := 45) rfl) rfl (s3 c1 c2) ?_
      refine b_iinc [uR 5 x0, uX 0, uI x2, uX 0, uI (x4 + 1)] (d20 (j := 46) rfl) rfl (by decide) (s4 c1 c2) rfl ?_
      refine b_goto (d20 (j := 47) rfl) ?_
      exact (k3 c1 c2)
def L21 : List (Nat × Instr × Nat × Nat) := [(0, .iconst 0, 1, 0), (1, .istore_n 2, 2, 0), (2, .iload_n 2, 3, 0), (3, .aload_n 0, 4, 0), (4, .getfield 62, 7, 0), (7, .getfield 194, 10, 0), (10, .if_icmp .ge 122, 13, 132), (13, .iload_n 2, 14, 0), (14, .aload_n 0, 15, 0), (15, .getfield 12, 18, 0), (18, .getfield 197, 21, 0), (21, .if_icmp .ne 13, 24, 34), (24, .aload_n 0, 25, 0), (25, .getfield 12, 28, 0), (28, .getfield 200, 31, 0), (31, .goto 12, 34, 43), (34, .aload_n 0, 35, 0), (35, .getfield 62, 38, 0), (38, .getfield 203, 41, 0), (41, .iload_n 2, 42, 0), (42, .iaload, 43, 0), (43, .istore_n 3, 44, 0), (44, .aload_n 0, 45, 0), (45, .iload_n 2, 46, 0), (46, .iload_n 1, 47, 0), (47, .iconst 1, 48, 0), (48, .iadd, 49, 0), (49, .invokevirtual 206, 52, 0), (52, .iload_n 3, 53, 0), (53, .isub, 54, 0), (54, .istore 4, 56, 0), (56, .aload_n 0, 57, 0), (57, .getfield 34, 60, 0), (60, .iload_n 1, 61, 0), (61, .iconst 1, 62, 0), (62, .iadd, 63, 0), (63, .iaload, 64, 0), (64, .iload_n 2, 65, 0), (65, .invokestatic 113, 68, 0), (68, .ifCond .eq 58, 71, 126), (71, .iload 4, 73, 0), (73, .ifCond .le 53, 76, 126), (76, .iload_n 1, 77, 0), (77, .iconst 1, 78, 0), (78, .iadd, 79, 0), (79, .iconst 3, 80, 0), (80, .imul, 81, 0), (81, .iload_n 2, 82, 0), (82, .iadd, 83, 0), (83, .istore 5, 85, 0), (85, .aload_n 0, 86, 0), (86, .getfield 31, 89, 0), (89, .iload 5, 91, 0), (91, .dup2, 92, 0), (92, .iaload, 93, 0), (93, .iload 4, 95, 0), (95, .iconst 5, 96, 0), (96, .idiv, 97, 0), (97, .iconst 1, 98, 0), (98, .iadd, 99, 0), (99, .iadd, 100, 0), (100, .iastore, 101, 0), (101, .aload_n 0, 102, 0), (102, .getfield 31, 105, 0), (105, .iload 5, 107, 0), (107, .iaload, 108, 0), (108, .aload_n 0, 109, 0), (109, .getfield 62, 112, 0), (112, .getfield 209, 115, 0), (115, .iload_n 2, 116, 0), (116, .iaload, 117, 0), (117, .if_icmp .lt 9, 120, 126), (120, .aload_n 0, 121, 0), (121, .iload_n 2, 122, 0), (122, .iload_n 1, 123, 0), (123, .invokevirtual 212, 126, 0), (126, .iinc 2 1, 129, 0), (129, .goto (-127), 132, 2), (132, .return_, 133, 0)]
set_option maxRecDepth 100000 in
theorem L21_ok : L21.all (dck 21) = true := by decide +kernel
theorem d21 {j pc nx tg : Nat} {ins : Instr} (hj : L21[j]? = some (pc, ins, nx, tg)) : dcd 21 pc ins nx tg := dcl_ok L21_ok hj
set_option maxRecDepth 100000 in
set_option maxHeartbeats 4000000 in
theorem r21_0 {x0 x1 : Int}  {M : dsMem} {Q : bQT} (k1 : bB 21 2 [uR 5 x0, uI x1, uI 0, uX 0, uX 0, uX 0] [] M Q) :
    bB 21 0 [uR 5 x0, uI x1, uX 0, uX 0, uX 0, uX 0] [] M Q := by
  refine b_iconst (d21 (j := 0) rfl) (by decide) ?_
  refine b_istore_n [uR 5 x0, uI x1, uI 0, uX 0, uX 0, uX 0] (d21 (j := 1) rfl) (by decide) rfl ?_
  exact k1
set_option maxRecDepth 100000 in
set_option maxHeartbeats 4000000 in
theorem r21_2 {x0 x1 x2 : Int} {R1 : dsMem → Prop} {R2 : dsMem → Prop} {M : dsMem} {Q : bQT} (k1 : ((M 24 4) ≤ x2) → Q [] M) (s1 : (¬ (M 24 4) ≤ x2) → (¬ x2 = (M (x0 + 1) 7)) → 0 ≤ x2 ∧ x2 < 3 := by intros; omega) (s2 : (¬ (M 24 4) ≤ x2) → (¬ x2 = (M (x0 + 1) 7)) → -2147483648 ≤ (x1 + 1) ∧ (x1 + 1) < 2147483648 := by intros; omega) (s3 : (¬ (M 24 4) ≤ x2) → (¬ x2 = (M (x0 + 1) 7)) → ∀ i23_1 : Int, ∀ a23_1 : Int, 0 ≤ i23_1 → i23_1 < (M 24 5) → 0 ≤ i23_1 ∧ i23_1 < 6 := by intros; omega) (s4 : (¬ (M 24 4) ≤ x2) → (¬ x2 = (M (x0 + 1) 7)) → ∀ i23_1 : Int, ∀ a23_1 : Int, 0 ≤ i23_1 → i23_1 < (M 24 5) → -2147483648 ≤ i23_1 + 1 ∧ i23_1 + 1 < 2147483648 := by intros; omega) (s5 : (¬ (M 24 4) ≤ x2) → (¬ x2 = (M (x0 + 1) 7)) → ∀ i23_1 : Int, ∀ a23_1 : Int, 0 ≤ i23_1 → i23_1 < (M 24 5) → ((M 29 i23_1) = x2) → -2147483648 ≤ (((x1 + 1) * 6) + i23_1) ∧ (((x1 + 1) * 6) + i23_1) < 2147483648 := by intros; omega) (s6 : (¬ (M 24 4) ≤ x2) → (¬ x2 = (M (x0 + 1) 7)) → ∀ i23_1 : Int, ∀ a23_1 : Int, 0 ≤ i23_1 → i23_1 < (M 24 5) → ((M 29 i23_1) = x2) → 0 ≤ (((x1 + 1) * 6) + i23_1) ∧ (((x1 + 1) * 6) + i23_1) < 78 := by intros; omega) (s7 : (¬ (M 24 4) ≤ x2) → (¬ x2 = (M (x0 + 1) 7)) → 0 ≤ (x1 + 1) ∧ (x1 + 1) < 13 := by intros; omega) (s8 : (¬ (M 24 4) ≤ x2) → (¬ x2 = (M (x0 + 1) 7)) → (¬ (dsAnd (dsShr (M (x0 + 7) (x1 + 1)) x2) 1 = 1)) → -2147483648 ≤ x2 + 1 ∧ x2 + 1 < 2147483648 := by intros; omega) (k2 : (¬ (M 24 4) ≤ x2) → (¬ x2 = (M (x0 + 1) 7)) → (¬ (dsAnd (dsShr (M (x0 + 7) (x1 + 1)) x2) 1 = 1)) → bB 21 2 [uR 5 x0, uI x1, uI (x2 + 1), uX 0, uX 0, uX 0] [] M Q) (s9 : (¬ (M 24 4) ≤ x2) → (¬ x2 = (M (x0 + 1) 7)) → ((dsAnd (dsShr (M (x0 + 7) (x1 + 1)) x2) 1 = 1)) → ((dsw (((v23 M x0 x2 (x1 + 1)) - (M 25 x2)))) ≤ 0) → -2147483648 ≤ x2 + 1 ∧ x2 + 1 < 2147483648 := by intros; omega) (k3 : (¬ (M 24 4) ≤ x2) → (¬ x2 = (M (x0 + 1) 7)) → ((dsAnd (dsShr (M (x0 + 7) (x1 + 1)) x2) 1 = 1)) → ((dsw (((v23 M x0 x2 (x1 + 1)) - (M 25 x2)))) ≤ 0) → bB 21 2 [uR 5 x0, uI x1, uI (x2 + 1), uX 0, uX 0, uX 0] [] M Q) (s10 : (¬ (M 24 4) ≤ x2) → (¬ x2 = (M (x0 + 1) 7)) → ((dsAnd (dsShr (M (x0 + 7) (x1 + 1)) x2) 1 = 1)) → (¬ (dsw (((v23 M x0 x2 (x1 + 1)) - (M 25 x2)))) ≤ 0) → -2147483648 ≤ (((x1 + 1) * 3) + x2) ∧ (((x1 + 1) * 3) + x2) < 2147483648 := by intros; omega) (s11 : (¬ (M 24 4) ≤ x2) → (¬ x2 = (M (x0 + 1) 7)) → ((dsAnd (dsShr (M (x0 + 7) (x1 + 1)) x2) 1 = 1)) → (¬ (dsw (((v23 M x0 x2 (x1 + 1)) - (M 25 x2)))) ≤ 0) → 0 ≤ (((x1 + 1) * 3) + x2) ∧ (((x1 + 1) * 3) + x2) < 39 := by intros; omega) (s12 : (¬ (M 24 4) ≤ x2) → (¬ x2 = (M (x0 + 1) 7)) → ((dsAnd (dsShr (M (x0 + 7) (x1 + 1)) x2) 1 = 1)) → (¬ (dsw (((v23 M x0 x2 (x1 + 1)) - (M 25 x2)))) ≤ 0) → (0 ≤ (dsw (((v23 M x0 x2 (x1 + 1)) - (M 25 x2)))) ∧ (dsw (((v23 M x0 x2 (x1 + 1)) - (M 25 x2)))) < 2147483648) ∧ (0 : Int) < 5 := by intros; omega) (s13 : (¬ (M 24 4) ≤ x2) → (¬ x2 = (M (x0 + 1) 7)) → ((dsAnd (dsShr (M (x0 + 7) (x1 + 1)) x2) 1 = 1)) → (¬ (dsw (((v23 M x0 x2 (x1 + 1)) - (M 25 x2)))) ≤ 0) → ((dsw (((M (x0 + 6) (((x1 + 1) * 3) + x2)) + (((dsw (((v23 M x0 x2 (x1 + 1)) - (M 25 x2)))) / 5) + 1)))) < ((dsSet M (x0 + 6) (((x1 + 1) * 3) + x2) (dsw (((M (x0 + 6) (((x1 + 1) * 3) + x2)) + (((dsw (((v23 M x0 x2 (x1 + 1)) - (M 25 x2)))) / 5) + 1))))) 26 x2)) → -2147483648 ≤ x2 + 1 ∧ x2 + 1 < 2147483648 := by intros; omega) (k4 : (¬ (M 24 4) ≤ x2) → (¬ x2 = (M (x0 + 1) 7)) → ((dsAnd (dsShr (M (x0 + 7) (x1 + 1)) x2) 1 = 1)) → (¬ (dsw (((v23 M x0 x2 (x1 + 1)) - (M 25 x2)))) ≤ 0) → ((dsw (((M (x0 + 6) (((x1 + 1) * 3) + x2)) + (((dsw (((v23 M x0 x2 (x1 + 1)) - (M 25 x2)))) / 5) + 1)))) < ((dsSet M (x0 + 6) (((x1 + 1) * 3) + x2) (dsw (((M (x0 + 6) (((x1 + 1) * 3) + x2)) + (((dsw (((v23 M x0 x2 (x1 + 1)) - (M 25 x2)))) / 5) + 1))))) 26 x2)) → bB 21 2 [uR 5 x0, uI x1, uI (x2 + 1), uX 0, uX 0, uX 0] [] (dsSet M (x0 + 6) (((x1 + 1) * 3) + x2) (dsw (((M (x0 + 6) (((x1 + 1) * 3) + x2)) + (((dsw (((v23 M x0 x2 (x1 + 1)) - (M 25 x2)))) / 5) + 1))))) Q) (hA1 : (¬ (M 24 4) ≤ x2) → (¬ x2 = (M (x0 + 1) 7)) → ((dsAnd (dsShr (M (x0 + 7) (x1 + 1)) x2) 1 = 1)) → (¬ (dsw (((v23 M x0 x2 (x1 + 1)) - (M 25 x2)))) ≤ 0) → (¬ (dsw (((M (x0 + 6) (((x1 + 1) * 3) + x2)) + (((dsw (((v23 M x0 x2 (x1 + 1)) - (M 25 x2)))) / 5) + 1)))) < ((dsSet M (x0 + 6) (((x1 + 1) * 3) + x2) (dsw (((M (x0 + 6) (((x1 + 1) * 3) + x2)) + (((dsw (((v23 M x0 x2 (x1 + 1)) - (M 25 x2)))) / 5) + 1))))) 26 x2)) → bCt 22 [uR 5 x0, uI x2, uI x1, uX 0, uX 0] (dsSet M (x0 + 6) (((x1 + 1) * 3) + x2) (dsw (((M (x0 + 6) (((x1 + 1) * 3) + x2)) + (((dsw (((v23 M x0 x2 (x1 + 1)) - (M 25 x2)))) / 5) + 1))))) (fun _ => []) R1) (s14 : (¬ (M 24 4) ≤ x2) → (¬ x2 = (M (x0 + 1) 7)) → ((dsAnd (dsShr (M (x0 + 7) (x1 + 1)) x2) 1 = 1)) → (¬ (dsw (((v23 M x0 x2 (x1 + 1)) - (M 25 x2)))) ≤ 0) → (¬ (dsw (((M (x0 + 6) (((x1 + 1) * 3) + x2)) + (((dsw (((v23 M x0 x2 (x1 + 1)) - (M 25 x2)))) / 5) + 1)))) < ((dsSet M (x0 + 6) (((x1 + 1) * 3) + x2) (dsw (((M (x0 + 6) (((x1 + 1) * 3) + x2)) + (((dsw (((v23 M x0 x2 (x1 + 1)) - (M 25 x2)))) / 5) + 1))))) 26 x2)) → ∀ M1 : dsMem, R1 M1 → -2147483648 ≤ x2 + 1 ∧ x2 + 1 < 2147483648 := by intros; omega) (k5 : (¬ (M 24 4) ≤ x2) → (¬ x2 = (M (x0 + 1) 7)) → ((dsAnd (dsShr (M (x0 + 7) (x1 + 1)) x2) 1 = 1)) → (¬ (dsw (((v23 M x0 x2 (x1 + 1)) - (M 25 x2)))) ≤ 0) → (¬ (dsw (((M (x0 + 6) (((x1 + 1) * 3) + x2)) + (((dsw (((v23 M x0 x2 (x1 + 1)) - (M 25 x2)))) / 5) + 1)))) < ((dsSet M (x0 + 6) (((x1 + 1) * 3) + x2) (dsw (((M (x0 + 6) (((x1 + 1) * 3) + x2)) + (((dsw (((v23 M x0 x2 (x1 + 1)) - (M 25 x2)))) / 5) + 1))))) 26 x2)) → ∀ M1 : dsMem, R1 M1 → bB 21 2 [uR 5 x0, uI x1, uI (x2 + 1), uX 0, uX 0, uX 0] [] M1 Q) (s15 : (¬ (M 24 4) ≤ x2) → (x2 = (M (x0 + 1) 7)) → -2147483648 ≤ (x1 + 1) ∧ (x1 + 1) < 2147483648 := by intros; omega) (s16 : (¬ (M 24 4) ≤ x2) → (x2 = (M (x0 + 1) 7)) → ∀ i23_1 : Int, ∀ a23_1 : Int, 0 ≤ i23_1 → i23_1 < (M 24 5) → 0 ≤ i23_1 ∧ i23_1 < 6 := by intros; omega) (s17 : (¬ (M 24 4) ≤ x2) → (x2 = (M (x0 + 1) 7)) → ∀ i23_1 : Int, ∀ a23_1 : Int, 0 ≤ i23_1 → i23_1 < (M 24 5) → -2147483648 ≤ i23_1 + 1 ∧ i23_1 + 1 < 2147483648 := by intros; omega) (s18 : (¬ (M 24 4) ≤ x2) → (x2 = (M (x0 + 1) 7)) → ∀ i23_1 : Int, ∀ a23_1 : Int, 0 ≤ i23_1 → i23_1 < (M 24 5) → ((M 29 i23_1) = x2) → -2147483648 ≤ (((x1 + 1) * 6) + i23_1) ∧ (((x1 + 1) * 6) + i23_1) < 2147483648 := by intros; omega) (s19 : (¬ (M 24 4) ≤ x2) → (x2 = (M (x0 + 1) 7)) → ∀ i23_1 : Int, ∀ a23_1 : Int, 0 ≤ i23_1 → i23_1 < (M 24 5) → ((M 29 i23_1) = x2) → 0 ≤ (((x1 + 1) * 6) + i23_1) ∧ (((x1 + 1) * 6) + i23_1) < 78 := by intros; omega) (s20 : (¬ (M 24 4) ≤ x2) → (x2 = (M (x0 + 1) 7)) → 0 ≤ (x1 + 1) ∧ (x1 + 1) < 13 := by intros; omega) (s21 : (¬ (M 24 4) ≤ x2) → (x2 = (M (x0 + 1) 7)) → (¬ (dsAnd (dsShr (M (x0 + 7) (x1 + 1)) x2) 1 = 1)) → -2147483648 ≤ x2 + 1 ∧ x2 + 1 < 2147483648 := by intros; omega) (k6 : (¬ (M 24 4) ≤ x2) → (x2 = (M (x0 + 1) 7)) → (¬ (dsAnd (dsShr (M (x0 + 7) (x1 + 1)) x2) 1 = 1)) → bB 21 2 [uR 5 x0, uI x1, uI (x2 + 1), uX 0, uX 0, uX 0] [] M Q) (s22 : (¬ (M 24 4) ≤ x2) → (x2 = (M (x0 + 1) 7)) → ((dsAnd (dsShr (M (x0 + 7) (x1 + 1)) x2) 1 = 1)) → ((dsw (((v23 M x0 x2 (x1 + 1)) - (M (x0 + 1) 8)))) ≤ 0) → -2147483648 ≤ x2 + 1 ∧ x2 + 1 < 2147483648 := by intros; omega) (k7 : (¬ (M 24 4) ≤ x2) → (x2 = (M (x0 + 1) 7)) → ((dsAnd (dsShr (M (x0 + 7) (x1 + 1)) x2) 1 = 1)) → ((dsw (((v23 M x0 x2 (x1 + 1)) - (M (x0 + 1) 8)))) ≤ 0) → bB 21 2 [uR 5 x0, uI x1, uI (x2 + 1), uX 0, uX 0, uX 0] [] M Q) (s23 : (¬ (M 24 4) ≤ x2) → (x2 = (M (x0 + 1) 7)) → ((dsAnd (dsShr (M (x0 + 7) (x1 + 1)) x2) 1 = 1)) → (¬ (dsw (((v23 M x0 x2 (x1 + 1)) - (M (x0 + 1) 8)))) ≤ 0) → -2147483648 ≤ (((x1 + 1) * 3) + x2) ∧ (((x1 + 1) * 3) + x2) < 2147483648 := by intros; omega) (s24 : (¬ (M 24 4) ≤ x2) → (x2 = (M (x0 + 1) 7)) → ((dsAnd (dsShr (M (x0 + 7) (x1 + 1)) x2) 1 = 1)) → (¬ (dsw (((v23 M x0 x2 (x1 + 1)) - (M (x0 + 1) 8)))) ≤ 0) → 0 ≤ (((x1 + 1) * 3) + x2) ∧ (((x1 + 1) * 3) + x2) < 39 := by intros; omega) (s25 : (¬ (M 24 4) ≤ x2) → (x2 = (M (x0 + 1) 7)) → ((dsAnd (dsShr (M (x0 + 7) (x1 + 1)) x2) 1 = 1)) → (¬ (dsw (((v23 M x0 x2 (x1 + 1)) - (M (x0 + 1) 8)))) ≤ 0) → (0 ≤ (dsw (((v23 M x0 x2 (x1 + 1)) - (M (x0 + 1) 8)))) ∧ (dsw (((v23 M x0 x2 (x1 + 1)) - (M (x0 + 1) 8)))) < 2147483648) ∧ (0 : Int) < 5 := by intros; omega) (s26 : (¬ (M 24 4) ≤ x2) → (x2 = (M (x0 + 1) 7)) → ((dsAnd (dsShr (M (x0 + 7) (x1 + 1)) x2) 1 = 1)) → (¬ (dsw (((v23 M x0 x2 (x1 + 1)) - (M (x0 + 1) 8)))) ≤ 0) → 0 ≤ x2 ∧ x2 < 3 := by intros; omega) (s27 : (¬ (M 24 4) ≤ x2) → (x2 = (M (x0 + 1) 7)) → ((dsAnd (dsShr (M (x0 + 7) (x1 + 1)) x2) 1 = 1)) → (¬ (dsw (((v23 M x0 x2 (x1 + 1)) - (M (x0 + 1) 8)))) ≤ 0) → ((dsw (((M (x0 + 6) (((x1 + 1) * 3) + x2)) + (((dsw (((v23 M x0 x2 (x1 + 1)) - (M (x0 + 1) 8)))) / 5) + 1)))) < ((dsSet M (x0 + 6) (((x1 + 1) * 3) + x2) (dsw (((M (x0 + 6) (((x1 + 1) * 3) + x2)) + (((dsw (((v23 M x0 x2 (x1 + 1)) - (M (x0 + 1) 8)))) / 5) + 1))))) 26 x2)) → -2147483648 ≤ x2 + 1 ∧ x2 + 1 < 2147483648 := by intros; omega) (k8 : (¬ (M 24 4) ≤ x2) → (x2 = (M (x0 + 1) 7)) → ((dsAnd (dsShr (M (x0 + 7) (x1 + 1)) x2) 1 = 1)) → (¬ (dsw (((v23 M x0 x2 (x1 + 1)) - (M (x0 + 1) 8)))) ≤ 0) → ((dsw (((M (x0 + 6) (((x1 + 1) * 3) + x2)) + (((dsw (((v23 M x0 x2 (x1 + 1)) - (M (x0 + 1) 8)))) / 5) + 1)))) < ((dsSet M (x0 + 6) (((x1 + 1) * 3) + x2) (dsw (((M (x0 + 6) (((x1 + 1) * 3) + x2)) + (((dsw (((v23 M x0 x2 (x1 + 1)) - (M (x0 + 1) 8)))) / 5) + 1))))) 26 x2)) → bB 21 2 [uR 5 x0, uI x1, uI (x2 + 1), uX 0, uX 0, uX 0] [] (dsSet M (x0 + 6) (((x1 + 1) * 3) + x2) (dsw (((M (x0 + 6) (((x1 + 1) * 3) + x2)) + (((dsw (((v23 M x0 x2 (x1 + 1)) - (M (x0 + 1) 8)))) / 5) + 1))))) Q) (hA2 : (¬ (M 24 4) ≤ x2) → (x2 = (M (x0 + 1) 7)) → ((dsAnd (dsShr (M (x0 + 7) (x1 + 1)) x2) 1 = 1)) → (¬ (dsw (((v23 M x0 x2 (x1 + 1)) - (M (x0 + 1) 8)))) ≤ 0) → (¬ (dsw (((M (x0 + 6) (((x1 + 1) * 3) + x2)) + (((dsw (((v23 M x0 x2 (x1 + 1)) - (M (x0 + 1) 8)))) / 5) + 1)))) < ((dsSet M (x0 + 6) (((x1 + 1) * 3) + x2) (dsw (((M (x0 + 6) (((x1 + 1) * 3) + x2)) + (((dsw (((v23 M x0 x2 (x1 + 1)) - (M (x0 + 1) 8)))) / 5) + 1))))) 26 x2)) → bCt 22 [uR 5 x0, uI x2, uI x1, uX 0, uX 0] (dsSet M (x0 + 6) (((x1 + 1) * 3) + x2) (dsw (((M (x0 + 6) (((x1 + 1) * 3) + x2)) + (((dsw (((v23 M x0 x2 (x1 + 1)) - (M (x0 + 1) 8)))) / 5) + 1))))) (fun _ => []) R2) (s28 : (¬ (M 24 4) ≤ x2) → (x2 = (M (x0 + 1) 7)) → ((dsAnd (dsShr (M (x0 + 7) (x1 + 1)) x2) 1 = 1)) → (¬ (dsw (((v23 M x0 x2 (x1 + 1)) - (M (x0 + 1) 8)))) ≤ 0) → (¬ (dsw (((M (x0 + 6) (((x1 + 1) * 3) + x2)) + (((dsw (((v23 M x0 x2 (x1 + 1)) - (M (x0 + 1) 8)))) / 5) + 1)))) < ((dsSet M (x0 + 6) (((x1 + 1) * 3) + x2) (dsw (((M (x0 + 6) (((x1 + 1) * 3) + x2)) + (((dsw (((v23 M x0 x2 (x1 + 1)) - (M (x0 + 1) 8)))) / 5) + 1))))) 26 x2)) → ∀ M2 : dsMem, R2 M2 → -2147483648 ≤ x2 + 1 ∧ x2 + 1 < 2147483648 := by intros; omega) (k9 : (¬ (M 24 4) ≤ x2) → (x2 = (M (x0 + 1) 7)) → ((dsAnd (dsShr (M (x0 + 7) (x1 + 1)) x2) 1 = 1)) → (¬ (dsw (((v23 M x0 x2 (x1 + 1)) - (M (x0 + 1) 8)))) ≤ 0) → (¬ (dsw (((M (x0 + 6) (((x1 + 1) * 3) + x2)) + (((dsw (((v23 M x0 x2 (x1 + 1)) - (M (x0 + 1) 8)))) / 5) + 1)))) < ((dsSet M (x0 + 6) (((x1 + 1) * 3) + x2) (dsw (((M (x0 + 6) (((x1 + 1) * 3) + x2)) + (((dsw (((v23 M x0 x2 (x1 + 1)) - (M (x0 + 1) 8)))) / 5) + 1))))) 26 x2)) → ∀ M2 : dsMem, R2 M2 → bB 21 2 [uR 5 x0, uI x1, uI (x2 + 1), uX 0, uX 0, uX 0] [] M2 Q) :
    bB 21 2 [uR 5 x0, uI x1, uI x2, uX 0, uX 0, uX 0] [] M Q := by
  refine b_iload_n (d21 (j := 2) rfl) rfl ?_
  refine b_aload_n (d21 (j := 3) rfl) rfl ?_
  refine b_getRA (d21 (j := 4) rfl) rfl rfl rfl rfl ?_
  refine b_getI (d21 (j := 5) rfl) rfl rfl rfl rfl (Or.inl rfl) ?_
  refine b_stk [uI (M 24 4), uI x2] rfl ?_
  refine b_icmp_ge (d21 (j := 6) rfl) (fun c1 => ?_) (fun c1 => ?_)
  ·
    exact b_vret (d21 (j := 78) rfl) rfl (k1 c1)
  ·
    refine b_iload_n (d21 (j := 7) rfl) rfl ?_
    refine b_aload_n (d21 (j := 8) rfl) rfl ?_
    refine b_getR (d21 (j := 9) rfl) rfl rfl rfl rfl ?_
    refine b_getI (d21 (j := 10) rfl) rfl rfl rfl rfl (Or.inl rfl) ?_
    refine b_stk [uI (M (x0 + 1) 7), uI x2] rfl ?_
    refine b_icmp_ne (d21 (j := 11) rfl) (fun c2 => ?_) (fun c2 => ?_)
    ·
      refine b_aload_n (d21 (j := 16) rfl) rfl ?_
      refine b_getRA (d21 (j := 17) rfl) rfl rfl rfl rfl ?_
      refine b_getR (d21 (j := 18) rfl) rfl rfl rfl rfl ?_
      refine b_stk [uR 23 25] rfl ?_
      refine b_iload_n (d21 (j := 19) rfl) rfl ?_
      refine b_iaload (d21 (j := 20) rfl) rfl (s1 c1 c2) ?_
      refine b_istore_n [uR 5 x0, uI x1, uI x2, uI (M 25 x2), uX 0, uX 0] (d21 (j := 21) rfl) (by decide) rfl ?_
      refine b_aload_n (d21 (j := 22) rfl) rfl ?_
      refine b_iload_n (d21 (j := 23) rfl) rfl ?_
      refine b_iload_n (d21 (j := 24) rfl) rfl ?_
      refine b_iconst (d21 (j := 25) rfl) (by decide) ?_
      refine b_iadd (d21 (j := 26) rfl) rfl rfl ?_
      refine b_stk [uI (x1 + 1), uI x2, uR 5 x0] (by rw [dsw_r (s2 c1 c2)]) ?_
      refine b_callV (d21 (j := 27) rfl) rfl rfl (Or.inl rfl) rfl (bCk_mk (n := 0) (k := 3) (by decide +kernel) rfl rfl) (fx23 (s3 c1 c2) (s4 c1 c2) (s5 c1 c2) (s6 c1 c2) ?_)
      refine b_stk [uI (v23 M x0 x2 (x1 + 1))] rfl ?_
      refine b_iload_n (d21 (j := 28) rfl) rfl ?_
      refine b_isub (d21 (j := 29) rfl) rfl rfl ?_
      refine b_istore [uR 5 x0, uI x1, uI x2, uI (M 25 x2), uI (dsw (((v23 M x0 x2 (x1 + 1)) - (M 25 x2)))), uX 0] (d21 (j := 30) rfl) (by decide) rfl ?_
      refine b_aload_n (d21 (j := 31) rfl) rfl ?_
      refine b_getR (d21 (j := 32) rfl) rfl rfl rfl rfl ?_
      refine b_iload_n (d21 (j := 33) rfl) rfl ?_
      refine b_iconst (d21 (j := 34) rfl) (by decide) ?_
      refine b_iadd (d21 (j := 35) rfl) rfl rfl ?_
      refine b_stk [uI (x1 + 1), uR 27 (x0 + 7)] (by rw [dsw_b (s7 c1 c2) (by decide)]) ?_
      refine b_iaload (d21 (j := 36) rfl) rfl (s7 c1 c2) ?_
      refine b_iload_n (d21 (j := 37) rfl) rfl ?_
      refine b_callS (d21 (j := 38) rfl) (Or.inr rfl) rfl (bCk_mk (n := 0) (k := 2) (by decide +kernel) rfl rfl) (pu145 ?_)
      refine b_stk [uI (if (dsAnd (dsShr (M (x0 + 7) (x1 + 1)) x2) 1 = 1) then 1 else 0)] rfl ?_
      refine b_ifeqP (d21 (j := 39) rfl) (fun c3 => ?_) (fun c3 => ?_)
      ·
        refine b_iinc [uR 5 x0, uI x1, uI (x2 + 1), uI (M 25 x2), uI (dsw (((v23 M x0 x2 (x1 + 1)) - (M 25 x2)))), uX 0] (d21 (j := 76) rfl) rfl (by decide) (s8 c1 c2 c3) rfl ?_
        refine b_goto (d21 (j := 77) rfl) ?_
        exact bB_le _ (bLe_s (bLe_s (bLe_s (bLe_x (bLe_x (bLe_s bLe_nil)))))) (k2 c1 c2 c3)
      ·
        refine b_iload (d21 (j := 40) rfl) rfl ?_
        refine b_if_le (d21 (j := 41) rfl) (fun c4 => ?_) (fun c4 => ?_)
        ·
          refine b_iinc [uR 5 x0, uI x1, uI (x2 + 1), uI (M 25 x2), uI (dsw (((v23 M x0 x2 (x1 + 1)) - (M 25 x2)))), uX 0] (d21 (j := 76) rfl) rfl (by decide) (s9 c1 c2 c3 c4) rfl ?_
          refine b_goto (d21 (j := 77) rfl) ?_
          exact bB_le _ (bLe_s (bLe_s (bLe_s (bLe_x (bLe_x (bLe_s bLe_nil)))))) (k3 c1 c2 c3 c4)
        ·
          refine b_iload_n (d21 (j := 42) rfl) rfl ?_
          refine b_iconst (d21 (j := 43) rfl) (by decide) ?_
          refine b_iadd (d21 (j := 44) rfl) rfl rfl ?_
          refine b_iconst (d21 (j := 45) rfl) (by decide) ?_
          refine b_imul (d21 (j := 46) rfl) (dsw_dsw _) rfl ?_
          refine b_iload_n (d21 (j := 47) rfl) rfl ?_
          refine b_iadd (d21 (j := 48) rfl) (dsw_dsw _) rfl ?_
          refine b_stk [uI (((x1 + 1) * 3) + x2)] (by rw [dsw_r (s10 c1 c2 c3 c4)]) ?_
          refine b_istore [uR 5 x0, uI x1, uI x2, uI (M 25 x2), uI (dsw (((v23 M x0 x2 (x1 + 1)) - (M 25 x2)))), uI (((x1 + 1) * 3) + x2)] (d21 (j := 49) rfl) (by decide) rfl ?_
          refine b_aload_n (d21 (j := 50) rfl) rfl ?_
          refine b_getR (d21 (j := 51) rfl) rfl rfl rfl rfl ?_
          refine b_iload (d21 (j := 52) rfl) rfl ?_
          refine b_dup2 (d21 (j := 53) rfl) ?_
          refine b_iaload (d21 (j := 54) rfl) rfl (s11 c1 c2 c3 c4) ?_
          refine b_iload (d21 (j := 55) rfl) rfl ?_
          refine b_iconst (d21 (j := 56) rfl) (by decide) ?_
          refine b_idivP (d21 (j := 57) rfl) (s12 c1 c2 c3 c4) ?_
          refine b_iconst (d21 (j := 58) rfl) (by decide) ?_
          refine b_iadd (d21 (j := 59) rfl) rfl rfl ?_
          refine b_iadd (d21 (j := 60) rfl) rfl (dsw_dsw _) ?_
          refine b_iastore (d21 (j := 61) rfl) rfl (s11 c1 c2 c3 c4) ?_
          refine b_aload_n (d21 (j := 62) rfl) rfl ?_
          refine b_getR (d21 (j := 63) rfl) rfl rfl rfl rfl ?_
          refine b_iload (d21 (j := 64) rfl) rfl ?_
          refine b_iaload (d21 (j := 65) rfl) rfl (s11 c1 c2 c3 c4) ?_
          refine b_stk [uI (dsw (((M (x0 + 6) (((x1 + 1) * 3) + x2)) + (((dsw (((v23 M x0 x2 (x1 + 1)) - (M 25 x2)))) / 5) + 1))))] (by rw [ds_get_eq] <;> rfl) ?_
          refine b_aload_n (d21 (j := 66) rfl) rfl ?_
          refine b_getRA (d21 (j := 67) rfl) rfl rfl rfl rfl ?_
          refine b_getR (d21 (j := 68) rfl) rfl rfl rfl rfl ?_
          refine b_stk [uR 23 26, uI (dsw (((M (x0 + 6) (((x1 + 1) * 3) + x2)) + (((dsw (((v23 M x0 x2 (x1 + 1)) - (M 25 x2)))) / 5) + 1))))] rfl ?_
          refine b_iload_n (d21 (j := 69) rfl) rfl ?_
          refine b_iaload (d21 (j := 70) rfl) rfl (s1 c1 c2) ?_
          refine b_icmp_lt (d21 (j := 71) rfl) (fun c5 => ?_) (fun c5 => ?_)
          ·
            refine b_iinc [uR 5 x0, uI x1, uI (x2 + 1), uI (M 25 x2), uI (dsw (((v23 M x0 x2 (x1 + 1)) - (M 25 x2)))), uI (((x1 + 1) * 3) + x2)] (d21 (j := 76) rfl) rfl (by decide) (s13 c1 c2 c3 c4 c5) rfl ?_
            refine b_goto (d21 (j := 77) rfl) ?_
            exact bB_le _ (bLe_s (bLe_s (bLe_s (bLe_x (bLe_x (bLe_x bLe_nil)))))) (k4 c1 c2 c3 c4 c5)
          ·
            refine b_aload_n (d21 (j := 72) rfl) rfl ?_
            refine b_iload_n (d21 (j := 73) rfl) rfl ?_
            refine b_iload_n (d21 (j := 74) rfl) rfl ?_
            refine b_callV (d21 (j := 75) rfl) rfl rfl (Or.inl rfl) rfl (bCk_mk (n := 0) (k := 3) (by decide +kernel) rfl rfl) ((hA1 c1 c2 c3 c4 c5) _ (fun M1 hR1 => ?_))
            refine b_stk [] rfl ?_
            refine b_iinc [uR 5 x0, uI x1, uI (x2 + 1), uI (M 25 x2), uI (dsw (((v23 M x0 x2 (x1 + 1)) - (M 25 x2)))), uI (((x1 + 1) * 3) + x2)] (d21 (j := 76) rfl) rfl (by decide) (s14 c1 c2 c3 c4 c5 M1 hR1) rfl ?_
            refine b_goto (d21 (j := 77) rfl) ?_
            exact bB_le _ (bLe_s (bLe_s (bLe_s (bLe_x (bLe_x (bLe_x bLe_nil)))))) (k5 c1 c2 c3 c4 c5 M1 hR1)
    ·
      refine b_aload_n (d21 (j := 12) rfl) rfl ?_
      refine b_getR (d21 (j := 13) rfl) rfl rfl rfl rfl ?_
      refine b_getI (d21 (j := 14) rfl) rfl rfl rfl rfl (Or.inl rfl) ?_
      refine b_stk [uI (M (x0 + 1) 8)] rfl ?_
      refine b_goto (d21 (j := 15) rfl) ?_
      refine b_istore_n [uR 5 x0, uI x1, uI x2, uI (M (x0 + 1) 8), uX 0, uX 0] (d21 (j := 21) rfl) (by decide) rfl ?_
      refine b_aload_n (d21 (j := 22) rfl) rfl ?_
      refine b_iload_n (d21 (j := 23) rfl) rfl ?_
      refine b_iload_n (d21 (j := 24) rfl) rfl ?_
      refine b_iconst (d21 (j := 25) rfl) (by decide) ?_
      refine b_iadd (d21 (j := 26) rfl) rfl rfl ?_
      refine b_stk [uI (x1 + 1), uI x2, uR 5 x0] (by rw [dsw_r (s15 c1 c2)]) ?_
      refine b_callV (d21 (j := 27) rfl) rfl rfl (Or.inl rfl) rfl (bCk_mk (n := 0) (k := 3) (by decide +kernel) rfl rfl) (fx23 (s16 c1 c2) (s17 c1 c2) (s18 c1 c2) (s19 c1 c2) ?_)
      refine b_stk [uI (v23 M x0 x2 (x1 + 1))] rfl ?_
      refine b_iload_n (d21 (j := 28) rfl) rfl ?_
      refine b_isub (d21 (j := 29) rfl) rfl rfl ?_
      refine b_istore [uR 5 x0, uI x1, uI x2, uI (M (x0 + 1) 8), uI (dsw (((v23 M x0 x2 (x1 + 1)) - (M (x0 + 1) 8)))), uX 0] (d21 (j := 30) rfl) (by decide) rfl ?_
      refine b_aload_n (d21 (j := 31) rfl) rfl ?_
      refine b_getR (d21 (j := 32) rfl) rfl rfl rfl rfl ?_
      refine b_iload_n (d21 (j := 33) rfl) rfl ?_
      refine b_iconst (d21 (j := 34) rfl) (by decide) ?_
      refine b_iadd (d21 (j := 35) rfl) rfl rfl ?_
      refine b_stk [uI (x1 + 1), uR 27 (x0 + 7)] (by rw [dsw_b (s20 c1 c2) (by decide)]) ?_
      refine b_iaload (d21 (j := 36) rfl) rfl (s20 c1 c2) ?_
      refine b_iload_n (d21 (j := 37) rfl) rfl ?_
      refine b_callS (d21 (j := 38) rfl) (Or.inr rfl) rfl (bCk_mk (n := 0) (k := 2) (by decide +kernel) rfl rfl) (pu145 ?_)
      refine b_stk [uI (if (dsAnd (dsShr (M (x0 + 7) (x1 + 1)) x2) 1 = 1) then 1 else 0)] rfl ?_
      refine b_ifeqP (d21 (j := 39) rfl) (fun c6 => ?_) (fun c6 => ?_)
      ·
        refine b_iinc [uR 5 x0, uI x1, uI (x2 + 1), uI (M (x0 + 1) 8), uI (dsw (((v23 M x0 x2 (x1 + 1)) - (M (x0 + 1) 8)))), uX 0] (d21 (j := 76) rfl) rfl (by decide) (s21 c1 c2 c6) rfl ?_
        refine b_goto (d21 (j := 77) rfl) ?_
        exact bB_le _ (bLe_s (bLe_s (bLe_s (bLe_x (bLe_x (bLe_s bLe_nil)))))) (k6 c1 c2 c6)
      ·
        refine b_iload (d21 (j := 40) rfl) rfl ?_
        refine b_if_le (d21 (j := 41) rfl) (fun c7 => ?_) (fun c7 => ?_)
        ·
          refine b_iinc [uR 5 x0, uI x1, uI (x2 + 1), uI (M (x0 + 1) 8), uI (dsw (((v23 M x0 x2 (x1 + 1)) - (M (x0 + 1) 8)))), uX 0] (d21 (j := 76) rfl) rfl (by decide) (s22 c1 c2 c6 c7) rfl ?_
          refine b_goto (d21 (j := 77) rfl) ?_
          exact bB_le _ (bLe_s (bLe_s (bLe_s (bLe_x (bLe_x (bLe_s bLe_nil)))))) (k7 c1 c2 c6 c7)
        ·
          refine b_iload_n (d21 (j := 42) rfl) rfl ?_
          refine b_iconst (d21 (j := 43) rfl) (by decide) ?_
          refine b_iadd (d21 (j := 44) rfl) rfl rfl ?_
          refine b_iconst (d21 (j := 45) rfl) (by decide) ?_
          refine b_imul (d21 (j := 46) rfl) (dsw_dsw _) rfl ?_
          refine b_iload_n (d21 (j := 47) rfl) rfl ?_
          refine b_iadd (d21 (j := 48) rfl) (dsw_dsw _) rfl ?_
          refine b_stk [uI (((x1 + 1) * 3) + x2)] (by rw [dsw_r (s23 c1 c2 c6 c7)]) ?_
          refine b_istore [uR 5 x0, uI x1, uI x2, uI (M (x0 + 1) 8), uI (dsw (((v23 M x0 x2 (x1 + 1)) - (M (x0 + 1) 8)))), uI (((x1 + 1) * 3) + x2)] (d21 (j := 49) rfl) (by decide) rfl ?_
          refine b_aload_n (d21 (j := 50) rfl) rfl ?_
          refine b_getR (d21 (j := 51) rfl) rfl rfl rfl rfl ?_
          refine b_iload (d21 (j := 52) rfl) rfl ?_
          refine b_dup2 (d21 (j := 53) rfl) ?_
          refine b_iaload (d21 (j := 54) rfl) rfl (s24 c1 c2 c6 c7) ?_
          refine b_iload (d21 (j := 55) rfl) rfl ?_
          refine b_iconst (d21 (j := 56) rfl) (by decide) ?_
          refine b_idivP (d21 (j := 57) rfl) (s25 c1 c2 c6 c7) ?_
          refine b_iconst (d21 (j := 58) rfl) (by decide) ?_
          refine b_iadd (d21 (j := 59) rfl) rfl rfl ?_
          refine b_iadd (d21 (j := 60) rfl) rfl (dsw_dsw _) ?_
          refine b_iastore (d21 (j := 61) rfl) rfl (s24 c1 c2 c6 c7) ?_
          refine b_aload_n (d21 (j := 62) rfl) rfl ?_
          refine b_getR (d21 (j := 63) rfl) rfl rfl rfl rfl ?_
          refine b_iload (d21 (j := 64) rfl) rfl ?_
          refine b_iaload (d21 (j := 65) rfl) rfl (s24 c1 c2 c6 c7) ?_
          refine b_stk [uI (dsw (((M (x0 + 6) (((x1 + 1) * 3) + x2)) + (((dsw (((v23 M x0 x2 (x1 + 1)) - (M (x0 + 1) 8)))) / 5) + 1))))] (by rw [ds_get_eq] <;> rfl) ?_
          refine b_aload_n (d21 (j := 66) rfl) rfl ?_
          refine b_getRA (d21 (j := 67) rfl) rfl rfl rfl rfl ?_
          refine b_getR (d21 (j := 68) rfl) rfl rfl rfl rfl ?_
          refine b_stk [uR 23 26, uI (dsw (((M (x0 + 6) (((x1 + 1) * 3) + x2)) + (((dsw (((v23 M x0 x2 (x1 + 1)) - (M (x0 + 1) 8)))) / 5) + 1))))] rfl ?_
          refine b_iload_n (d21 (j := 69) rfl) rfl ?_
          refine b_iaload (d21 (j := 70) rfl) rfl (s26 c1 c2 c6 c7) ?_
          refine b_icmp_lt (d21 (j := 71) rfl) (fun c8 => ?_) (fun c8 => ?_)
          ·
            refine b_iinc [uR 5 x0, uI x1, uI (x2 + 1), uI (M (x0 + 1) 8), uI (dsw (((v23 M x0 x2 (x1 + 1)) - (M (x0 + 1) 8)))), uI (((x1 + 1) * 3) + x2)] (d21 (j := 76) rfl) rfl (by decide) (s27 c1 c2 c6 c7 c8) rfl ?_
            refine b_goto (d21 (j := 77) rfl) ?_
            exact bB_le _ (bLe_s (bLe_s (bLe_s (bLe_x (bLe_x (bLe_x bLe_nil)))))) (k8 c1 c2 c6 c7 c8)
          ·
            refine b_aload_n (d21 (j := 72) rfl) rfl ?_
            refine b_iload_n (d21 (j := 73) rfl) rfl ?_
            refine b_iload_n (d21 (j := 74) rfl) rfl ?_
            refine b_callV (d21 (j := 75) rfl) rfl rfl (Or.inl rfl) rfl (bCk_mk (n := 0) (k := 3) (by decide +kernel) rfl rfl) ((hA2 c1 c2 c6 c7 c8) _ (fun M2 hR2 => ?_))
            refine b_stk [] rfl ?_
            refine b_iinc [uR 5 x0, uI x1, uI (x2 + 1), uI (M (x0 + 1) 8), uI (dsw (((v23 M x0 x2 (x1 + 1)) - (M (x0 + 1) 8)))), uI (((x1 + 1) * 3) + x2)] (d21 (j := 76) rfl) rfl (by decide) (s28 c1 c2 c6 c7 c8 M2 hR2) rfl ?_
            refine b_goto (d21 (j := 77) rfl) ?_
            exact bB_le _ (bLe_s (bLe_s (bLe_s (bLe_x (bLe_x (bLe_x bLe_nil)))))) (k9 c1 c2 c6 c7 c8 M2 hR2)
def L22 : List (Nat × Instr × Nat × Nat) := [(0, .aload_n 0, 1, 0), (1, .getfield 34, 4, 0), (4, .iload_n 2, 5, 0), (5, .iconst 1, 6, 0), (6, .iadd, 7, 0), (7, .dup2, 8, 0), (8, .iaload, 9, 0), (9, .iconst 1, 10, 0), (10, .iload_n 1, 11, 0), (11, .ishl, 12, 0), (12, .iconst (-1), 13, 0), (13, .ixor, 14, 0), (14, .iand, 15, 0), (15, .iastore, 16, 0), (16, .iconst 0, 17, 0), (17, .istore_n 3, 18, 0), (18, .iload_n 3, 19, 0), (19, .aload_n 0, 20, 0), (20, .getfield 62, 23, 0), (23, .getfield 100, 26, 0), (26, .if_icmp .ge 63, 29, 89), (29, .aload_n 0, 30, 0), (30, .getfield 62, 33, 0), (33, .getfield 168, 36, 0), (36, .iload_n 3, 37, 0), (37, .iaload, 38, 0), (38, .iload_n 1, 39, 0), (39, .if_icmp .ne 44, 42, 83), (42, .iload_n 3, 43, 0), (43, .iload_n 2, 44, 0), (44, .iconst 1, 45, 0), (45, .iadd, 46, 0), (46, .invokestatic 117, 49, 0), (49, .istore 4, 51, 0), (51, .aload_n 0, 52, 0), (52, .getfield 37, 55, 0), (55, .iload_n 2, 56, 0), (56, .dup2, 57, 0), (57, .iaload, 58, 0), (58, .aload_n 0, 59, 0), (59, .getfield 28, 62, 0), (62, .iload 4, 64, 0), (64, .iaload, 65, 0), (65, .iadd, 66, 0), (66, .iastore, 67, 0), (67, .aload_n 0, 68, 0), (68, .getfield 28, 71, 0), (71, .iload 4, 73, 0), (73, .iconst 0, 74, 0), (74, .iastore, 75, 0), (75, .aload_n 0, 76, 0), (76, .getfield 25, 79, 0), (79, .iload 4, 81, 0), (81, .iconst 0, 82, 0), (82, .iastore, 83, 0), (83, .iinc 3 1, 86, 0), (86, .goto (-68), 89, 18), (89, .return_, 90, 0)]
set_option maxRecDepth 100000 in
theorem L22_ok : L22.all (dck 22) = true := by decide +kernel
theorem d22 {j pc nx tg : Nat} {ins : Instr} (hj : L22[j]? = some (pc, ins, nx, tg)) : dcd 22 pc ins nx tg := dcl_ok L22_ok hj
set_option maxRecDepth 100000 in
set_option maxHeartbeats 4000000 in
theorem r22_0 {x0 x1 x2 : Int}  {M : dsMem} {Q : bQT} (s1 : 0 ≤ (x2 + 1) ∧ (x2 + 1) < 13 := by intros; omega) (k1 : bB 22 18 [uR 5 x0, uI x1, uI x2, uI 0, uX 0] [] (dsSet M (x0 + 7) (x2 + 1) (dsAnd (M (x0 + 7) (x2 + 1)) (dsXor (dsShl 1 x1) (-1)))) Q) :
    bB 22 0 [uR 5 x0, uI x1, uI x2, uX 0, uX 0] [] M Q := by
  refine b_aload_n (d22 (j := 0) rfl) rfl ?_
  refine b_getR (d22 (j := 1) rfl) rfl rfl rfl rfl ?_
  refine b_iload_n (d22 (j := 2) rfl) rfl ?_
  refine b_iconst (d22 (j := 3) rfl) (by decide) ?_
  refine b_iadd (d22 (j := 4) rfl) rfl rfl ?_
  refine b_stk [uI (x2 + 1), uR 27 (x0 + 7)] (by rw [dsw_b s1 (by decide)]) ?_
  refine b_dup2 (d22 (j := 5) rfl) ?_
  refine b_iaload (d22 (j := 6) rfl) rfl s1 ?_
  refine b_iconst (d22 (j := 7) rfl) (by decide) ?_
  refine b_iload_n (d22 (j := 8) rfl) rfl ?_
  refine b_ishl (d22 (j := 9) rfl) ?_
  refine b_iconst (d22 (j := 10) rfl) (by decide) ?_
  refine b_ixor (d22 (j := 11) rfl) ?_
  refine b_iand (d22 (j := 12) rfl) ?_
  refine b_iastore (d22 (j := 13) rfl) rfl s1 ?_
  refine b_iconst (d22 (j := 14) rfl) (by decide) ?_
  refine b_istore_n [uR 5 x0, uI x1, uI x2, uI 0, uX 0] (d22 (j := 15) rfl) (by decide) rfl ?_
  exact k1
set_option maxRecDepth 100000 in
set_option maxHeartbeats 4000000 in
theorem r22_18 {x0 x1 x2 x3 : Int}  {M : dsMem} {Q : bQT} (k1 : ((M 24 5) ≤ x3) → Q [] M) (s1 : (¬ (M 24 5) ≤ x3) → 0 ≤ x3 ∧ x3 < 6 := by intros; omega) (s2 : (¬ (M 24 5) ≤ x3) → (¬ (M 29 x3) = x1) → -2147483648 ≤ x3 + 1 ∧ x3 + 1 < 2147483648 := by intros; omega) (k2 : (¬ (M 24 5) ≤ x3) → (¬ (M 29 x3) = x1) → bB 22 18 [uR 5 x0, uI x1, uI x2, uI (x3 + 1), uX 0] [] M Q) (s3 : (¬ (M 24 5) ≤ x3) → ((M 29 x3) = x1) → -2147483648 ≤ (x2 + 1) ∧ (x2 + 1) < 2147483648 := by intros; omega) (s4 : (¬ (M 24 5) ≤ x3) → ((M 29 x3) = x1) → -2147483648 ≤ (((x2 + 1) * 6) + x3) ∧ (((x2 + 1) * 6) + x3) < 2147483648 := by intros; omega) (s5 : (¬ (M 24 5) ≤ x3) → ((M 29 x3) = x1) → 0 ≤ x2 ∧ x2 < 12 := by intros; omega) (s6 : (¬ (M 24 5) ≤ x3) → ((M 29 x3) = x1) → 0 ≤ (((x2 + 1) * 6) + x3) ∧ (((x2 + 1) * 6) + x3) < 78 := by intros; omega) (s7 : (¬ (M 24 5) ≤ x3) → ((M 29 x3) = x1) → -2147483648 ≤ x3 + 1 ∧ x3 + 1 < 2147483648 := by intros; omega) (k3 : (¬ (M 24 5) ≤ x3) → ((M 29 x3) = x1) → bB 22 18 [uR 5 x0, uI x1, uI x2, uI (x3 + 1), uX 0] [] (dsSet (dsSet (dsSet M (x0 + 8) x2 (dsw (((M (x0 + 8) x2) + (M (x0 + 5) (((x2 + 1) * 6) + x3)))))) (x0 + 5) (((x2 + 1) * 6) + x3) 0) (x0 + 4) (((x2 + 1) * 6) + x3) 0) Q) :
    bB 22 18 [uR 5 x0, uI x1, uI x2, uI x3, uX 0] [] M Q := by
  refine b_iload_n (d22 (j := 16) rfl) rfl ?_
  refine b_aload_n (d22 (j := 17) rfl) rfl ?_
  refine b_getRA (d22 (j := 18) rfl) rfl rfl rfl rfl ?_
  refine b_getI (d22 (j := 19) rfl) rfl rfl rfl rfl (Or.inl rfl) ?_
  refine b_stk [uI (M 24 5), uI x3] rfl ?_
  refine b_icmp_ge (d22 (j := 20) rfl) (fun c1 => ?_) (fun c1 => ?_)
  ·
    exact b_vret (d22 (j := 57) rfl) rfl (k1 c1)
  ·
    refine b_aload_n (d22 (j := 21) rfl) rfl ?_
    refine b_getRA (d22 (j := 22) rfl) rfl rfl rfl rfl ?_
    refine b_getR (d22 (j := 23) rfl) rfl rfl rfl rfl ?_
    refine b_stk [uR 21 29] rfl ?_
    refine b_iload_n (d22 (j := 24) rfl) rfl ?_
    refine b_iaload (d22 (j := 25) rfl) rfl (s1 c1) ?_
    refine b_iload_n (d22 (j := 26) rfl) rfl ?_
    refine b_icmp_ne (d22 (j := 27) rfl) (fun c2 => ?_) (fun c2 => ?_)
    ·
      refine b_iinc [uR 5 x0, uI x1, uI x2, uI (x3 + 1), uX 0] (d22 (j := 55) rfl) rfl (by decide) (s2 c1 c2) rfl ?_
      refine b_goto (d22 (j := 56) rfl) ?_
      exact (k2 c1 c2)
    ·
      refine b_iload_n (d22 (j := 28) rfl) rfl ?_
      refine b_iload_n (d22 (j := 29) rfl) rfl ?_
      refine b_iconst (d22 (j := 30) rfl) (by decide) ?_
      refine b_iadd (d22 (j := 31) rfl) rfl rfl ?_
      refine b_stk [uI (x2 + 1), uI x3] (by rw [dsw_r (s3 c1 c2)]) ?_
      refine b_callS (d22 (j := 32) rfl) (Or.inr rfl) rfl (bCk_mk (n := 0) (k := 2) (by decide +kernel) rfl rfl) (pu146 (s4 c1 c2) ?_)
      refine b_stk [uI (((x2 + 1) * 6) + x3)] rfl ?_
      refine b_istore [uR 5 x0, uI x1, uI x2, uI x3, uI (((x2 + 1) * 6) + x3)] (d22 (j := 33) rfl) (by decide) rfl ?_
      refine b_aload_n (d22 (j := 34) rfl) rfl ?_
      refine b_getR (d22 (j := 35) rfl) rfl rfl rfl rfl ?_
      refine b_iload_n (d22 (j := 36) rfl) rfl ?_
      refine b_dup2 (d22 (j := 37) rfl) ?_
      refine b_iaload (d22 (j := 38) rfl) rfl (s5 c1 c2) ?_
      refine b_aload_n (d22 (j := 39) rfl) rfl ?_
      refine b_getR (d22 (j := 40) rfl) rfl rfl rfl rfl ?_
      refine b_iload (d22 (j := 41) rfl) rfl ?_
      refine b_iaload (d22 (j := 42) rfl) rfl (s6 c1 c2) ?_
      refine b_iadd (d22 (j := 43) rfl) rfl rfl ?_
      refine b_iastore (d22 (j := 44) rfl) rfl (s5 c1 c2) ?_
      refine b_aload_n (d22 (j := 45) rfl) rfl ?_
      refine b_getR (d22 (j := 46) rfl) rfl rfl rfl rfl ?_
      refine b_iload (d22 (j := 47) rfl) rfl ?_
      refine b_iconst (d22 (j := 48) rfl) (by decide) ?_
      refine b_iastore (d22 (j := 49) rfl) rfl (s6 c1 c2) ?_
      refine b_aload_n (d22 (j := 50) rfl) rfl ?_
      refine b_getR (d22 (j := 51) rfl) rfl rfl rfl rfl ?_
      refine b_iload (d22 (j := 52) rfl) rfl ?_
      refine b_iconst (d22 (j := 53) rfl) (by decide) ?_
      refine b_iastore (d22 (j := 54) rfl) rfl (s6 c1 c2) ?_
      refine b_iinc [uR 5 x0, uI x1, uI x2, uI (x3 + 1), uI (((x2 + 1) * 6) + x3)] (d22 (j := 55) rfl) rfl (by decide) (s7 c1 c2) rfl ?_
      refine b_goto (d22 (j := 56) rfl) ?_
      exact bB_le _ (bLe_s (bLe_s (bLe_s (bLe_s (bLe_x bLe_nil))))) (k3 c1 c2)
def L28 : List (Nat × Instr × Nat × Nat) := [(0, .aload_n 0, 1, 0), (1, .getfield 25, 4, 0), (4, .iload_n 1, 5, 0), (5, .iaload, 6, 0), (6, .aload_n 0, 7, 0), (7, .getfield 25, 10, 0), (10, .iload_n 2, 11, 0), (11, .iaload, 12, 0), (12, .if_icmp .ne 7, 15, 19), (15, .iconst 1, 16, 0), (16, .goto 4, 19, 20), (19, .iconst 0, 20, 0), (20, .istore_n 3, 21, 0), (21, .iconst 0, 22, 0), (22, .istore 4, 24, 0), (24, .iload_n 3, 25, 0), (25, .ifCond .eq 80, 28, 105), (28, .iload 4, 30, 0), (30, .aload_n 0, 31, 0), (31, .getfield 25, 34, 0), (34, .iload_n 1, 35, 0), (35, .iaload, 36, 0), (36, .if_icmp .ge 69, 39, 105), (39, .aload_n 0, 40, 0), (40, .getfield 18, 43, 0), (43, .iload_n 1, 44, 0), (44, .bipush 60, 46, 0), (46, .imul, 47, 0), (47, .iload 4, 49, 0), (49, .iadd, 50, 0), (50, .iaload, 51, 0), (51, .aload_n 0, 52, 0), (52, .getfield 18, 55, 0), (55, .iload_n 2, 56, 0), (56, .bipush 60, 58, 0), (58, .imul, 59, 0), (59, .iload 4, 61, 0), (61, .iadd, 62, 0), (62, .iaload, 63, 0), (63, .if_icmp .ne 34, 66, 97), (66, .aload_n 0, 67, 0), (67, .getfield 22, 70, 0), (70, .iload_n 1, 71, 0), (71, .bipush 60, 73, 0), (73, .imul, 74, 0), (74, .iload 4, 76, 0), (76, .iadd, 77, 0), (77, .iaload, 78, 0), (78, .aload_n 0, 79, 0), (79, .getfield 22, 82, 0), (82, .iload_n 2, 83, 0), (83, .bipush 60, 85, 0), (85, .imul, 86, 0), (86, .iload 4, 88, 0), (88, .iadd, 89, 0), (89, .iaload, 90, 0), (90, .if_icmp .ne 7, 93, 97), (93, .iconst 1, 94, 0), (94, .goto 4, 97, 98), (97, .iconst 0, 98, 0), (98, .istore_n 3, 99, 0), (99, .iinc 4 1, 102, 0), (102, .goto (-78), 105, 24), (105, .iload_n 3, 106, 0), (106, .ireturn, 107, 0)]
set_option maxRecDepth 100000 in
theorem L28_ok : L28.all (dck 28) = true := by decide +kernel
theorem d28 {j pc nx tg : Nat} {ins : Instr} (hj : L28[j]? = some (pc, ins, nx, tg)) : dcd 28 pc ins nx tg := dcl_ok L28_ok hj
set_option maxRecDepth 100000 in
set_option maxHeartbeats 4000000 in
theorem r28_0 {x0 x1 x2 : Int}  {M : dsMem} {Q : bQT} (s1 : 0 ≤ x1 ∧ x1 < 78 := by intros; omega) (s2 : 0 ≤ x2 ∧ x2 < 78 := by intros; omega) (k1 : (¬ (M (x0 + 4) x1) = (M (x0 + 4) x2)) → bB 28 24 [uR 5 x0, uI x1, uI x2, uI 0, uI 0] [] M Q) (k2 : ((M (x0 + 4) x1) = (M (x0 + 4) x2)) → bB 28 24 [uR 5 x0, uI x1, uI x2, uI 1, uI 0] [] M Q) :
    bB 28 0 [uR 5 x0, uI x1, uI x2, uX 0, uX 0] [] M Q := by
  refine b_aload_n (d28 (j := 0) rfl) rfl ?_
  refine b_getR (d28 (j := 1) rfl) rfl rfl rfl rfl ?_
  refine b_iload_n (d28 (j := 2) rfl) rfl ?_
  refine b_iaload (d28 (j := 3) rfl) rfl s1 ?_
  refine b_aload_n (d28 (j := 4) rfl) rfl ?_
  refine b_getR (d28 (j := 5) rfl) rfl rfl rfl rfl ?_
  refine b_iload_n (d28 (j := 6) rfl) rfl ?_
  refine b_iaload (d28 (j := 7) rfl) rfl s2 ?_
  refine b_icmp_ne (d28 (j := 8) rfl) (fun c1 => ?_) (fun c1 => ?_)
  ·
    refine b_iconst (d28 (j := 11) rfl) (by decide) ?_
    refine b_istore_n [uR 5 x0, uI x1, uI x2, uI 0, uX 0] (d28 (j := 12) rfl) (by decide) rfl ?_
    refine b_iconst (d28 (j := 13) rfl) (by decide) ?_
    refine b_istore [uR 5 x0, uI x1, uI x2, uI 0, uI 0] (d28 (j := 14) rfl) (by decide) rfl ?_
    exact (k1 c1)
  ·
    refine b_iconst (d28 (j := 9) rfl) (by decide) ?_
    refine b_goto (d28 (j := 10) rfl) ?_
    refine b_istore_n [uR 5 x0, uI x1, uI x2, uI 1, uX 0] (d28 (j := 12) rfl) (by decide) rfl ?_
    refine b_iconst (d28 (j := 13) rfl) (by decide) ?_
    refine b_istore [uR 5 x0, uI x1, uI x2, uI 1, uI 0] (d28 (j := 14) rfl) (by decide) rfl ?_
    exact (k2 c1)
set_option maxRecDepth 100000 in
set_option maxHeartbeats 4000000 in
theorem r28_24 {x0 x1 x2 x3 x4 : Int}  {M : dsMem} {Q : bQT} (k1 : (x3 = 0) → Q [uI x3] M) (s1 : (x3 = 0) → x3 = 0 ∨ x3 = 1 := by intros; omega) (s2 : (¬ x3 = 0) → 0 ≤ x1 ∧ x1 < 78 := by intros; omega) (k2 : (¬ x3 = 0) → ((M (x0 + 4) x1) ≤ x4) → Q [uI x3] M) (s3 : (¬ x3 = 0) → ((M (x0 + 4) x1) ≤ x4) → x3 = 0 ∨ x3 = 1 := by intros; omega) (s4 : (¬ x3 = 0) → (¬ (M (x0 + 4) x1) ≤ x4) → 0 ≤ ((x1 * 60) + x4) ∧ ((x1 * 60) + x4) < 4680 := by intros; omega) (s5 : (¬ x3 = 0) → (¬ (M (x0 + 4) x1) ≤ x4) → 0 ≤ ((x2 * 60) + x4) ∧ ((x2 * 60) + x4) < 4680 := by intros; omega) (s6 : (¬ x3 = 0) → (¬ (M (x0 + 4) x1) ≤ x4) → (¬ (M (x0 + 2) ((x1 * 60) + x4)) = (M (x0 + 2) ((x2 * 60) + x4))) → -2147483648 ≤ x4 + 1 ∧ x4 + 1 < 2147483648 := by intros; omega) (k3 : (¬ x3 = 0) → (¬ (M (x0 + 4) x1) ≤ x4) → (¬ (M (x0 + 2) ((x1 * 60) + x4)) = (M (x0 + 2) ((x2 * 60) + x4))) → bB 28 24 [uR 5 x0, uI x1, uI x2, uI 0, uI (x4 + 1)] [] M Q) (s7 : (¬ x3 = 0) → (¬ (M (x0 + 4) x1) ≤ x4) → ((M (x0 + 2) ((x1 * 60) + x4)) = (M (x0 + 2) ((x2 * 60) + x4))) → (¬ (M (x0 + 3) ((x1 * 60) + x4)) = (M (x0 + 3) ((x2 * 60) + x4))) → -2147483648 ≤ x4 + 1 ∧ x4 + 1 < 2147483648 := by intros; omega) (k4 : (¬ x3 = 0) → (¬ (M (x0 + 4) x1) ≤ x4) → ((M (x0 + 2) ((x1 * 60) + x4)) = (M (x0 + 2) ((x2 * 60) + x4))) → (¬ (M (x0 + 3) ((x1 * 60) + x4)) = (M (x0 + 3) ((x2 * 60) + x4))) → bB 28 24 [uR 5 x0, uI x1, uI x2, uI 0, uI (x4 + 1)] [] M Q) (s8 : (¬ x3 = 0) → (¬ (M (x0 + 4) x1) ≤ x4) → ((M (x0 + 2) ((x1 * 60) + x4)) = (M (x0 + 2) ((x2 * 60) + x4))) → ((M (x0 + 3) ((x1 * 60) + x4)) = (M (x0 + 3) ((x2 * 60) + x4))) → -2147483648 ≤ x4 + 1 ∧ x4 + 1 < 2147483648 := by intros; omega) (k5 : (¬ x3 = 0) → (¬ (M (x0 + 4) x1) ≤ x4) → ((M (x0 + 2) ((x1 * 60) + x4)) = (M (x0 + 2) ((x2 * 60) + x4))) → ((M (x0 + 3) ((x1 * 60) + x4)) = (M (x0 + 3) ((x2 * 60) + x4))) → bB 28 24 [uR 5 x0, uI x1, uI x2, uI 1, uI (x4 + 1)] [] M Q) :
    bB 28 24 [uR 5 x0, uI x1, uI x2, uI x3, uI x4] [] M Q := by
  refine b_iload_n (d28 (j := 15) rfl) rfl ?_
  refine b_if_eq (d28 (j := 16) rfl) (fun c1 => ?_) (fun c1 => ?_)
  ·
    refine b_iload_n (d28 (j := 63) rfl) rfl ?_
    exact b_zret (d28 (j := 64) rfl) rfl (s1 c1) (k1 c1)
  ·
    refine b_iload (d28 (j := 17) rfl) rfl ?_
    refine b_aload_n (d28 (j := 18) rfl) rfl ?_
    refine b_getR (d28 (j := 19) rfl) rfl rfl rfl rfl ?_
    refine b_iload_n (d28 (j := 20) rfl) rfl ?_
    refine b_iaload (d28 (j := 21) rfl) rfl (s2 c1) ?_
    refine b_icmp_ge (d28 (j := 22) rfl) (fun c2 => ?_) (fun c2 => ?_)
    ·
      refine b_iload_n (d28 (j := 63) rfl) rfl ?_
      exact b_zret (d28 (j := 64) rfl) rfl (s3 c1 c2) (k2 c1 c2)
    ·
      refine b_aload_n (d28 (j := 23) rfl) rfl ?_
      refine b_getR (d28 (j := 24) rfl) rfl rfl rfl rfl ?_
      refine b_iload_n (d28 (j := 25) rfl) rfl ?_
      refine b_bipush (d28 (j := 26) rfl) (by decide) ?_
      refine b_imul (d28 (j := 27) rfl) rfl rfl ?_
      refine b_iload (d28 (j := 28) rfl) rfl ?_
      refine b_iadd (d28 (j := 29) rfl) (dsw_dsw _) rfl ?_
      refine b_stk [uI ((x1 * 60) + x4), uR 24 (x0 + 2)] (by rw [dsw_b (s4 c1 c2) (by decide)]) ?_
      refine b_iaload (d28 (j := 30) rfl) rfl (s4 c1 c2) ?_
      refine b_aload_n (d28 (j := 31) rfl) rfl ?_
      refine b_getR (d28 (j := 32) rfl) rfl rfl rfl rfl ?_
      refine b_iload_n (d28 (j := 33) rfl) rfl ?_
      refine b_bipush (d28 (j := 34) rfl) (by decide) ?_
      refine b_imul (d28 (j := 35) rfl) rfl rfl ?_
      refine b_iload (d28 (j := 36) rfl) rfl ?_
      refine b_iadd (d28 (j := 37) rfl) (dsw_dsw _) rfl ?_
      refine b_stk [uI ((x2 * 60) + x4), uR 24 (x0 + 2), uI (M (x0 + 2) ((x1 * 60) + x4))] (by rw [dsw_b (s5 c1 c2) (by decide)]) ?_
      refine b_iaload (d28 (j := 38) rfl) rfl (s5 c1 c2) ?_
      refine b_icmp_ne (d28 (j := 39) rfl) (fun c3 => ?_) (fun c3 => ?_)
      ·
        refine b_iconst (d28 (j := 59) rfl) (by decide) ?_
        refine b_istore_n [uR 5 x0, uI x1, uI x2, uI 0, uI x4] (d28 (j := 60) rfl) (by decide) rfl ?_
        refine b_iinc [uR 5 x0, uI x1, uI x2, uI 0, uI (x4 + 1)] (d28 (j := 61) rfl) rfl (by decide) (s6 c1 c2 c3) rfl ?_
        refine b_goto (d28 (j := 62) rfl) ?_
        exact (k3 c1 c2 c3)
      ·
        refine b_aload_n (d28 (j := 40) rfl) rfl ?_
        refine b_getR (d28 (j := 41) rfl) rfl rfl rfl rfl ?_
        refine b_iload_n (d28 (j := 42) rfl) rfl ?_
        refine b_bipush (d28 (j := 43) rfl) (by decide) ?_
        refine b_imul (d28 (j := 44) rfl) rfl rfl ?_
        refine b_iload (d28 (j := 45) rfl) rfl ?_
        refine b_iadd (d28 (j := 46) rfl) (dsw_dsw _) rfl ?_
        refine b_stk [uI ((x1 * 60) + x4), uR 24 (x0 + 3)] (by rw [dsw_b (s4 c1 c2) (by decide)]) ?_
        refine b_iaload (d28 (j := 47) rfl) rfl (s4 c1 c2) ?_
        refine b_aload_n (d28 (j := 48) rfl) rfl ?_
        refine b_getR (d28 (j := 49) rfl) rfl rfl rfl rfl ?_
        refine b_iload_n (d28 (j := 50) rfl) rfl ?_
        refine b_bipush (d28 (j := 51) rfl) (by decide) ?_
        refine b_imul (d28 (j := 52) rfl) rfl rfl ?_
        refine b_iload (d28 (j := 53) rfl) rfl ?_
        refine b_iadd (d28 (j := 54) rfl) (dsw_dsw _) rfl ?_
        refine b_stk [uI ((x2 * 60) + x4), uR 24 (x0 + 3), uI (M (x0 + 3) ((x1 * 60) + x4))] (by rw [dsw_b (s5 c1 c2) (by decide)]) ?_
        refine b_iaload (d28 (j := 55) rfl) rfl (s5 c1 c2) ?_
        refine b_icmp_ne (d28 (j := 56) rfl) (fun c4 => ?_) (fun c4 => ?_)
        ·
          refine b_iconst (d28 (j := 59) rfl) (by decide) ?_
          refine b_istore_n [uR 5 x0, uI x1, uI x2, uI 0, uI x4] (d28 (j := 60) rfl) (by decide) rfl ?_
          refine b_iinc [uR 5 x0, uI x1, uI x2, uI 0, uI (x4 + 1)] (d28 (j := 61) rfl) rfl (by decide) (s7 c1 c2 c3 c4) rfl ?_
          refine b_goto (d28 (j := 62) rfl) ?_
          exact (k4 c1 c2 c3 c4)
        ·
          refine b_iconst (d28 (j := 57) rfl) (by decide) ?_
          refine b_goto (d28 (j := 58) rfl) ?_
          refine b_istore_n [uR 5 x0, uI x1, uI x2, uI 1, uI x4] (d28 (j := 60) rfl) (by decide) rfl ?_
          refine b_iinc [uR 5 x0, uI x1, uI x2, uI 1, uI (x4 + 1)] (d28 (j := 61) rfl) rfl (by decide) (s8 c1 c2 c3 c4) rfl ?_
          refine b_goto (d28 (j := 62) rfl) ?_
          exact (k5 c1 c2 c3 c4)
