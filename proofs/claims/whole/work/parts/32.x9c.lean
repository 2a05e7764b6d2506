/-! regions whose loops stay open -/
set_option maxRecDepth 100000 in
set_option maxHeartbeats 4000000 in
theorem r155n_0   {M : dsMem} {Q : bQT} (k1 : bB 155 4 [uR 10 0, uI 0, uI 0] [] M Q) :
    bB 155 0 [uR 10 0, uX 0, uX 0] [] M Q := by
  refine b_iconst (d155 (j := 0) rfl) (by decide) ?_
  refine b_istore_n [uR 10 0, uI 0, uX 0] (d155 (j := 1) rfl) (by decide) rfl ?_
  refine b_iconst (d155 (j := 2) rfl) (by decide) ?_
  refine b_istore_n [uR 10 0, uI 0, uI 0] (d155 (j := 3) rfl) (by decide) rfl ?_
  exact k1
set_option maxRecDepth 100000 in
set_option maxHeartbeats 4000000 in
theorem r155n_4 {x1 x2 : Int}  {M : dsMem} {Q : bQT} (k1 : (4 ≤ x2) → Q [uI x1] M) (s1 : (¬ 4 ≤ x2) → 0 ≤ x2 ∧ x2 < 4 := by intros; omega) (s2 : (¬ 4 ≤ x2) → ((M 46 x2) < 0) → -2147483648 ≤ x2 + 1 ∧ x2 + 1 < 2147483648 := by intros; omega) (k2 : (¬ 4 ≤ x2) → ((M 46 x2) < 0) → bB 155 4 [uR 10 0, uI x1, uI (x2 + 1)] [] M Q) (s3 : (¬ 4 ≤ x2) → (¬ (M 46 x2) < 0) → -2147483648 ≤ x1 + 1 ∧ x1 + 1 < 2147483648 := by intros; omega) (s4 : (¬ 4 ≤ x2) → (¬ (M 46 x2) < 0) → -2147483648 ≤ x2 + 1 ∧ x2 + 1 < 2147483648 := by intros; omega) (k3 : (¬ 4 ≤ x2) → (¬ (M 46 x2) < 0) → bB 155 4 [uR 10 0, uI (x1 + 1), uI (x2 + 1)] [] M Q) :
    bB 155 4 [uR 10 0, uI x1, uI x2] [] M Q := by
  refine b_iload_n (d155 (j := 4) rfl) rfl ?_
  refine b_iconst (d155 (j := 5) rfl) (by decide) ?_
  refine b_icmp_ge (d155 (j := 6) rfl) (fun c1 => ?_) (fun c1 => ?_)
  ·
    refine b_iload_n (d155 (j := 15) rfl) rfl ?_
    exact b_iret (d155 (j := 16) rfl) rfl (k1 c1)
  ·
    refine b_aload_n (d155 (j := 7) rfl) rfl ?_
    refine b_getR (d155 (j := 8) rfl) rfl rfl rfl rfl ?_
    refine b_stk [uR 36 46] rfl ?_
    refine b_iload_n (d155 (j := 9) rfl) rfl ?_
    refine b_aaloadR (d155 (j := 10) rfl) rfl (s1 c1) ?_
    refine b_ifnull (d155 (j := 11) rfl) (fun c2 => ?_) (fun c2 => ?_)
    ·
      refine b_iinc [uR 10 0, uI x1, uI (x2 + 1)] (d155 (j := 13) rfl) rfl (by decide) (s2 c1 c2) rfl ?_
      refine b_goto (d155 (j := 14) rfl) ?_
      exact (k2 c1 c2)
    ·
      refine b_iinc [uR 10 0, uI (x1 + 1), uI x2] (d155 (j := 12) rfl) rfl (by decide) (s3 c1 c2) rfl ?_
      refine b_iinc [uR 10 0, uI (x1 + 1), uI (x2 + 1)] (d155 (j := 13) rfl) rfl (by decide) (s4 c1 c2) rfl ?_
      refine b_goto (d155 (j := 14) rfl) ?_
      exact (k3 c1 c2)
set_option maxRecDepth 100000 in
set_option maxHeartbeats 4000000 in
theorem r138n_0 {x1 : Int} {R1 : dsMem → Prop} {g1 : dsMem → Int} {M : dsMem} {Q : bQT} (k1 : (x1 = 0) → Q [uI (M 24 1)] M) (k2 : (x1 = 1) → Q [uI (M 24 2)] M) (k3 : (x1 = 2) → Q [uI (M 24 3)] M) (k4 : (x1 = 3) → Q [uI (M 24 4)] M) (k5 : (x1 = 4) → Q [uI (M 24 5)] M) (k6 : (x1 = 5) → Q [uI (M 30 0)] M) (k7 : (x1 = 6) → Q [uI (M 35 0)] M) (k8 : (x1 = 7) → Q [uI (M 40 0)] M) (k9 : (x1 = 8) → Q [uI (M 24 0)] M) (k10 : (x1 = 9) → Q [uI (M 1 0)] M) (hA1 : (x1 = 10) → bCt 155 [uR 10 0, uX 0, uX 0] M (fun M1 => [uI (g1 M1)]) R1) (k11 : (x1 = 10) → ∀ M1 : dsMem, R1 M1 → Q [uI (g1 M1)] M1) (k12 : (x1 < 0 ∨ 10 < x1) → Q [uI (-1)] M) :
    bB 138 0 [uR 10 0, uI x1] [] M Q := by
  refine b_iload_n (d138 (j := 0) rfl) rfl ?_
  by_cases c1 : x1 = 0
  · refine b_switch (d138 (j := 1) rfl) 60 (by rw [c1]; decide) ?_
    refine b_aload_n (d138 (j := 2) rfl) rfl ?_
    refine b_getR (d138 (j := 3) rfl) rfl rfl rfl rfl ?_
    refine b_stk [uR 4 24] rfl ?_
    refine b_getI (d138 (j := 4) rfl) rfl rfl rfl rfl (Or.inl rfl) ?_
    refine b_stk [uI (M 24 1)] rfl ?_
    exact b_iret (d138 (j := 5) rfl) rfl (k1 c1)
  by_cases c2 : x1 = 1
  · refine b_switch (d138 (j := 1) rfl) 68 (by rw [c2]; decide) ?_
    refine b_aload_n (d138 (j := 6) rfl) rfl ?_
    refine b_getR (d138 (j := 7) rfl) rfl rfl rfl rfl ?_
    refine b_stk [uR 4 24] rfl ?_
    refine b_getI (d138 (j := 8) rfl) rfl rfl rfl rfl (Or.inl rfl) ?_
    refine b_stk [uI (M 24 2)] rfl ?_
    exact b_iret (d138 (j := 9) rfl) rfl (k2 c2)
  by_cases c3 : x1 = 2
  · refine b_switch (d138 (j := 1) rfl) 76 (by rw [c3]; decide) ?_
    refine b_aload_n (d138 (j := 10) rfl) rfl ?_
    refine b_getR (d138 (j := 11) rfl) rfl rfl rfl rfl ?_
    refine b_stk [uR 4 24] rfl ?_
    refine b_getI (d138 (j := 12) rfl) rfl rfl rfl rfl (Or.inl rfl) ?_
    refine b_stk [uI (M 24 3)] rfl ?_
    exact b_iret (d138 (j := 13) rfl) rfl (k3 c3)
  by_cases c4 : x1 = 3
  · refine b_switch (d138 (j := 1) rfl) 84 (by rw [c4]; decide) ?_
    refine b_aload_n (d138 (j := 14) rfl) rfl ?_
    refine b_getR (d138 (j := 15) rfl) rfl rfl rfl rfl ?_
    refine b_stk [uR 4 24] rfl ?_
    refine b_getI (d138 (j := 16) rfl) rfl rfl rfl rfl (Or.inl rfl) ?_
    refine b_stk [uI (M 24 4)] rfl ?_
    exact b_iret (d138 (j := 17) rfl) rfl (k4 c4)
  by_cases c5 : x1 = 4
  · refine b_switch (d138 (j := 1) rfl) 92 (by rw [c5]; decide) ?_
    refine b_aload_n (d138 (j := 18) rfl) rfl ?_
    refine b_getR (d138 (j := 19) rfl) rfl rfl rfl rfl ?_
    refine b_stk [uR 4 24] rfl ?_
    refine b_getI (d138 (j := 20) rfl) rfl rfl rfl rfl (Or.inl rfl) ?_
    refine b_stk [uI (M 24 5)] rfl ?_
    exact b_iret (d138 (j := 21) rfl) rfl (k5 c5)
  by_cases c6 : x1 = 5
  · refine b_switch (d138 (j := 1) rfl) 100 (by rw [c6]; decide) ?_
    refine b_aload_n (d138 (j := 22) rfl) rfl ?_
    refine b_getR (d138 (j := 23) rfl) rfl rfl rfl rfl ?_
    refine b_stk [uR 4 24] rfl ?_
    refine b_getR (d138 (j := 24) rfl) rfl rfl rfl rfl ?_
    refine b_stk [uR 1 30] rfl ?_
    refine b_getI (d138 (j := 25) rfl) rfl rfl rfl rfl (Or.inl rfl) ?_
    refine b_stk [uI (M 30 0)] rfl ?_
    exact b_iret (d138 (j := 26) rfl) rfl (k6 c6)
  by_cases c7 : x1 = 6
  · refine b_switch (d138 (j := 1) rfl) 111 (by rw [c7]; decide) ?_
    refine b_aload_n (d138 (j := 27) rfl) rfl ?_
    refine b_getR (d138 (j := 28) rfl) rfl rfl rfl rfl ?_
    refine b_stk [uR 4 24] rfl ?_
    refine b_getR (d138 (j := 29) rfl) rfl rfl rfl rfl ?_
    refine b_stk [uR 2 35] rfl ?_
    refine b_getI (d138 (j := 30) rfl) rfl rfl rfl rfl (Or.inl rfl) ?_
    refine b_stk [uI (M 35 0)] rfl ?_
    exact b_iret (d138 (j := 31) rfl) rfl (k7 c7)
  by_cases c8 : x1 = 7
  · refine b_switch (d138 (j := 1) rfl) 122 (by rw [c8]; decide) ?_
    refine b_aload_n (d138 (j := 32) rfl) rfl ?_
    refine b_getR (d138 (j := 33) rfl) rfl rfl rfl rfl ?_
    refine b_stk [uR 4 24] rfl ?_
    refine b_getR (d138 (j := 34) rfl) rfl rfl rfl rfl ?_
    refine b_stk [uR 3 40] rfl ?_
    refine b_getI (d138 (j := 35) rfl) rfl rfl rfl rfl (Or.inl rfl) ?_
    refine b_stk [uI (M 40 0)] rfl ?_
    exact b_iret (d138 (j := 36) rfl) rfl (k8 c8)
  by_cases c9 : x1 = 8
  · refine b_switch (d138 (j := 1) rfl) 133 (by rw [c9]; decide) ?_
    refine b_aload_n (d138 (j := 37) rfl) rfl ?_
    refine b_getR (d138 (j := 38) rfl) rfl rfl rfl rfl ?_
    refine b_stk [uR 4 24] rfl ?_
    refine b_getI (d138 (j := 39) rfl) rfl rfl rfl rfl (Or.inl rfl) ?_
    refine b_stk [uI (M 24 0)] rfl ?_
    exact b_iret (d138 (j := 40) rfl) rfl (k9 c9)
  by_cases c10 : x1 = 9
  · refine b_switch (d138 (j := 1) rfl) 141 (by rw [c10]; decide) ?_
    refine b_aload_n (d138 (j := 41) rfl) rfl ?_
    refine b_getR (d138 (j := 42) rfl) rfl rfl rfl rfl ?_
    refine b_stk [uR 6 1] rfl ?_
    refine b_getI (d138 (j := 43) rfl) rfl rfl rfl rfl (Or.inl rfl) ?_
    refine b_stk [uI (M 1 0)] rfl ?_
    exact b_iret (d138 (j := 44) rfl) rfl (k10 c10)
  by_cases c11 : x1 = 10
  · refine b_switch (d138 (j := 1) rfl) 149 (by rw [c11]; decide) ?_
    refine b_aload_n (d138 (j := 45) rfl) rfl ?_
    refine b_callV (d138 (j := 46) rfl) rfl rfl (Or.inl rfl) rfl (bCk_mk (n := 0) (k := 1) (by decide +kernel) rfl rfl) ((hA1 c11) _ (fun M1 hR1 => ?_))
    refine b_stk [uI (g1 M1)] rfl ?_
    exact b_iret (d138 (j := 47) rfl) rfl (k11 c11 M1 hR1)
  have c12 : x1 < 0 ∨ 10 < x1 := by omega
  refine b_switch (d138 (j := 1) rfl) 154 (by rw [if_pos c12]; decide) ?_
  refine b_iconst (d138 (j := 48) rfl) (by decide) ?_
  exact b_iret (d138 (j := 49) rfl) rfl (k12 c12)
set_option maxRecDepth 100000 in
set_option maxHeartbeats 4000000 in
theorem r174n_0 {x1 : Int}  {M : dsMem} {Q : bQT} (k1 : bB 174 9 [uR 10 0, uX 0, uJ x1, uX 0, uI 0, uI 0] [] M Q) :
    bB 174 0 [uR 10 0, uI x1, uX 0, uX 0, uX 0, uX 0] [] M Q := by
  refine b_iload_n (d174 (j := 0) rfl) rfl ?_
  refine b_i2l (d174 (j := 1) rfl) ?_
  refine b_lstore_n [uR 10 0, uI x1, uJ x1, uX 0, uX 0, uX 0] (d174 (j := 2) rfl) (by decide) rfl ?_
  refine b_iconst (d174 (j := 3) rfl) (by decide) ?_
  refine b_istore [uR 10 0, uI x1, uJ x1, uX 0, uI 0, uX 0] (d174 (j := 4) rfl) (by decide) rfl ?_
  refine b_iconst (d174 (j := 5) rfl) (by decide) ?_
  refine b_istore [uR 10 0, uI x1, uJ x1, uX 0, uI 0, uI 0] (d174 (j := 6) rfl) (by decide) rfl ?_
  exact bB_le _ (bLe_s (bLe_x (bLe_s (bLe_s (bLe_s (bLe_s bLe_nil)))))) k1
set_option maxRecDepth 100000 in
set_option maxHeartbeats 4000000 in
theorem r174n_9 {x2 x4 x5 : Int}  {M : dsMem} {Q : bQT} (k1 : ((M 30 0) ≤ x5) → Q [uI x4] M) (s1 : (¬ (M 30 0) ≤ x5) → -9223372036854775808 ≤ ((1103515245 * x2) + 12345) ∧ ((1103515245 * x2) + 12345) < 9223372036854775808 := by intros; omega) (s2 : (¬ (M 30 0) ≤ x5) → 0 ≤ ((1103515245 * x2) + 12345) ∧ (0 : Int) < 2147483648 := by intros; omega) (s3 : (¬ (M 30 0) ≤ x5) → (0 ≤ (((1103515245 * x2) + 12345) % 2147483648) ∧ (((1103515245 * x2) + 12345) % 2147483648) < 9223372036854775808) ∧ (0 : Int) < 65536 := by intros; omega) (s4 : (¬ (M 30 0) ≤ x5) → 0 ≤ ((((1103515245 * x2) + 12345) % 2147483648) / 65536) ∧ (0 : Int) < 10 := by intros; omega) (s5 : (¬ (M 30 0) ≤ x5) → ((M 24 3) ≤ (((((1103515245 * x2) + 12345) % 2147483648) / 65536) % 10)) → -2147483648 ≤ x5 + 1 ∧ x5 + 1 < 2147483648 := by intros; omega) (k2 : (¬ (M 30 0) ≤ x5) → ((M 24 3) ≤ (((((1103515245 * x2) + 12345) % 2147483648) / 65536) % 10)) → bB 174 9 [uR 10 0, uX 0, uJ (((1103515245 * x2) + 12345) % 2147483648), uX 0, uI x4, uI (x5 + 1)] [] M Q) (s6 : (¬ (M 30 0) ≤ x5) → (¬ (M 24 3) ≤ (((((1103515245 * x2) + 12345) % 2147483648) / 65536) % 10)) → -2147483648 ≤ x5 + 1 ∧ x5 + 1 < 2147483648 := by intros; omega) (k3 : (¬ (M 30 0) ≤ x5) → (¬ (M 24 3) ≤ (((((1103515245 * x2) + 12345) % 2147483648) / 65536) % 10)) → bB 174 9 [uR 10 0, uX 0, uJ (((1103515245 * x2) + 12345) % 2147483648), uX 0, uI (dsOr x4 (dsShl 1 x5)), uI (x5 + 1)] [] M Q) :
    bB 174 9 [uR 10 0, uX 0, uJ x2, uX 0, uI x4, uI x5] [] M Q := by
  refine b_iload (d174 (j := 7) rfl) rfl ?_
  refine b_aload_n (d174 (j := 8) rfl) rfl ?_
  refine b_getR (d174 (j := 9) rfl) rfl rfl rfl rfl ?_
  refine b_stk [uR 4 24, uI x5] rfl ?_
  refine b_getR (d174 (j := 10) rfl) rfl rfl rfl rfl ?_
  refine b_stk [uR 1 30, uI x5] rfl ?_
  refine b_getI (d174 (j := 11) rfl) rfl rfl rfl rfl (Or.inl rfl) ?_
  refine b_stk [uI (M 30 0), uI x5] rfl ?_
  refine b_icmp_ge (d174 (j := 12) rfl) (fun c1 => ?_) (fun c1 => ?_)
  ·
    refine b_iload (d174 (j := 40) rfl) rfl ?_
    exact b_iret (d174 (j := 41) rfl) rfl (k1 c1)
  ·
    refine b_ldc2 (d174 (j := 13) rfl) rfl ?_
    refine b_lload_n (d174 (j := 14) rfl) rfl ?_
    refine b_lmul (d174 (j := 15) rfl) rfl rfl ?_
    refine b_ldc2 (d174 (j := 16) rfl) rfl ?_
    refine b_ladd (d174 (j := 17) rfl) (dsw64_dsw _) rfl ?_
    refine b_ldc2 (d174 (j := 18) rfl) rfl ?_
    refine b_stk [uJ 2147483648, uJ ((1103515245 * x2) + 12345)] (by rw [dsw64_r (s1 c1)]) ?_
    refine b_lremP (d174 (j := 19) rfl) (s2 c1) ?_
    refine b_lstore_n [uR 10 0, uX 0, uJ (((1103515245 * x2) + 12345) % 2147483648), uX 0, uI x4, uI x5] (d174 (j := 20) rfl) (by decide) rfl ?_
    refine b_lload_n (d174 (j := 21) rfl) rfl ?_
    refine b_ldc2 (d174 (j := 22) rfl) rfl ?_
    refine b_ldivP (d174 (j := 23) rfl) (s3 c1) ?_
    refine b_ldc2 (d174 (j := 24) rfl) rfl ?_
    refine b_lremP (d174 (j := 25) rfl) (s4 c1) ?_
    refine b_aload_n (d174 (j := 26) rfl) rfl ?_
    refine b_getR (d174 (j := 27) rfl) rfl rfl rfl rfl ?_
    refine b_stk [uR 4 24, uJ (((((1103515245 * x2) + 12345) % 2147483648) / 65536) % 10)] rfl ?_
    refine b_getI (d174 (j := 28) rfl) rfl rfl rfl rfl (Or.inl rfl) ?_
    refine b_stk [uI (M 24 3), uJ (((((1103515245 * x2) + 12345) % 2147483648) / 65536) % 10)] rfl ?_
    refine b_i2l (d174 (j := 29) rfl) ?_
    refine b_lcmp (d174 (j := 30) rfl) ?_
    refine b_lif_ge (d174 (j := 31) rfl) (fun c2 => ?_) (fun c2 => ?_)
    ·
      refine b_iinc [uR 10 0, uX 0, uJ (((1103515245 * x2) + 12345) % 2147483648), uX 0, uI x4, uI (x5 + 1)] (d174 (j := 38) rfl) rfl (by decide) (s5 c1 c2) rfl ?_
      refine b_goto (d174 (j := 39) rfl) ?_
      exact (k2 c1 c2)
    ·
      refine b_iload (d174 (j := 32) rfl) rfl ?_
      refine b_iconst (d174 (j := 33) rfl) (by decide) ?_
      refine b_iload (d174 (j := 34) rfl) rfl ?_
      refine b_ishl (d174 (j := 35) rfl) ?_
      refine b_ior (d174 (j := 36) rfl) ?_
      refine b_istore [uR 10 0, uX 0, uJ (((1103515245 * x2) + 12345) % 2147483648), uX 0, uI (dsOr x4 (dsShl 1 x5)), uI x5] (d174 (j := 37) rfl) (by decide) rfl ?_
      refine b_iinc [uR 10 0, uX 0, uJ (((1103515245 * x2) + 12345) % 2147483648), uX 0, uI (dsOr x4 (dsShl 1 x5)), uI (x5 + 1)] (d174 (j := 38) rfl) rfl (by decide) (s6 c1 c2) rfl ?_
      refine b_goto (d174 (j := 39) rfl) ?_
      exact (k3 c1 c2)
set_option maxRecDepth 100000 in
set_option maxHeartbeats 4000000 in
theorem r135n_0 {x1 x2 : Int} {R1 : dsMem → Prop} {g1 : dsMem → Int} {R2 : dsMem → Prop} {g2 : dsMem → Int} {M : dsMem} {Q : bQT} (k1 : (¬ (0 < (M 24 0))) → Q [uI (-2)] M) (k2 : ((0 < (M 24 0))) → (¬ (0 ≤ x1 ∧ x1 ≤ 2000000000)) → Q [uI (-2)] M) (hA1 : ((0 < (M 24 0))) → ((0 ≤ x1 ∧ x1 ≤ 2000000000)) → ((0 ≤ x2 ∧ x2 ≤ 1)) → (¬ x2 = 0) → bCt 175 [uR 10 0, uI x1] M (fun M1 => [uI (g1 M1)]) R1) (k3 : ((0 < (M 24 0))) → ((0 ≤ x1 ∧ x1 ≤ 2000000000)) → ((0 ≤ x2 ∧ x2 ≤ 1)) → (¬ x2 = 0) → ∀ M1 : dsMem, R1 M1 → Q [uI (g1 M1)] M1) (hA2 : ((0 < (M 24 0))) → ((0 ≤ x1 ∧ x1 ≤ 2000000000)) → ((0 ≤ x2 ∧ x2 ≤ 1)) → (x2 = 0) → bCt 174 [uR 10 0, uI x1, uX 0, uX 0, uX 0, uX 0] M (fun M2 => [uI (g2 M2)]) R2) (k4 : ((0 < (M 24 0))) → ((0 ≤ x1 ∧ x1 ≤ 2000000000)) → ((0 ≤ x2 ∧ x2 ≤ 1)) → (x2 = 0) → ∀ M2 : dsMem, R2 M2 → Q [uI (g2 M2)] M2) (k5 : ((0 < (M 24 0))) → ((0 ≤ x1 ∧ x1 ≤ 2000000000)) → (¬ (0 ≤ x2 ∧ x2 ≤ 1)) → Q [uI (-2)] M) :
    bB 135 0 [uR 10 0, uI x1, uI x2] [] M Q := by
  refine b_aload_n (d135 (j := 0) rfl) rfl ?_
  refine b_callV (d135 (j := 1) rfl) rfl rfl (Or.inl rfl) rfl (bCk_mk (n := 0) (k := 1) (by decide +kernel) rfl rfl) (pu149  ?_)
  refine b_stk [uI (if (0 < (M 24 0)) then 1 else 0)] rfl ?_
  refine b_ifeqP (d135 (j := 2) rfl) (fun c1 => ?_) (fun c1 => ?_)
  ·
    refine b_bipush (d135 (j := 13) rfl) (by decide) ?_
    exact b_iret (d135 (j := 14) rfl) rfl (k1 c1)
  ·
    refine b_iload_n (d135 (j := 3) rfl) rfl ?_
    refine b_iconst (d135 (j := 4) rfl) (by decide) ?_
    refine b_ldcw (d135 (j := 5) rfl) rfl ?_
    refine b_callS (d135 (j := 6) rfl) (Or.inl rfl) rfl (bCk_mk (n := 0) (k := 3) (by decide +kernel) rfl rfl) (pu144  ?_)
    refine b_stk [uI (if (0 ≤ x1 ∧ x1 ≤ 2000000000) then 1 else 0)] rfl ?_
    refine b_ifeqP (d135 (j := 7) rfl) (fun c2 => ?_) (fun c2 => ?_)
    ·
      refine b_bipush (d135 (j := 13) rfl) (by decide) ?_
      exact b_iret (d135 (j := 14) rfl) rfl (k2 c1 c2)
    ·
      refine b_iload_n (d135 (j := 8) rfl) rfl ?_
      refine b_iconst (d135 (j := 9) rfl) (by decide) ?_
      refine b_iconst (d135 (j := 10) rfl) (by decide) ?_
      refine b_callS (d135 (j := 11) rfl) (Or.inl rfl) rfl (bCk_mk (n := 0) (k := 3) (by decide +kernel) rfl rfl) (pu144  ?_)
      refine b_stk [uI (if (0 ≤ x2 ∧ x2 ≤ 1) then 1 else 0)] rfl ?_
      refine b_ifneP (d135 (j := 12) rfl) (fun c3 => ?_) (fun c3 => ?_)
      ·
        refine b_iload_n (d135 (j := 15) rfl) rfl ?_
        refine b_if_ne (d135 (j := 16) rfl) (fun c4 => ?_) (fun c4 => ?_)
        ·
          refine b_aload_n (d135 (j := 21) rfl) rfl ?_
          refine b_iload_n (d135 (j := 22) rfl) rfl ?_
          refine b_callV (d135 (j := 23) rfl) rfl rfl (Or.inl rfl) rfl (bCk_mk (n := 0) (k := 2) (by decide +kernel) rfl rfl) ((hA1 c1 c2 c3 c4) _ (fun M1 hR1 => ?_))
          refine b_stk [uI (g1 M1)] rfl ?_
          exact b_iret (d135 (j := 24) rfl) rfl (k3 c1 c2 c3 c4 M1 hR1)
        ·
          refine b_aload_n (d135 (j := 17) rfl) rfl ?_
          refine b_iload_n (d135 (j := 18) rfl) rfl ?_
          refine b_callV (d135 (j := 19) rfl) rfl rfl (Or.inl rfl) rfl (bCk_mk (n := 0) (k := 2) (by decide +kernel) rfl rfl) ((hA2 c1 c2 c3 c4) _ (fun M2 hR2 => ?_))
          refine b_stk [uI (g2 M2)] rfl ?_
          refine b_goto (d135 (j := 20) rfl) ?_
          exact b_iret (d135 (j := 24) rfl) rfl (k4 c1 c2 c3 c4 M2 hR2)
      ·
        refine b_bipush (d135 (j := 13) rfl) (by decide) ?_
        exact b_iret (d135 (j := 14) rfl) rfl (k5 c1 c2 c3)
set_option maxRecDepth 100000 in
set_option maxHeartbeats 4000000 in
theorem r175n_0 {x1 : Int} {R1 : dsMem → Prop} {R2 : dsMem → dsMem → Prop} {g2 : dsMem → dsMem → Int} {R3 : dsMem → dsMem → dsMem → Prop} {g3 : dsMem → dsMem → dsMem → Int} {M : dsMem} {Q : bQT} (hA1 : bCt 158 [uR 10 0] M (fun _ => [uR 0 63]) R1) (hA2 : ∀ M1 : dsMem, R1 M1 → bCt 174 [uR 10 0, uI x1, uX 0, uX 0, uX 0, uX 0] M1 (fun M2 => [uI (g2 M1 M2)]) (R2 M1)) (hA3 : ∀ M1 : dsMem, R1 M1 → ∀ M2 : dsMem, R2 M1 M2 → bCt 159 [uR 10 0] (dsSet M2 63 1 (g2 M1 M2)) (fun M3 => [uI (g3 M1 M2 M3)]) (R3 M1 M2)) (k1 : ∀ M1 : dsMem, R1 M1 → ∀ M2 : dsMem, R2 M1 M2 → ∀ M3 : dsMem, R3 M1 M2 M3 → Q [uI (g3 M1 M2 M3)] M3) :
    bB 175 0 [uR 10 0, uI x1] [] M Q := by
  refine b_aload_n (d175 (j := 0) rfl) rfl ?_
  refine b_callV (d175 (j := 1) rfl) rfl rfl (Or.inl rfl) rfl (bCk_mk (n := 0) (k := 1) (by decide +kernel) rfl rfl) ((hA1) _ (fun M1 hR1 => ?_))
  refine b_stk [uR 0 63] rfl ?_
  refine b_aload_n (d175 (j := 2) rfl) rfl ?_
  refine b_iload_n (d175 (j := 3) rfl) rfl ?_
  refine b_callV (d175 (j := 4) rfl) rfl rfl (Or.inl rfl) rfl (bCk_mk (n := 1) (k := 2) (by decide +kernel) rfl rfl) ((hA2 M1 hR1) _ (fun M2 hR2 => ?_))
  refine b_stk [uI (g2 M1 M2), uR 0 63] rfl ?_
  refine b_putI (d175 (j := 5) rfl) rfl ⟨rfl, rfl⟩ rfl rfl ?_
  refine b_aload_n (d175 (j := 6) rfl) rfl ?_
  refine b_callV (d175 (j := 7) rfl) rfl rfl (Or.inl rfl) rfl (bCk_mk (n := 0) (k := 1) (by decide +kernel) rfl rfl) ((hA3 M1 hR1 M2 hR2) _ (fun M3 hR3 => ?_))
  refine b_stk [uI (g3 M1 M2 M3)] rfl ?_
  exact b_iret (d175 (j := 8) rfl) rfl (k1 M1 hR1 M2 hR2 M3 hR3)
set_option maxRecDepth 100000 in
set_option maxHeartbeats 4000000 in
theorem r108n_0 {x1 : Int} {R1 : dsMem → Prop} {M : dsMem} {Q : bQT} (s1 : -2147483648 ≤ ((M 24 5) - 1) ∧ ((M 24 5) - 1) < 2147483648 := by intros; omega) (hA1 : ((0 ≤ x1 ∧ x1 ≤ (M 24 5) - 1)) → bCt 157 [uR 10 0] M (fun _ => [uR 5 47]) R1) (k1 : ((0 ≤ x1 ∧ x1 ≤ (M 24 5) - 1)) → ∀ M1 : dsMem, R1 M1 → bB 108 21 [uR 10 0, uI x1, uR 5 47, uI 0, uI 1] [] M1 Q) (k2 : (¬ (0 ≤ x1 ∧ x1 ≤ (M 24 5) - 1)) → Q [uI (-2)] M) :
    bB 108 0 [uR 10 0, uI x1, uX 0, uX 0, uX 0] [] M Q := by
  refine b_aload_n (d108 (j := 0) rfl) rfl ?_
  refine b_iload_n (d108 (j := 1) rfl) rfl ?_
  refine b_callV (d108 (j := 2) rfl) rfl rfl (Or.inl rfl) rfl (bCk_mk (n := 0) (k := 2) (by decide +kernel) rfl rfl) (pu151 s1 ?_)
  refine b_stk [uI (if (0 ≤ x1 ∧ x1 ≤ (M 24 5) - 1) then 1 else 0)] rfl ?_
  refine b_ifneP (d108 (j := 3) rfl) (fun c1 => ?_) (fun c1 => ?_)
  ·
    refine b_aload_n (d108 (j := 6) rfl) rfl ?_
    refine b_callV (d108 (j := 7) rfl) rfl rfl (Or.inl rfl) rfl (bCk_mk (n := 0) (k := 1) (by decide +kernel) rfl rfl) ((hA1 c1) _ (fun M1 hR1 => ?_))
    refine b_stk [uR 5 47] rfl ?_
    refine b_astore_n [uR 10 0, uI x1, uR 5 47, uX 0, uX 0] (d108 (j := 8) rfl) (by decide) rfl ?_
    refine b_iconst (d108 (j := 9) rfl) (by decide) ?_
    refine b_istore_n [uR 10 0, uI x1, uR 5 47, uI 0, uX 0] (d108 (j := 10) rfl) (by decide) rfl ?_
    refine b_iconst (d108 (j := 11) rfl) (by decide) ?_
    refine b_istore [uR 10 0, uI x1, uR 5 47, uI 0, uI 1] (d108 (j := 12) rfl) (by decide) rfl ?_
    exact (k1 c1 M1 hR1)
  ·
    refine b_bipush (d108 (j := 4) rfl) (by decide) ?_
    exact b_iret (d108 (j := 5) rfl) rfl (k2 c1)
set_option maxRecDepth 100000 in
set_option maxHeartbeats 4000000 in
theorem r108n_21 {x1 x3 x4 : Int}  {M : dsMem} {Q : bQT} (k1 : ((M 24 1) < x4) → Q [uI x3] M) (s1 : (¬ (M 24 1) < x4) → -2147483648 ≤ ((x4 * 6) + x1) ∧ ((x4 * 6) + x1) < 2147483648 := by intros; omega) (s2 : (¬ (M 24 1) < x4) → 0 ≤ ((x4 * 6) + x1) ∧ ((x4 * 6) + x1) < 78 := by intros; omega) (s3 : (¬ (M 24 1) < x4) → -2147483648 ≤ (x4 - 1) ∧ (x4 - 1) < 2147483648 := by intros; omega) (s4 : (¬ (M 24 1) < x4) → -2147483648 ≤ (((x4 - 1) * 6) + x1) ∧ (((x4 - 1) * 6) + x1) < 2147483648 := by intros; omega) (s5 : (¬ (M 24 1) < x4) → 0 ≤ (((x4 - 1) * 6) + x1) ∧ (((x4 - 1) * 6) + x1) < 78 := by intros; omega) (s6 : (¬ (M 24 1) < x4) → ((M 52 (((x4 - 1) * 6) + x1)) ≤ (M 52 ((x4 * 6) + x1))) → -2147483648 ≤ x4 + 1 ∧ x4 + 1 < 2147483648 := by intros; omega) (k2 : (¬ (M 24 1) < x4) → ((M 52 (((x4 - 1) * 6) + x1)) ≤ (M 52 ((x4 * 6) + x1))) → bB 108 21 [uR 10 0, uI x1, uR 5 47, uI x3, uI (x4 + 1)] [] M Q) (s7 : (¬ (M 24 1) < x4) → (¬ (M 52 (((x4 - 1) * 6) + x1)) ≤ (M 52 ((x4 * 6) + x1))) → -2147483648 ≤ x3 + 1 ∧ x3 + 1 < 2147483648 := by intros; omega) (s8 : (¬ (M 24 1) < x4) → (¬ (M 52 (((x4 - 1) * 6) + x1)) ≤ (M 52 ((x4 * 6) + x1))) → -2147483648 ≤ x4 + 1 ∧ x4 + 1 < 2147483648 := by intros; omega) (k3 : (¬ (M 24 1) < x4) → (¬ (M 52 (((x4 - 1) * 6) + x1)) ≤ (M 52 ((x4 * 6) + x1))) → bB 108 21 [uR 10 0, uI x1, uR 5 47, uI (x3 + 1), uI (x4 + 1)] [] M Q) :
    bB 108 21 [uR 10 0, uI x1, uR 5 47, uI x3, uI x4] [] M Q := by
  refine b_iload (d108 (j := 13) rfl) rfl ?_
  refine b_aload_n (d108 (j := 14) rfl) rfl ?_
  refine b_getR (d108 (j := 15) rfl) rfl rfl rfl rfl ?_
  refine b_stk [uR 4 24, uI x4] rfl ?_
  refine b_getI (d108 (j := 16) rfl) rfl rfl rfl rfl (Or.inl rfl) ?_
  refine b_stk [uI (M 24 1), uI x4] rfl ?_
  refine b_icmp_gt (d108 (j := 17) rfl) (fun c1 => ?_) (fun c1 => ?_)
  ·
    refine b_iload_n (d108 (j := 36) rfl) rfl ?_
    exact b_iret (d108 (j := 37) rfl) rfl (k1 c1)
  ·
    refine b_aload_n (d108 (j := 18) rfl) rfl ?_
    refine b_getR (d108 (j := 19) rfl) rfl rfl rfl rfl ?_
    refine b_stk [uR 25 52] rfl ?_
    refine b_iload_n (d108 (j := 20) rfl) rfl ?_
    refine b_iload (d108 (j := 21) rfl) rfl ?_
    refine b_callS (d108 (j := 22) rfl) (Or.inl rfl) rfl (bCk_mk (n := 1) (k := 2) (by decide +kernel) rfl rfl) (pu146 (s1 c1) ?_)
    refine b_stk [uI ((x4 * 6) + x1), uR 25 52] rfl ?_
    refine b_iaload (d108 (j := 23) rfl) rfl (s2 c1) ?_
    refine b_aload_n (d108 (j := 24) rfl) rfl ?_
    refine b_getR (d108 (j := 25) rfl) rfl rfl rfl rfl ?_
    refine b_stk [uR 25 52, uI (M 52 ((x4 * 6) + x1))] rfl ?_
    refine b_iload_n (d108 (j := 26) rfl) rfl ?_
    refine b_iload (d108 (j := 27) rfl) rfl ?_
    refine b_iconst (d108 (j := 28) rfl) (by decide) ?_
    refine b_isub (d108 (j := 29) rfl) rfl rfl ?_
    refine b_stk [uI (x4 - 1), uI x1, uR 25 52, uI (M 52 ((x4 * 6) + x1))] (by rw [dsw_r (s3 c1)]) ?_
    refine b_callS (d108 (j := 30) rfl) (Or.inl rfl) rfl (bCk_mk (n := 2) (k := 2) (by decide +kernel) rfl rfl) (pu146 (s4 c1) ?_)
    refine b_stk [uI (((x4 - 1) * 6) + x1), uR 25 52, uI (M 52 ((x4 * 6) + x1))] rfl ?_
    refine b_iaload (d108 (j := 31) rfl) rfl (s5 c1) ?_
    refine b_icmp_ge (d108 (j := 32) rfl) (fun c2 => ?_) (fun c2 => ?_)
    ·
      refine b_iinc [uR 10 0, uI x1, uR 5 47, uI x3, uI (x4 + 1)] (d108 (j := 34) rfl) rfl (by decide) (s6 c1 c2) rfl ?_
      refine b_goto (d108 (j := 35) rfl) ?_
      exact (k2 c1 c2)
    ·
      refine b_iinc [uR 10 0, uI x1, uR 5 47, uI (x3 + 1), uI x4] (d108 (j := 33) rfl) rfl (by decide) (s7 c1 c2) rfl ?_
      refine b_iinc [uR 10 0, uI x1, uR 5 47, uI (x3 + 1), uI (x4 + 1)] (d108 (j := 34) rfl) rfl (by decide) (s8 c1 c2) rfl ?_
      refine b_goto (d108 (j := 35) rfl) ?_
      exact (k3 c1 c2)
set_option maxRecDepth 100000 in
set_option maxHeartbeats 4000000 in
theorem r254n_0  {R1 : dsMem → Prop} {g1 : dsMem → Int} {M : dsMem} {Q : bQT} (hA1 : bCt 235 [uR 11 84] M (fun M1 => [uI (g1 M1)]) R1) (k1 : ∀ M1 : dsMem, R1 M1 → (¬ (g1 M1) = 0) → bB 254 14 [uR 11 84, uI 0, uI 1] [] M1 Q) (k2 : ∀ M1 : dsMem, R1 M1 → ((g1 M1) = 0) → Q [uI (-2)] M1) :
    bB 254 0 [uR 11 84, uX 0, uX 0] [] M Q := by
  refine b_aload_n (d254 (j := 0) rfl) rfl ?_
  refine b_callV (d254 (j := 1) rfl) rfl rfl (Or.inl rfl) rfl (bCk_mk (n := 0) (k := 1) (by decide +kernel) rfl rfl) ((hA1) _ (fun M1 hR1 => ?_))
  refine b_stk [uI (g1 M1)] rfl ?_
  refine b_if_ne (d254 (j := 2) rfl) (fun c1 => ?_) (fun c1 => ?_)
  ·
    refine b_iconst (d254 (j := 5) rfl) (by decide) ?_
    refine b_istore_n [uR 11 84, uI 0, uX 0] (d254 (j := 6) rfl) (by decide) rfl ?_
    refine b_iconst (d254 (j := 7) rfl) (by decide) ?_
    refine b_istore_n [uR 11 84, uI 0, uI 1] (d254 (j := 8) rfl) (by decide) rfl ?_
    exact (k1 M1 hR1 c1)
  ·
    refine b_bipush (d254 (j := 3) rfl) (by decide) ?_
    exact b_iret (d254 (j := 4) rfl) rfl (k2 M1 hR1 c1)
set_option maxRecDepth 100000 in
set_option maxHeartbeats 4000000 in
theorem r254n_14 {x1 x2 : Int}  {M : dsMem} {Q : bQT} (k1 : ((M 85 0) ≤ x2) → Q [uI x1] M) (s1 : (¬ (M 85 0) ≤ x2) → -2147483648 ≤ (x2 + 1) ∧ (x2 + 1) < 2147483648 := by intros; omega) (s2 : (¬ (M 85 0) ≤ x2) → ∀ i242_1 : Int, ∀ a242_1 : Int, 0 ≤ i242_1 → i242_1 < (M 85 4) → 0 ≤ ((6 * (x2 + 1)) + i242_1) ∧ ((6 * (x2 + 1)) + i242_1) < 78 := by intros; omega) (s3 : (¬ (M 85 0) ≤ x2) → ∀ i242_1 : Int, ∀ a242_1 : Int, 0 ≤ i242_1 → i242_1 < (M 85 4) → -2147483648 ≤ i242_1 + 1 ∧ i242_1 + 1 < 2147483648 := by intros; omega) (s4 : (¬ (M 85 0) ≤ x2) → ∀ i242_1 : Int, ∀ a242_1 : Int, 0 ≤ i242_1 → i242_1 < (M 85 4) → 0 ≤ ((6 * x2) + i242_1) ∧ ((6 * x2) + i242_1) < 78 := by intros; omega) (s5 : (¬ (M 85 0) ≤ x2) → -2147483648 ≤ (x1 + 1) ∧ (x1 + 1) < 2147483648 := by intros; omega) (s6 : (¬ (M 85 0) ≤ x2) → ∀ i242_1 : Int, ∀ a242_1 : Int, 0 ≤ i242_1 → i242_1 < (M 85 4) → 0 ≤ ((6 * (x1 + 1)) + i242_1) ∧ ((6 * (x1 + 1)) + i242_1) < 78 := by intros; omega) (s7 : (¬ (M 85 0) ≤ x2) → ∀ i242_1 : Int, ∀ a242_1 : Int, 0 ≤ i242_1 → i242_1 < (M 85 4) → 0 ≤ ((6 * x1) + i242_1) ∧ ((6 * x1) + i242_1) < 78 := by intros; omega) (s8 : (¬ (M 85 0) ≤ x2) → ((dsw (((v242 M (x2 + 1)) - (v242 M x2)))) ≤ (dsw (((v242 M (x1 + 1)) - (v242 M x1))))) → -2147483648 ≤ x2 + 1 ∧ x2 + 1 < 2147483648 := by intros; omega) (k2 : (¬ (M 85 0) ≤ x2) → ((dsw (((v242 M (x2 + 1)) - (v242 M x2)))) ≤ (dsw (((v242 M (x1 + 1)) - (v242 M x1))))) → bB 254 14 [uR 11 84, uI x1, uI (x2 + 1)] [] M Q) (s9 : (¬ (M 85 0) ≤ x2) → (¬ (dsw (((v242 M (x2 + 1)) - (v242 M x2)))) ≤ (dsw (((v242 M (x1 + 1)) - (v242 M x1))))) → -2147483648 ≤ x2 + 1 ∧ x2 + 1 < 2147483648 := by intros; omega) (k3 : (¬ (M 85 0) ≤ x2) → (¬ (dsw (((v242 M (x2 + 1)) - (v242 M x2)))) ≤ (dsw (((v242 M (x1 + 1)) - (v242 M x1))))) → bB 254 14 [uR 11 84, uI x2, uI (x2 + 1)] [] M Q) :
    bB 254 14 [uR 11 84, uI x1, uI x2] [] M Q := by
  refine b_iload_n (d254 (j := 9) rfl) rfl ?_
  refine b_aload_n (d254 (j := 10) rfl) rfl ?_
  refine b_callV (d254 (j := 11) rfl) rfl rfl (Or.inl rfl) rfl (bCk_mk (n := 1) (k := 1) (by decide +kernel) rfl rfl) (pu183  ?_)
  refine b_stk [uI (M 85 0), uI x2] rfl ?_
  refine b_icmp_ge (d254 (j := 12) rfl) (fun c1 => ?_) (fun c1 => ?_)
  ·
    refine b_iload_n (d254 (j := 38) rfl) rfl ?_
    exact b_iret (d254 (j := 39) rfl) rfl (k1 c1)
  ·
    refine b_aload_n (d254 (j := 13) rfl) rfl ?_
    refine b_iload_n (d254 (j := 14) rfl) rfl ?_
    refine b_iconst (d254 (j := 15) rfl) (by decide) ?_
    refine b_iadd (d254 (j := 16) rfl) rfl rfl ?_
    refine b_stk [uI (x2 + 1), uR 11 84] (by rw [dsw_r (s1 c1)]) ?_
    refine b_callV (d254 (j := 17) rfl) rfl rfl (Or.inl rfl) rfl (bCk_mk (n := 0) (k := 2) (by decide +kernel) rfl rfl) (fx242 (s2 c1) (s3 c1) ?_)
    refine b_stk [uI (v242 M (x2 + 1))] rfl ?_
    refine b_aload_n (d254 (j := 18) rfl) rfl ?_
    refine b_iload_n (d254 (j := 19) rfl) rfl ?_
    refine b_callV (d254 (j := 20) rfl) rfl rfl (Or.inl rfl) rfl (bCk_mk (n := 1) (k := 2) (by decide +kernel) rfl rfl) (fx242 (s4 c1) (s3 c1) ?_)
    refine b_stk [uI (v242 M x2), uI (v242 M (x2 + 1))] rfl ?_
    refine b_isub (d254 (j := 21) rfl) rfl rfl ?_
    refine b_aload_n (d254 (j := 22) rfl) rfl ?_
    refine b_iload_n (d254 (j := 23) rfl) rfl ?_
    refine b_iconst (d254 (j := 24) rfl) (by decide) ?_
    refine b_iadd (d254 (j := 25) rfl) rfl rfl ?_
    refine b_stk [uI (x1 + 1), uR 11 84, uI (dsw (((v242 M (x2 + 1)) - (v242 M x2))))] (by rw [dsw_r (s5 c1)]) ?_
    refine b_callV (d254 (j := 26) rfl) rfl rfl (Or.inl rfl) rfl (bCk_mk (n := 1) (k := 2) (by decide +kernel) rfl rfl) (fx242 (s6 c1) (s3 c1) ?_)
    refine b_stk [uI (v242 M (x1 + 1)), uI (dsw (((v242 M (x2 + 1)) - (v242 M x2))))] rfl ?_
    refine b_aload_n (d254 (j := 27) rfl) rfl ?_
    refine b_iload_n (d254 (j := 28) rfl) rfl ?_
    refine b_callV (d254 (j := 29) rfl) rfl rfl (Or.inl rfl) rfl (bCk_mk (n := 2) (k := 2) (by decide +kernel) rfl rfl) (fx242 (s7 c1) (s3 c1) ?_)
    refine b_stk [uI (v242 M x1), uI (v242 M (x1 + 1)), uI (dsw (((v242 M (x2 + 1)) - (v242 M x2))))] rfl ?_
    refine b_isub (d254 (j := 30) rfl) rfl rfl ?_
    refine b_icmp_le (d254 (j := 31) rfl) (fun c2 => ?_) (fun c2 => ?_)
    ·
      refine b_iload_n (d254 (j := 34) rfl) rfl ?_
      refine b_istore_n [uR 11 84, uI x1, uI x2] (d254 (j := 35) rfl) (by decide) rfl ?_
      refine b_iinc [uR 11 84, uI x1, uI (x2 + 1)] (d254 (j := 36) rfl) rfl (by decide) (s8 c1 c2) rfl ?_
      refine b_goto (d254 (j := 37) rfl) ?_
      exact (k2 c1 c2)
    ·
      refine b_iload_n (d254 (j := 32) rfl) rfl ?_
      refine b_goto (d254 (j := 33) rfl) ?_
      refine b_istore_n [uR 11 84, uI x2, uI x2] (d254 (j := 35) rfl) (by decide) rfl ?_
      refine b_iinc [uR 11 84, uI x2, uI (x2 + 1)] (d254 (j := 36) rfl) rfl (by decide) (s9 c1 c2) rfl ?_
      refine b_goto (d254 (j := 37) rfl) ?_
      exact (k3 c1 c2)
set_option maxRecDepth 100000 in
set_option maxHeartbeats 4000000 in
theorem r264n_0 {x1 : Int} {R1 : dsMem → Prop} {g1 : dsMem → Int} {M : dsMem} {Q : bQT} (hA1 : bCt 236 [uR 11 84, uI x1] M (fun M1 => [uI (g1 M1)]) R1) (k1 : ∀ M1 : dsMem, R1 M1 → (¬ (g1 M1) = 0) → bB 264 15 [uR 11 84, uI x1, uI (-1), uI 0] [] M1 Q) (k2 : ∀ M1 : dsMem, R1 M1 → ((g1 M1) = 0) → Q [uI (-2)] M1) :
    bB 264 0 [uR 11 84, uI x1, uX 0, uX 0] [] M Q := by
  refine b_aload_n (d264 (j := 0) rfl) rfl ?_
  refine b_iload_n (d264 (j := 1) rfl) rfl ?_
  refine b_callV (d264 (j := 2) rfl) rfl rfl (Or.inl rfl) rfl (bCk_mk (n := 0) (k := 2) (by decide +kernel) rfl rfl) ((hA1) _ (fun M1 hR1 => ?_))
  refine b_stk [uI (g1 M1)] rfl ?_
  refine b_if_ne (d264 (j := 3) rfl) (fun c1 => ?_) (fun c1 => ?_)
  ·
    refine b_iconst (d264 (j := 6) rfl) (by decide) ?_
    refine b_istore_n [uR 11 84, uI x1, uI (-1), uX 0] (d264 (j := 7) rfl) (by decide) rfl ?_
    refine b_iconst (d264 (j := 8) rfl) (by decide) ?_
    refine b_istore_n [uR 11 84, uI x1, uI (-1), uI 0] (d264 (j := 9) rfl) (by decide) rfl ?_
    exact (k1 M1 hR1 c1)
  ·
    refine b_bipush (d264 (j := 4) rfl) (by decide) ?_
    exact b_iret (d264 (j := 5) rfl) rfl (k2 M1 hR1 c1)
set_option maxRecDepth 100000 in
set_option maxHeartbeats 4000000 in
theorem r264n_15 {x1 x2 x3 : Int}  {M : dsMem} {Q : bQT} (k1 : ((M 85 4) ≤ x3) → Q [uI x2] M) (s1 : (¬ (M 85 4) ≤ x3) → (x2 = -1) → -2147483648 ≤ x3 + 1 ∧ x3 + 1 < 2147483648 := by intros; omega) (k2 : (¬ (M 85 4) ≤ x3) → (x2 = -1) → bB 264 15 [uR 11 84, uI x1, uI x3, uI (x3 + 1)] [] M Q) (s2 : (¬ (M 85 4) ≤ x3) → (¬ x2 = -1) → 0 ≤ ((6 * x1) + x3) ∧ ((6 * x1) + x3) < 78 := by intros; omega) (s3 : (¬ (M 85 4) ≤ x3) → (¬ x2 = -1) → 0 ≤ ((6 * x1) + x2) ∧ ((6 * x1) + x2) < 78 := by intros; omega) (s4 : (¬ (M 85 4) ≤ x3) → (¬ x2 = -1) → ((M 102 ((6 * x1) + x3)) ≤ (M 102 ((6 * x1) + x2))) → -2147483648 ≤ x3 + 1 ∧ x3 + 1 < 2147483648 := by intros; omega) (k3 : (¬ (M 85 4) ≤ x3) → (¬ x2 = -1) → ((M 102 ((6 * x1) + x3)) ≤ (M 102 ((6 * x1) + x2))) → bB 264 15 [uR 11 84, uI x1, uI x2, uI (x3 + 1)] [] M Q) (s5 : (¬ (M 85 4) ≤ x3) → (¬ x2 = -1) → (¬ (M 102 ((6 * x1) + x3)) ≤ (M 102 ((6 * x1) + x2))) → -2147483648 ≤ x3 + 1 ∧ x3 + 1 < 2147483648 := by intros; omega) (k4 : (¬ (M 85 4) ≤ x3) → (¬ x2 = -1) → (¬ (M 102 ((6 * x1) + x3)) ≤ (M 102 ((6 * x1) + x2))) → bB 264 15 [uR 11 84, uI x1, uI x3, uI (x3 + 1)] [] M Q) :
    bB 264 15 [uR 11 84, uI x1, uI x2, uI x3] [] M Q := by
  refine b_iload_n (d264 (j := 10) rfl) rfl ?_
  refine b_aload_n (d264 (j := 11) rfl) rfl ?_
  refine b_callV (d264 (j := 12) rfl) rfl rfl (Or.inl rfl) rfl (bCk_mk (n := 1) (k := 1) (by decide +kernel) rfl rfl) (pu185  ?_)
  refine b_stk [uI (M 85 4), uI x3] rfl ?_
  refine b_icmp_ge (d264 (j := 13) rfl) (fun c1 => ?_) (fun c1 => ?_)
  ·
    refine b_iload_n (d264 (j := 30) rfl) rfl ?_
    exact b_iret (d264 (j := 31) rfl) rfl (k1 c1)
  ·
    refine b_iload_n (d264 (j := 14) rfl) rfl ?_
    refine b_iconst (d264 (j := 15) rfl) (by decide) ?_
    refine b_icmp_eq (d264 (j := 16) rfl) (fun c2 => ?_) (fun c2 => ?_)
    ·
      refine b_iload_n (d264 (j := 26) rfl) rfl ?_
      refine b_istore_n [uR 11 84, uI x1, uI x3, uI x3] (d264 (j := 27) rfl) (by decide) rfl ?_
      refine b_iinc [uR 11 84, uI x1, uI x3, uI (x3 + 1)] (d264 (j := 28) rfl) rfl (by decide) (s1 c1 c2) rfl ?_
      refine b_goto (d264 (j := 29) rfl) ?_
      exact (k2 c1 c2)
    ·
      refine b_aload_n (d264 (j := 17) rfl) rfl ?_
      refine b_iload_n (d264 (j := 18) rfl) rfl ?_
      refine b_iload_n (d264 (j := 19) rfl) rfl ?_
      refine b_callV (d264 (j := 20) rfl) rfl rfl (Or.inl rfl) rfl (bCk_mk (n := 0) (k := 3) (by decide +kernel) rfl rfl) (pu240 (s2 c1 c2) ?_)
      refine b_stk [uI (M 102 ((6 * x1) + x3))] rfl ?_
      refine b_aload_n (d264 (j := 21) rfl) rfl ?_
      refine b_iload_n (d264 (j := 22) rfl) rfl ?_
      refine b_iload_n (d264 (j := 23) rfl) rfl ?_
      refine b_callV (d264 (j := 24) rfl) rfl rfl (Or.inl rfl) rfl (bCk_mk (n := 1) (k := 3) (by decide +kernel) rfl rfl) (pu240 (s3 c1 c2) ?_)
      refine b_stk [uI (M 102 ((6 * x1) + x2)), uI (M 102 ((6 * x1) + x3))] rfl ?_
      refine b_icmp_le (d264 (j := 25) rfl) (fun c3 => ?_) (fun c3 => ?_)
      ·
        refine b_iinc [uR 11 84, uI x1, uI x2, uI (x3 + 1)] (d264 (j := 28) rfl) rfl (by decide) (s4 c1 c2 c3) rfl ?_
        refine b_goto (d264 (j := 29) rfl) ?_
        exact (k3 c1 c2 c3)
      ·
        refine b_iload_n (d264 (j := 26) rfl) rfl ?_
        refine b_istore_n [uR 11 84, uI x1, uI x3, uI x3] (d264 (j := 27) rfl) (by decide) rfl ?_
        refine b_iinc [uR 11 84, uI x1, uI x3, uI (x3 + 1)] (d264 (j := 28) rfl) rfl (by decide) (s5 c1 c2 c3) rfl ?_
        refine b_goto (d264 (j := 29) rfl) ?_
        exact (k4 c1 c2 c3)
set_option maxRecDepth 100000 in
set_option maxHeartbeats 4000000 in
theorem r271n_0  {R1 : dsMem → Prop} {g1 : dsMem → Int} {M : dsMem} {Q : bQT} (hA1 : bCt 235 [uR 11 84] M (fun M1 => [uI (g1 M1)]) R1) (k1 : ∀ M1 : dsMem, R1 M1 → (¬ (g1 M1) = 0) → bB 271 14 [uR 11 84, uI (-1), uI 0] [] M1 Q) (k2 : ∀ M1 : dsMem, R1 M1 → ((g1 M1) = 0) → Q [uI (-2)] M1) :
    bB 271 0 [uR 11 84, uX 0, uX 0] [] M Q := by
  refine b_aload_n (d271 (j := 0) rfl) rfl ?_
  refine b_callV (d271 (j := 1) rfl) rfl rfl (Or.inl rfl) rfl (bCk_mk (n := 0) (k := 1) (by decide +kernel) rfl rfl) ((hA1) _ (fun M1 hR1 => ?_))
  refine b_stk [uI (g1 M1)] rfl ?_
  refine b_if_ne (d271 (j := 2) rfl) (fun c1 => ?_) (fun c1 => ?_)
  ·
    refine b_iconst (d271 (j := 5) rfl) (by decide) ?_
    refine b_istore_n [uR 11 84, uI (-1), uX 0] (d271 (j := 6) rfl) (by decide) rfl ?_
    refine b_iconst (d271 (j := 7) rfl) (by decide) ?_
    refine b_istore_n [uR 11 84, uI (-1), uI 0] (d271 (j := 8) rfl) (by decide) rfl ?_
    exact (k1 M1 hR1 c1)
  ·
    refine b_bipush (d271 (j := 3) rfl) (by decide) ?_
    exact b_iret (d271 (j := 4) rfl) rfl (k2 M1 hR1 c1)
set_option maxRecDepth 100000 in
set_option maxHeartbeats 4000000 in
theorem r271n_14 {x1 x2 : Int}  {M : dsMem} {Q : bQT} (k1 : ((M 85 3) ≤ x2) → Q [uI x1] M) (s1 : (¬ (M 85 3) ≤ x2) → 0 ≤ x2 ∧ x2 < 3 := by intros; omega) (s2 : (¬ (M 85 3) ≤ x2) → (¬ x1 = -1) → 0 ≤ x1 ∧ x1 < 3 := by intros; omega) (s3 : (¬ (M 85 3) ≤ x2) → (¬ x1 = -1) → ((M 97 x2) ≤ (M 97 x1)) → -2147483648 ≤ x2 + 1 ∧ x2 + 1 < 2147483648 := by intros; omega) (k2 : (¬ (M 85 3) ≤ x2) → (¬ x1 = -1) → ((M 97 x2) ≤ (M 97 x1)) → bB 271 14 [uR 11 84, uI x1, uI (x2 + 1)] [] M Q) (s4 : (¬ (M 85 3) ≤ x2) → (¬ x1 = -1) → (¬ (M 97 x2) ≤ (M 97 x1)) → -2147483648 ≤ x2 + 1 ∧ x2 + 1 < 2147483648 := by intros; omega) (k3 : (¬ (M 85 3) ≤ x2) → (¬ x1 = -1) → (¬ (M 97 x2) ≤ (M 97 x1)) → bB 271 14 [uR 11 84, uI x2, uI (x2 + 1)] [] M Q) (s5 : (¬ (M 85 3) ≤ x2) → (x1 = -1) → ((M 97 x2) ≤ 0) → -2147483648 ≤ x2 + 1 ∧ x2 + 1 < 2147483648 := by intros; omega) (k4 : (¬ (M 85 3) ≤ x2) → (x1 = -1) → ((M 97 x2) ≤ 0) → bB 271 14 [uR 11 84, uI x1, uI (x2 + 1)] [] M Q) (s6 : (¬ (M 85 3) ≤ x2) → (x1 = -1) → (¬ (M 97 x2) ≤ 0) → -2147483648 ≤ x2 + 1 ∧ x2 + 1 < 2147483648 := by intros; omega) (k5 : (¬ (M 85 3) ≤ x2) → (x1 = -1) → (¬ (M 97 x2) ≤ 0) → bB 271 14 [uR 11 84, uI x2, uI (x2 + 1)] [] M Q) :
    bB 271 14 [uR 11 84, uI x1, uI x2] [] M Q := by
  refine b_iload_n (d271 (j := 9) rfl) rfl ?_
  refine b_aload_n (d271 (j := 10) rfl) rfl ?_
  refine b_callV (d271 (j := 11) rfl) rfl rfl (Or.inl rfl) rfl (bCk_mk (n := 1) (k := 1) (by decide +kernel) rfl rfl) (pu184  ?_)
  refine b_stk [uI (M 85 3), uI x2] rfl ?_
  refine b_icmp_ge (d271 (j := 12) rfl) (fun c1 => ?_) (fun c1 => ?_)
  ·
    refine b_iload_n (d271 (j := 31) rfl) rfl ?_
    exact b_iret (d271 (j := 32) rfl) rfl (k1 c1)
  ·
    refine b_aload_n (d271 (j := 13) rfl) rfl ?_
    refine b_getR (d271 (j := 14) rfl) rfl rfl rfl rfl ?_
    refine b_stk [uR 23 97] rfl ?_
    refine b_iload_n (d271 (j := 15) rfl) rfl ?_
    refine b_iaload (d271 (j := 16) rfl) rfl (s1 c1) ?_
    refine b_iload_n (d271 (j := 17) rfl) rfl ?_
    refine b_iconst (d271 (j := 18) rfl) (by decide) ?_
    refine b_icmp_ne (d271 (j := 19) rfl) (fun c2 => ?_) (fun c2 => ?_)
    ·
      refine b_aload_n (d271 (j := 22) rfl) rfl ?_
      refine b_getR (d271 (j := 23) rfl) rfl rfl rfl rfl ?_
      refine b_stk [uR 23 97, uI (M 97 x2)] rfl ?_
      refine b_iload_n (d271 (j := 24) rfl) rfl ?_
      refine b_iaload (d271 (j := 25) rfl) rfl (s2 c1 c2) ?_
      refine b_icmp_le (d271 (j := 26) rfl) (fun c3 => ?_) (fun c3 => ?_)
      ·
        refine b_iinc [uR 11 84, uI x1, uI (x2 + 1)] (d271 (j := 29) rfl) rfl (by decide) (s3 c1 c2 c3) rfl ?_
        refine b_goto (d271 (j := 30) rfl) ?_
        exact (k2 c1 c2 c3)
      ·
        refine b_iload_n (d271 (j := 27) rfl) rfl ?_
        refine b_istore_n [uR 11 84, uI x2, uI x2] (d271 (j := 28) rfl) (by decide) rfl ?_
        refine b_iinc [uR 11 84, uI x2, uI (x2 + 1)] (d271 (j := 29) rfl) rfl (by decide) (s4 c1 c2 c3) rfl ?_
        refine b_goto (d271 (j := 30) rfl) ?_
        exact (k3 c1 c2 c3)
    ·
      refine b_iconst (d271 (j := 20) rfl) (by decide) ?_
      refine b_goto (d271 (j := 21) rfl) ?_
      refine b_icmp_le (d271 (j := 26) rfl) (fun c4 => ?_) (fun c4 => ?_)
      ·
        refine b_iinc [uR 11 84, uI x1, uI (x2 + 1)] (d271 (j := 29) rfl) rfl (by decide) (s5 c1 c2 c4) rfl ?_
        refine b_goto (d271 (j := 30) rfl) ?_
        exact (k4 c1 c2 c4)
      ·
        refine b_iload_n (d271 (j := 27) rfl) rfl ?_
        refine b_istore_n [uR 11 84, uI x2, uI x2] (d271 (j := 28) rfl) (by decide) rfl ?_
        refine b_iinc [uR 11 84, uI x2, uI (x2 + 1)] (d271 (j := 29) rfl) rfl (by decide) (s6 c1 c2 c4) rfl ?_
        refine b_goto (d271 (j := 30) rfl) ?_
        exact (k5 c1 c2 c4)
