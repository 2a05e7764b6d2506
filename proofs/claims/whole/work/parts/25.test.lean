def L24 : List (Nat × Instr × Nat × Nat) := [(0, .iconst 0, 1, 0), (1, .istore_n 2, 2, 0), (2, .iconst 0, 3, 0), (3, .istore_n 3, 4, 0), (4, .iload_n 3, 5, 0), (5, .aload_n 0, 6, 0), (6, .getfield 62, 9, 0), (9, .getfield 100, 12, 0), (12, .if_icmp .ge 22, 15, 34), (15, .iload_n 2, 16, 0), (16, .aload_n 0, 17, 0), (17, .getfield 28, 20, 0), (20, .iload_n 3, 21, 0), (21, .iload_n 1, 22, 0), (22, .invokestatic 117, 25, 0), (25, .iaload, 26, 0), (26, .iadd, 27, 0), (27, .istore_n 2, 28, 0), (28, .iinc 3 1, 31, 0), (31, .goto (-27), 34, 4), (34, .iload_n 2, 35, 0), (35, .ireturn, 36, 0)]
set_option maxRecDepth 100000 in
theorem L24_ok : L24.all (dck 24) = true := by decide +kernel
theorem d24 {j pc nx tg : Nat} {ins : Instr} (hj : L24[j]? = some (pc, ins, nx, tg)) : dcd 24 pc ins nx tg := dcl_ok L24_ok hj
def v24 (M : dsMem) (x0 x1 : Int) : Int := (dsIter (fun (i24_1 : Int) (a24_1 : Int) => (dsw ((a24_1 + (M (x0 + 5) ((x1 * 6) + i24_1)))))) 0 (M 24 5) 0)
set_option maxRecDepth 100000 in
set_option maxHeartbeats 4000000 in
theorem fx24 {x0 x1 : Int} {M : dsMem} {Q : bQT} (s1 : ∀ i24_1 : Int, ∀ a24_1 : Int, 0 ≤ i24_1 → i24_1 < (M 24 5) → -2147483648 ≤ ((x1 * 6) + i24_1) ∧ ((x1 * 6) + i24_1) < 2147483648 := by intros; omega) (s2 : ∀ i24_1 : Int, ∀ a24_1 : Int, 0 ≤ i24_1 → i24_1 < (M 24 5) → 0 ≤ ((x1 * 6) + i24_1) ∧ ((x1 * 6) + i24_1) < 78 := by intros; omega) (s3 : ∀ i24_1 : Int, ∀ a24_1 : Int, 0 ≤ i24_1 → i24_1 < (M 24 5) → -2147483648 ≤ i24_1 + 1 ∧ i24_1 + 1 < 2147483648 := by intros; omega) (k : Q [uI (v24 M x0 x1)] M) :
    bB 24 0 [uR 5 x0, uI x1, uX 0, uX 0] [] M Q := by
  unfold v24 at k
  refine b_iconst (d24 (j := 0) rfl) (by decide) ?_
  refine b_istore_n [uR 5 x0, uI x1, uI 0, uX 0] (d24 (j := 1) rfl) (by decide) rfl ?_
  refine b_iconst (d24 (j := 2) rfl) (by decide) ?_
  refine b_istore_n [uR 5 x0, uI x1, uI 0, uI 0] (d24 (j := 3) rfl) (by decide) rfl ?_
  refine b_for (fun (i24_1 : Int) (a24_1 : Int) => [uR 5 x0, uI x1, uI a24_1, uI i24_1]) (fun (i24_1 : Int) (a24_1 : Int) => (dsw ((a24_1 + (M (x0 + 5) ((x1 * 6) + i24_1)))))) 0 (M 24 5) 0 (fun i24_1 a24_1 h24_1l h24_1r hk24_1 => ?_) (fun i24_1 h24_1l h24_1r => ?_)
  ·
    refine b_iload_n (d24 (j := 4) rfl) rfl ?_
    refine b_aload_n (d24 (j := 5) rfl) rfl ?_
    refine b_getRA (d24 (j := 6) rfl) rfl rfl rfl rfl ?_
    refine b_getI (d24 (j := 7) rfl) rfl rfl rfl rfl (Or.inl rfl) ?_
    refine b_stk [uI (M 24 5), uI i24_1] rfl ?_
    refine b_icmp_ge (d24 (j := 8) rfl) (fun c1 => ?_) (fun c1 => ?_)
    · exfalso; omega
    ·
      refine b_iload_n (d24 (j := 9) rfl) rfl ?_
      refine b_aload_n (d24 (j := 10) rfl) rfl ?_
      refine b_getR (d24 (j := 11) rfl) rfl rfl rfl rfl ?_
      refine b_iload_n (d24 (j := 12) rfl) rfl ?_
      refine b_iload_n (d24 (j := 13) rfl) rfl ?_
      refine b_callS (d24 (j := 14) rfl) (Or.inr rfl) rfl (bCk_mk (n := 2) (k := 2) (by decide +kernel) rfl rfl) (pu146 (s1 i24_1 a24_1 h24_1l h24_1r) ?_)
      refine b_stk [uI ((x1 * 6) + i24_1), uR 25 (x0 + 5), uI a24_1] rfl ?_
      refine b_iaload (d24 (j := 15) rfl) rfl (s2 i24_1 a24_1 h24_1l h24_1r) ?_
      refine b_iadd (d24 (j := 16) rfl) rfl rfl ?_
      refine b_istore_n [uR 5 x0, uI x1, uI (dsw ((a24_1 + (M (x0 + 5) ((x1 * 6) + i24_1))))), uI i24_1] (d24 (j := 17) rfl) (by decide) rfl ?_
      refine b_iinc [uR 5 x0, uI x1, uI (dsw ((a24_1 + (M (x0 + 5) ((x1 * 6) + i24_1))))), uI (i24_1 + 1)] (d24 (j := 18) rfl) rfl (by decide) (s3 i24_1 a24_1 h24_1l h24_1r) rfl ?_
      refine b_goto (d24 (j := 19) rfl) ?_
      exact hk24_1
  ·
    refine b_iload_n (d24 (j := 4) rfl) rfl ?_
    refine b_aload_n (d24 (j := 5) rfl) rfl ?_
    refine b_getRA (d24 (j := 6) rfl) rfl rfl rfl rfl ?_
    refine b_getI (d24 (j := 7) rfl) rfl rfl rfl rfl (Or.inl rfl) ?_
    refine b_stk [uI (M 24 5), uI i24_1] rfl ?_
    refine b_icmp_ge (d24 (j := 8) rfl) (fun c2 => ?_) (fun c2 => ?_)
    rotate_left
    · exfalso; omega
    ·
      refine b_iload_n (d24 (j := 20) rfl) rfl ?_
      exact b_iret (d24 (j := 21) rfl) rfl k
def L23 : List (Nat × Instr × Nat × Nat) := [(0, .iconst 0, 1, 0), (1, .istore_n 3, 2, 0), (2, .iconst 0, 3, 0), (3, .istore 4, 5, 0), (5, .iload 4, 7, 0), (7, .aload_n 0, 8, 0), (8, .getfield 62, 11, 0), (11, .getfield 100, 14, 0), (14, .if_icmp .ge 37, 17, 51), (17, .aload_n 0, 18, 0), (18, .getfield 62, 21, 0), (21, .getfield 168, 24, 0), (24, .iload 4, 26, 0), (26, .iaload, 27, 0), (27, .iload_n 1, 28, 0), (28, .if_icmp .ne 17, 31, 45), (31, .iload_n 3, 32, 0), (32, .aload_n 0, 33, 0), (33, .getfield 28, 36, 0), (36, .iload 4, 38, 0), (38, .iload_n 2, 39, 0), (39, .invokestatic 117, 42, 0), (42, .iaload, 43, 0), (43, .iadd, 44, 0), (44, .istore_n 3, 45, 0), (45, .iinc 4 1, 48, 0), (48, .goto (-43), 51, 5), (51, .iload_n 3, 52, 0), (52, .ireturn, 53, 0)]
set_option maxRecDepth 100000 in
theorem L23_ok : L23.all (dck 23) = true := by decide +kernel
theorem d23 {j pc nx tg : Nat} {ins : Instr} (hj : L23[j]? = some (pc, ins, nx, tg)) : dcd 23 pc ins nx tg := dcl_ok L23_ok hj
def v23 (M : dsMem) (x0 x1 x2 : Int) : Int := (dsIter (fun (i23_1 : Int) (a23_1 : Int) => (if (M 29 i23_1) = x1 then (dsw ((a23_1 + (M (x0 + 5) ((x2 * 6) + i23_1))))) else a23_1)) 0 (M 24 5) 0)
set_option maxRecDepth 100000 in
set_option maxHeartbeats 4000000 in
theorem fx23 {x0 x1 x2 : Int} {M : dsMem} {Q : bQT} (s1 : ∀ i23_1 : Int, ∀ a23_1 : Int, 0 ≤ i23_1 → i23_1 < (M 24 5) → 0 ≤ i23_1 ∧ i23_1 < 6 := by intros; omega) (s2 : ∀ i23_1 : Int, ∀ a23_1 : Int, 0 ≤ i23_1 → i23_1 < (M 24 5) → -2147483648 ≤ i23_1 + 1 ∧ i23_1 + 1 < 2147483648 := by intros; omega) (s3 : ∀ i23_1 : Int, ∀ a23_1 : Int, 0 ≤ i23_1 → i23_1 < (M 24 5) → ((M 29 i23_1) = x1) → -2147483648 ≤ ((x2 * 6) + i23_1) ∧ ((x2 * 6) + i23_1) < 2147483648 := by intros; omega) (s4 : ∀ i23_1 : Int, ∀ a23_1 : Int, 0 ≤ i23_1 → i23_1 < (M 24 5) → ((M 29 i23_1) = x1) → 0 ≤ ((x2 * 6) + i23_1) ∧ ((x2 * 6) + i23_1) < 78 := by intros; omega) (k : Q [uI (v23 M x0 x1 x2)] M) :
    bB 23 0 [uR 5 x0, uI x1, uI x2, uX 0, uX 0] [] M Q := by
  unfold v23 at k
  refine b_iconst (d23 (j := 0) rfl) (by decide) ?_
  refine b_istore_n [uR 5 x0, uI x1, uI x2, uI 0, uX 0] (d23 (j := 1) rfl) (by decide) rfl ?_
  refine b_iconst (d23 (j := 2) rfl) (by decide) ?_
  refine b_istore [uR 5 x0, uI x1, uI x2, uI 0, uI 0] (d23 (j := 3) rfl) (by decide) rfl ?_
  refine b_for (fun (i23_1 : Int) (a23_1 : Int) => [uR 5 x0, uI x1, uI x2, uI a23_1, uI i23_1]) (fun (i23_1 : Int) (a23_1 : Int) => (if (M 29 i23_1) = x1 then (dsw ((a23_1 + (M (x0 + 5) ((x2 * 6) + i23_1))))) else a23_1)) 0 (M 24 5) 0 (fun i23_1 a23_1 h23_1l h23_1r hk23_1 => ?_) (fun i23_1 h23_1l h23_1r => ?_)
  ·
    refine b_iload (d23 (j := 4) rfl) rfl ?_
    refine b_aload_n (d23 (j := 5) rfl) rfl ?_
    refine b_getRA (d23 (j := 6) rfl) rfl rfl rfl rfl ?_
    refine b_getI (d23 (j := 7) rfl) rfl rfl rfl rfl (Or.inl rfl) ?_
    refine b_stk [uI (M 24 5), uI i23_1] rfl ?_
    refine b_icmp_ge (d23 (j := 8) rfl) (fun c1 => ?_) (fun c1 => ?_)
    · exfalso; omega
    ·
      refine b_aload_n (d23 (j := 9) rfl) rfl ?_
      refine b_getRA (d23 (j := 10) rfl) rfl rfl rfl rfl ?_
      refine b_getR (d23 (j := 11) rfl) rfl rfl rfl rfl ?_
      refine b_stk [uR 21 29] rfl ?_
      refine b_iload (d23 (j := 12) rfl) rfl ?_
      refine b_iaload (d23 (j := 13) rfl) rfl (s1 i23_1 a23_1 h23_1l h23_1r) ?_
      refine b_iload_n (d23 (j := 14) rfl) rfl ?_
      refine b_icmp_ne (d23 (j := 15) rfl) (fun c2 => ?_) (fun c2 => ?_)
      ·
        rw [if_neg c2] at hk23_1
        refine b_iinc [uR 5 x0, uI x1, uI x2, uI a23_1, uI (i23_1 + 1)] (d23 (j := 25) rfl) rfl (by decide) (s2 i23_1 a23_1 h23_1l h23_1r) rfl ?_
        refine b_goto (d23 (j := 26) rfl) ?_
        exact hk23_1
      ·
        rw [if_pos c2] at hk23_1
        refine b_iload_n (d23 (j := 16) rfl) rfl ?_
        refine b_aload_n (d23 (j := 17) rfl) rfl ?_
        refine b_getR (d23 (j := 18) rfl) rfl rfl rfl rfl ?_
        refine b_iload (d23 (j := 19) rfl) rfl ?_
        refine b_iload_n (d23 (j := 20) rfl) rfl ?_
        refine b_callS (d23 (j := 21) rfl) (Or.inr rfl) rfl (bCk_mk (n := 2) (k := 2) (by decide +kernel) rfl rfl) (pu146 (s3 i23_1 a23_1 h23_1l h23_1r c2) ?_)
        refine b_stk [uI ((x2 * 6) + i23_1), uR 25 (x0 + 5), uI a23_1] rfl ?_
        refine b_iaload (d23 (j := 22) rfl) rfl (s4 i23_1 a23_1 h23_1l h23_1r c2) ?_
        refine b_iadd (d23 (j := 23) rfl) rfl rfl ?_
        refine b_istore_n [uR 5 x0, uI x1, uI x2, uI (dsw ((a23_1 + (M (x0 + 5) ((x2 * 6) + i23_1))))), uI i23_1] (d23 (j := 24) rfl) (by decide) rfl ?_
        refine b_iinc [uR 5 x0, uI x1, uI x2, uI (dsw ((a23_1 + (M (x0 + 5) ((x2 * 6) + i23_1))))), uI (i23_1 + 1)] (d23 (j := 25) rfl) rfl (by decide) (s2 i23_1 a23_1 h23_1l h23_1r) rfl ?_
        refine b_goto (d23 (j := 26) rfl) ?_
        exact hk23_1
  ·
    refine b_iload (d23 (j := 4) rfl) rfl ?_
    refine b_aload_n (d23 (j := 5) rfl) rfl ?_
    refine b_getRA (d23 (j := 6) rfl) rfl rfl rfl rfl ?_
    refine b_getI (d23 (j := 7) rfl) rfl rfl rfl rfl (Or.inl rfl) ?_
    refine b_stk [uI (M 24 5), uI i23_1] rfl ?_
    refine b_icmp_ge (d23 (j := 8) rfl) (fun c3 => ?_) (fun c3 => ?_)
    rotate_left
    · exfalso; omega
    ·
      refine b_iload_n (d23 (j := 27) rfl) rfl ?_
      exact b_iret (d23 (j := 28) rfl) rfl k
def L25 : List (Nat × Instr × Nat × Nat) := [(0, .iconst 0, 1, 0), (1, .istore_n 3, 2, 0), (2, .iconst 0, 3, 0), (3, .istore 4, 5, 0), (5, .iload 4, 7, 0), (7, .aload_n 0, 8, 0), (8, .getfield 25, 11, 0), (11, .iload_n 1, 12, 0), (12, .iaload, 13, 0), (13, .if_icmp .ge 40, 16, 53), (16, .aload_n 0, 17, 0), (17, .getfield 18, 20, 0), (20, .iload_n 1, 21, 0), (21, .bipush 60, 23, 0), (23, .imul, 24, 0), (24, .iload 4, 26, 0), (26, .iadd, 27, 0), (27, .iaload, 28, 0), (28, .iload_n 2, 29, 0), (29, .if_icmp .ne 18, 32, 47), (32, .iload_n 3, 33, 0), (33, .aload_n 0, 34, 0), (34, .getfield 22, 37, 0), (37, .iload_n 1, 38, 0), (38, .bipush 60, 40, 0), (40, .imul, 41, 0), (41, .iload 4, 43, 0), (43, .iadd, 44, 0), (44, .iaload, 45, 0), (45, .iadd, 46, 0), (46, .istore_n 3, 47, 0), (47, .iinc 4 1, 50, 0), (50, .goto (-45), 53, 5), (53, .iload_n 3, 54, 0), (54, .ireturn, 55, 0)]
set_option maxRecDepth 100000 in
theorem L25_ok : L25.all (dck 25) = true := by decide +kernel
theorem d25 {j pc nx tg : Nat} {ins : Instr} (hj : L25[j]? = some (pc, ins, nx, tg)) : dcd 25 pc ins nx tg := dcl_ok L25_ok hj
def v25 (M : dsMem) (x0 x1 x2 : Int) : Int := (dsIter (fun (i25_1 : Int) (a25_1 : Int) => (if (M (x0 + 2) ((x1 * 60) + i25_1)) = x2 then (dsw ((a25_1 + (M (x0 + 3) ((x1 * 60) + i25_1))))) else a25_1)) 0 (M (x0 + 4) x1) 0)
set_option maxRecDepth 100000 in
set_option maxHeartbeats 4000000 in
theorem fx25 {x0 x1 x2 : Int} {M : dsMem} {Q : bQT} (s1 : ∀ i25_1 : Int, ∀ a25_1 : Int, 0 ≤ i25_1 → i25_1 < (M (x0 + 4) x1) → 0 ≤ x1 ∧ x1 < 78 := by intros; omega) (s2 : ∀ i25_1 : Int, ∀ a25_1 : Int, 0 ≤ i25_1 → i25_1 < (M (x0 + 4) x1) → 0 ≤ ((x1 * 60) + i25_1) ∧ ((x1 * 60) + i25_1) < 4680 := by intros; omega) (s3 : ∀ i25_1 : Int, ∀ a25_1 : Int, 0 ≤ i25_1 → i25_1 < (M (x0 + 4) x1) → -2147483648 ≤ i25_1 + 1 ∧ i25_1 + 1 < 2147483648 := by intros; omega) (s4 : 0 ≤ x1 ∧ x1 < 78 := by intros; omega) (k : Q [uI (v25 M x0 x1 x2)] M) :
    bB 25 0 [uR 5 x0, uI x1, uI x2, uX 0, uX 0] [] M Q := by
  unfold v25 at k
  refine b_iconst (d25 (j := 0) rfl) (by decide) ?_
  refine b_istore_n [uR 5 x0, uI x1, uI x2, uI 0, uX 0] (d25 (j := 1) rfl) (by decide) rfl ?_
  refine b_iconst (d25 (j := 2) rfl) (by decide) ?_
  refine b_istore [uR 5 x0, uI x1, uI x2, uI 0, uI 0] (d25 (j := 3) rfl) (by decide) rfl ?_
  refine b_for (fun (i25_1 : Int) (a25_1 : Int) => [uR 5 x0, uI x1, uI x2, uI a25_1, uI i25_1]) (fun (i25_1 : Int) (a25_1 : Int) => (if (M (x0 + 2) ((x1 * 60) + i25_1)) = x2 then (dsw ((a25_1 + (M (x0 + 3) ((x1 * 60) + i25_1))))) else a25_1)) 0 (M (x0 + 4) x1) 0 (fun i25_1 a25_1 h25_1l h25_1r hk25_1 => ?_) (fun i25_1 h25_1l h25_1r => ?_)
  ·
    refine b_iload (d25 (j := 4) rfl) rfl ?_
    refine b_aload_n (d25 (j := 5) rfl) rfl ?_
    refine b_getR (d25 (j := 6) rfl) rfl rfl rfl rfl ?_
    refine b_iload_n (d25 (j := 7) rfl) rfl ?_
    refine b_iaload (d25 (j := 8) rfl) rfl (s1 i25_1 a25_1 h25_1l h25_1r) ?_
    refine b_icmp_ge (d25 (j := 9) rfl) (fun c1 => ?_) (fun c1 => ?_)
    · exfalso; omega
    ·
      refine b_aload_n (d25 (j := 10) rfl) rfl ?_
      refine b_getR (d25 (j := 11) rfl) rfl rfl rfl rfl ?_
      refine b_iload_n (d25 (j := 12) rfl) rfl ?_
      refine b_bipush (d25 (j := 13) rfl) (by decide) ?_
      refine b_imul (d25 (j := 14) rfl) rfl rfl ?_
      refine b_iload (d25 (j := 15) rfl) rfl ?_
      refine b_iadd (d25 (j := 16) rfl) (dsw_dsw _) rfl ?_
      refine b_stk [uI ((x1 * 60) + i25_1), uR 24 (x0 + 2)] (by rw [dsw_b (s2 i25_1 a25_1 h25_1l h25_1r) (by decide)]) ?_
      refine b_iaload (d25 (j := 17) rfl) rfl (s2 i25_1 a25_1 h25_1l h25_1r) ?_
      refine b_iload_n (d25 (j := 18) rfl) rfl ?_
      refine b_icmp_ne (d25 (j := 19) rfl) (fun c2 => ?_) (fun c2 => ?_)
      ·
        rw [if_neg c2] at hk25_1
        refine b_iinc [uR 5 x0, uI x1, uI x2, uI a25_1, uI (i25_1 + 1)] (d25 (j := 31) rfl) rfl (by decide) (s3 i25_1 a25_1 h25_1l h25_1r) rfl ?_
        refine b_goto (d25 (j := 32) rfl) ?_
        exact hk25_1
      ·
        rw [if_pos c2] at hk25_1
        refine b_iload_n (d25 (j := 20) rfl) rfl ?_
        refine b_aload_n (d25 (j := 21) rfl) rfl ?_
        refine b_getR (d25 (j := 22) rfl) rfl rfl rfl rfl ?_
        refine b_iload_n (d25 (j := 23) rfl) rfl ?_
        refine b_bipush (d25 (j := 24) rfl) (by decide) ?_
        refine b_imul (d25 (j := 25) rfl) rfl rfl ?_
        refine b_iload (d25 (j := 26) rfl) rfl ?_
        refine b_iadd (d25 (j := 27) rfl) (dsw_dsw _) rfl ?_
        refine b_stk [uI ((x1 * 60) + i25_1), uR 24 (x0 + 3), uI a25_1] (by rw [dsw_b (s2 i25_1 a25_1 h25_1l h25_1r) (by decide)]) ?_
        refine b_iaload (d25 (j := 28) rfl) rfl (s2 i25_1 a25_1 h25_1l h25_1r) ?_
        refine b_iadd (d25 (j := 29) rfl) rfl rfl ?_
        refine b_istore_n [uR 5 x0, uI x1, uI x2, uI (dsw ((a25_1 + (M (x0 + 3) ((x1 * 60) + i25_1))))), uI i25_1] (d25 (j := 30) rfl) (by decide) rfl ?_
        refine b_iinc [uR 5 x0, uI x1, uI x2, uI (dsw ((a25_1 + (M (x0 + 3) ((x1 * 60) + i25_1))))), uI (i25_1 + 1)] (d25 (j := 31) rfl) rfl (by decide) (s3 i25_1 a25_1 h25_1l h25_1r) rfl ?_
        refine b_goto (d25 (j := 32) rfl) ?_
        exact hk25_1
  ·
    refine b_iload (d25 (j := 4) rfl) rfl ?_
    refine b_aload_n (d25 (j := 5) rfl) rfl ?_
    refine b_getR (d25 (j := 6) rfl) rfl rfl rfl rfl ?_
    refine b_iload_n (d25 (j := 7) rfl) rfl ?_
    refine b_iaload (d25 (j := 8) rfl) rfl s4 ?_
    refine b_icmp_ge (d25 (j := 9) rfl) (fun c3 => ?_) (fun c3 => ?_)
    rotate_left
    · exfalso; omega
    ·
      refine b_iload_n (d25 (j := 33) rfl) rfl ?_
      exact b_iret (d25 (j := 34) rfl) rfl k
def L178 : List (Nat × Instr × Nat × Nat) := [(0, .iconst 0, 1, 0), (1, .istore_n 1, 2, 0), (2, .iconst 0, 3, 0), (3, .istore_n 2, 4, 0), (4, .iload_n 2, 5, 0), (5, .bipush 16, 7, 0), (7, .if_icmp .ge 17, 10, 24), (10, .iload_n 1, 11, 0), (11, .iload_n 0, 12, 0), (12, .iload_n 2, 13, 0), (13, .ishr, 14, 0), (14, .iconst 1, 15, 0), (15, .iand, 16, 0), (16, .iadd, 17, 0), (17, .istore_n 1, 18, 0), (18, .iinc 2 1, 21, 0), (21, .goto (-17), 24, 4), (24, .iload_n 1, 25, 0), (25, .ireturn, 26, 0)]
set_option maxRecDepth 100000 in
theorem L178_ok : L178.all (dck 178) = true := by decide +kernel
theorem d178 {j pc nx tg : Nat} {ins : Instr} (hj : L178[j]? = some (pc, ins, nx, tg)) : dcd 178 pc ins nx tg := dcl_ok L178_ok hj
def v178 (M : dsMem) (x0 : Int) : Int := (dsIter (fun (i178_1 : Int) (a178_1 : Int) => (dsw ((a178_1 + (dsAnd (dsShr x0 i178_1) 1))))) 0 16 0)
set_option maxRecDepth 100000 in
set_option maxHeartbeats 4000000 in
theorem fx178 {x0 : Int} {M : dsMem} {Q : bQT} (s1 : ∀ i178_1 : Int, ∀ a178_1 : Int, 0 ≤ i178_1 → i178_1 < 16 → -2147483648 ≤ i178_1 + 1 ∧ i178_1 + 1 < 2147483648 := by intros; omega) (k : Q [uI (v178 M x0)] M) :
    bB 178 0 [uI x0, uX 0, uX 0] [] M Q := by
  unfold v178 at k
  refine b_iconst (d178 (j := 0) rfl) (by decide) ?_
  refine b_istore_n [uI x0, uI 0, uX 0] (d178 (j := 1) rfl) (by decide) rfl ?_
  refine b_iconst (d178 (j := 2) rfl) (by decide) ?_
  refine b_istore_n [uI x0, uI 0, uI 0] (d178 (j := 3) rfl) (by decide) rfl ?_
  refine b_for (fun (i178_1 : Int) (a178_1 : Int) => [uI x0, uI a178_1, uI i178_1]) (fun (i178_1 : Int) (a178_1 : Int) => (dsw ((a178_1 + (dsAnd (dsShr x0 i178_1) 1))))) 0 16 0 (fun i178_1 a178_1 h178_1l h178_1r hk178_1 => ?_) (fun i178_1 h178_1l h178_1r => ?_)
  ·
    refine b_iload_n (d178 (j := 4) rfl) rfl ?_
    refine b_bipush (d178 (j := 5) rfl) (by decide) ?_
    refine b_icmp_ge (d178 (j := 6) rfl) (fun c1 => ?_) (fun c1 => ?_)
    · exfalso; omega
    ·
      refine b_iload_n (d178 (j := 7) rfl) rfl ?_
      refine b_iload_n (d178 (j := 8) rfl) rfl ?_
      refine b_iload_n (d178 (j := 9) rfl) rfl ?_
      refine b_ishr (d178 (j := 10) rfl) ?_
      refine b_iconst (d178 (j := 11) rfl) (by decide) ?_
      refine b_iand (d178 (j := 12) rfl) ?_
      refine b_iadd (d178 (j := 13) rfl) rfl rfl ?_
      refine b_istore_n [uI x0, uI (dsw ((a178_1 + (dsAnd (dsShr x0 i178_1) 1)))), uI i178_1] (d178 (j := 14) rfl) (by decide) rfl ?_
      refine b_iinc [uI x0, uI (dsw ((a178_1 + (dsAnd (dsShr x0 i178_1) 1)))), uI (i178_1 + 1)] (d178 (j := 15) rfl) rfl (by decide) (s1 i178_1 a178_1 h178_1l h178_1r) rfl ?_
      refine b_goto (d178 (j := 16) rfl) ?_
      exact hk178_1
  ·
    refine b_iload_n (d178 (j := 4) rfl) rfl ?_
    refine b_bipush (d178 (j := 5) rfl) (by decide) ?_
    refine b_icmp_ge (d178 (j := 6) rfl) (fun c2 => ?_) (fun c2 => ?_)
    rotate_left
    · exfalso; omega
    ·
      refine b_iload_n (d178 (j := 17) rfl) rfl ?_
      exact b_iret (d178 (j := 18) rfl) rfl k
def L218 : List (Nat × Instr × Nat × Nat) := [(0, .iconst 0, 1, 0), (1, .istore_n 2, 2, 0), (2, .iconst 0, 3, 0), (3, .istore_n 3, 4, 0), (4, .iload_n 3, 5, 0), (5, .aload_n 0, 6, 0), (6, .invokevirtual 116, 9, 0), (9, .if_icmp .ge 28, 12, 37), (12, .iload_n 2, 13, 0), (13, .aload_n 0, 14, 0), (14, .iload_n 3, 15, 0), (15, .invokevirtual 271, 18, 0), (18, .iload_n 1, 19, 0), (19, .if_icmp .ne 9, 22, 28), (22, .iconst 1, 23, 0), (23, .iload_n 3, 24, 0), (24, .ishl, 25, 0), (25, .goto 4, 28, 29), (28, .iconst 0, 29, 0), (29, .ior, 30, 0), (30, .istore_n 2, 31, 0), (31, .iinc 3 1, 34, 0), (34, .goto (-30), 37, 4), (37, .iload_n 2, 38, 0), (38, .ireturn, 39, 0)]
set_option maxRecDepth 100000 in
theorem L218_ok : L218.all (dck 218) = true := by decide +kernel
theorem d218 {j pc nx tg : Nat} {ins : Instr} (hj : L218[j]? = some (pc, ins, nx, tg)) : dcd 218 pc ins nx tg := dcl_ok L218_ok hj
def v218 (M : dsMem) (x1 : Int) : Int := (dsIter (fun (i218_1 : Int) (a218_1 : Int) => (if (M 85 ((15 + (3 * i218_1)) + 2)) = x1 then (dsOr a218_1 (dsShl 1 i218_1)) else (dsOr a218_1 0))) 0 (M 85 4) 0)
set_option maxRecDepth 100000 in
set_option maxHeartbeats 4000000 in
theorem fx218 {x1 : Int} {M : dsMem} {Q : bQT} (s1 : ∀ i218_1 : Int, ∀ a218_1 : Int, 0 ≤ i218_1 → i218_1 < (M 85 4) → 0 ≤ ((15 + (3 * i218_1)) + 2) ∧ ((15 + (3 * i218_1)) + 2) < 105 := by intros; omega) (s2 : ∀ i218_1 : Int, ∀ a218_1 : Int, 0 ≤ i218_1 → i218_1 < (M 85 4) → -2147483648 ≤ i218_1 + 1 ∧ i218_1 + 1 < 2147483648 := by intros; omega) (k : Q [uI (v218 M x1)] M) :
    bB 218 0 [uR 11 84, uI x1, uX 0, uX 0] [] M Q := by
  unfold v218 at k
  refine b_iconst (d218 (j := 0) rfl) (by decide) ?_
  refine b_istore_n [uR 11 84, uI x1, uI 0, uX 0] (d218 (j := 1) rfl) (by decide) rfl ?_
  refine b_iconst (d218 (j := 2) rfl) (by decide) ?_
  refine b_istore_n [uR 11 84, uI x1, uI 0, uI 0] (d218 (j := 3) rfl) (by decide) rfl ?_
  refine b_for (fun (i218_1 : Int) (a218_1 : Int) => [uR 11 84, uI x1, uI a218_1, uI i218_1]) (fun (i218_1 : Int) (a218_1 : Int) => (if (M 85 ((15 + (3 * i218_1)) + 2)) = x1 then (dsOr a218_1 (dsShl 1 i218_1)) else (dsOr a218_1 0))) 0 (M 85 4) 0 (fun i218_1 a218_1 h218_1l h218_1r hk218_1 => ?_) (fun i218_1 h218_1l h218_1r => ?_)
  ·
    refine b_iload_n (d218 (j := 4) rfl) rfl ?_
    refine b_aload_n (d218 (j := 5) rfl) rfl ?_
    refine b_callV (d218 (j := 6) rfl) rfl rfl (Or.inl rfl) rfl (bCk_mk (n := 1) (k := 1) (by decide +kernel) rfl rfl) (pu185  ?_)
    refine b_stk [uI (M 85 4), uI i218_1] rfl ?_
    refine b_icmp_ge (d218 (j := 7) rfl) (fun c1 => ?_) (fun c1 => ?_)
    · exfalso; omega
    ·
      refine b_iload_n (d218 (j := 8) rfl) rfl ?_
      refine b_aload_n (d218 (j := 9) rfl) rfl ?_
      refine b_iload_n (d218 (j := 10) rfl) rfl ?_
      refine b_callV (d218 (j := 11) rfl) rfl rfl (Or.inl rfl) rfl (bCk_mk (n := 1) (k := 2) (by decide +kernel) rfl rfl) (pu193 (s1 i218_1 a218_1 h218_1l h218_1r) ?_)
      refine b_stk [uI (M 85 ((15 + (3 * i218_1)) + 2)), uI a218_1] rfl ?_
      refine b_iload_n (d218 (j := 12) rfl) rfl ?_
      refine b_icmp_ne (d218 (j := 13) rfl) (fun c2 => ?_) (fun c2 => ?_)
      ·
        rw [if_neg c2] at hk218_1
        refine b_iconst (d218 (j := 18) rfl) (by decide) ?_
        refine b_ior (d218 (j := 19) rfl) ?_
        refine b_istore_n [uR 11 84, uI x1, uI (dsOr a218_1 0), uI i218_1] (d218 (j := 20) rfl) (by decide) rfl ?_
        refine b_iinc [uR 11 84, uI x1, uI (dsOr a218_1 0), uI (i218_1 + 1)] (d218 (j := 21) rfl) rfl (by decide) (s2 i218_1 a218_1 h218_1l h218_1r) rfl ?_
        refine b_goto (d218 (j := 22) rfl) ?_
        exact hk218_1
      ·
        rw [if_pos c2] at hk218_1
        refine b_iconst (d218 (j := 14) rfl) (by decide) ?_
        refine b_iload_n (d218 (j := 15) rfl) rfl ?_
        refine b_ishl (d218 (j := 16) rfl) ?_
        refine b_goto (d218 (j := 17) rfl) ?_
        refine b_ior (d218 (j := 19) rfl) ?_
        refine b_istore_n [uR 11 84, uI x1, uI (dsOr a218_1 (dsShl 1 i218_1)), uI i218_1] (d218 (j := 20) rfl) (by decide) rfl ?_
        refine b_iinc [uR 11 84, uI x1, uI (dsOr a218_1 (dsShl 1 i218_1)), uI (i218_1 + 1)] (d218 (j := 21) rfl) rfl (by decide) (s2 i218_1 a218_1 h218_1l h218_1r) rfl ?_
        refine b_goto (d218 (j := 22) rfl) ?_
        exact hk218_1
  ·
    refine b_iload_n (d218 (j := 4) rfl) rfl ?_
    refine b_aload_n (d218 (j := 5) rfl) rfl ?_
    refine b_callV (d218 (j := 6) rfl) rfl rfl (Or.inl rfl) rfl (bCk_mk (n := 1) (k := 1) (by decide +kernel) rfl rfl) (pu185  ?_)
    refine b_stk [uI (M 85 4), uI i218_1] rfl ?_
    refine b_icmp_ge (d218 (j := 7) rfl) (fun c3 => ?_) (fun c3 => ?_)
    rotate_left
    · exfalso; omega
    ·
      refine b_iload_n (d218 (j := 23) rfl) rfl ?_
      exact b_iret (d218 (j := 24) rfl) rfl k
def L224 : List (Nat × Instr × Nat × Nat) := [(0, .iload_n 1, 1, 0), (1, .iconst 1, 2, 0), (2, .iadd, 3, 0), (3, .istore_n 2, 4, 0), (4, .iload_n 2, 5, 0), (5, .aload_n 0, 6, 0), (6, .invokevirtual 116, 9, 0), (9, .if_icmp .ge 32, 12, 41), (12, .aload_n 0, 13, 0), (13, .getfield 277, 16, 0), (16, .iconst 2, 17, 0), (17, .if_icmp .eq 16, 20, 33), (20, .aload_n 0, 21, 0), (21, .iload_n 2, 22, 0), (22, .invokevirtual 271, 25, 0), (25, .aload_n 0, 26, 0), (26, .iload_n 1, 27, 0), (27, .invokevirtual 271, 30, 0), (30, .if_icmp .ne 5, 33, 35), (33, .iload_n 2, 34, 0), (34, .ireturn, 35, 0), (35, .iinc 2 1, 38, 0), (38, .goto (-34), 41, 4), (41, .iconst (-1), 42, 0), (42, .ireturn, 43, 0)]
set_option maxRecDepth 100000 in
theorem L224_ok : L224.all (dck 224) = true := by decide +kernel
theorem d224 {j pc nx tg : Nat} {ins : Instr} (hj : L224[j]? = some (pc, ins, nx, tg)) : dcd 224 pc ins nx tg := dcl_ok L224_ok hj
def v224 (M : dsMem) (x1 : Int) : Int := (if (dsFind (fun (i224_1 : Int) => ((M 84 17) = 2) ∨ (¬ ((M 84 17) = 2) ∧ (M 85 ((15 + (3 * i224_1)) + 2)) = (M 85 ((15 + (3 * x1)) + 2)))) (x1 + 1) (M 85 4)) < (M 85 4) then (dsFind (fun (i224_1 : Int) => ((M 84 17) = 2) ∨ (¬ ((M 84 17) = 2) ∧ (M 85 ((15 + (3 * i224_1)) + 2)) = (M 85 ((15 + (3 * x1)) + 2)))) (x1 + 1) (M 85 4)) else -1)
set_option maxRecDepth 100000 in
set_option maxHeartbeats 4000000 in
theorem fx224 {x1 : Int} {M : dsMem} {Q : bQT} (s1 : -2147483648 ≤ (x1 + 1) ∧ (x1 + 1) < 2147483648 := by intros; omega) (s2 : ∀ i224_1 : Int, (x1 + 1) ≤ i224_1 → i224_1 < (M 85 4) → (¬ (M 84 17) = 2) → 0 ≤ ((15 + (3 * i224_1)) + 2) ∧ ((15 + (3 * i224_1)) + 2) < 105 := by intros; omega) (s3 : ∀ i224_1 : Int, (x1 + 1) ≤ i224_1 → i224_1 < (M 85 4) → (¬ (M 84 17) = 2) → 0 ≤ ((15 + (3 * x1)) + 2) ∧ ((15 + (3 * x1)) + 2) < 105 := by intros; omega) (s4 : ∀ i224_1 : Int, (x1 + 1) ≤ i224_1 → i224_1 < (M 85 4) → -2147483648 ≤ i224_1 + 1 ∧ i224_1 + 1 < 2147483648 := by intros; omega) (s5 : ((dsFind (fun (i224_1 : Int) => ((M 84 17) = 2) ∨ (¬ ((M 84 17) = 2) ∧ (M 85 ((15 + (3 * i224_1)) + 2)) = (M 85 ((15 + (3 * x1)) + 2)))) (x1 + 1) (M 85 4)) < (M 85 4)) → 0 ≤ ((15 + (3 * (dsFind (fun (i224_1 : Int) => ((M 84 17) = 2) ∨ (¬ ((M 84 17) = 2) ∧ (M 85 ((15 + (3 * i224_1)) + 2)) = (M 85 ((15 + (3 * x1)) + 2)))) (x1 + 1) (M 85 4)))) + 2) ∧ ((15 + (3 * (dsFind (fun (i224_1 : Int) => ((M 84 17) = 2) ∨ (¬ ((M 84 17) = 2) ∧ (M 85 ((15 + (3 * i224_1)) + 2)) = (M 85 ((15 + (3 * x1)) + 2)))) (x1 + 1) (M 85 4)))) + 2) < 105 := by intros; omega) (s6 : ((dsFind (fun (i224_1 : Int) => ((M 84 17) = 2) ∨ (¬ ((M 84 17) = 2) ∧ (M 85 ((15 + (3 * i224_1)) + 2)) = (M 85 ((15 + (3 * x1)) + 2)))) (x1 + 1) (M 85 4)) < (M 85 4)) → 0 ≤ ((15 + (3 * x1)) + 2) ∧ ((15 + (3 * x1)) + 2) < 105 := by intros; omega) (s7 : ((dsFind (fun (i224_1 : Int) => ((M 84 17) = 2) ∨ (¬ ((M 84 17) = 2) ∧ (M 85 ((15 + (3 * i224_1)) + 2)) = (M 85 ((15 + (3 * x1)) + 2)))) (x1 + 1) (M 85 4)) < (M 85 4)) → -2147483648 ≤ (dsFind (fun (i224_1 : Int) => ((M 84 17) = 2) ∨ (¬ ((M 84 17) = 2) ∧ (M 85 ((15 + (3 * i224_1)) + 2)) = (M 85 ((15 + (3 * x1)) + 2)))) (x1 + 1) (M 85 4)) + 1 ∧ (dsFind (fun (i224_1 : Int) => ((M 84 17) = 2) ∨ (¬ ((M 84 17) = 2) ∧ (M 85 ((15 + (3 * i224_1)) + 2)) = (M 85 ((15 + (3 * x1)) + 2)))) (x1 + 1) (M 85 4)) + 1 < 2147483648 := by intros; omega) (k : Q [uI (v224 M x1)] M) :
    bB 224 0 [uR 11 84, uI x1, uX 0] [] M Q := by
  unfold v224 at k
  refine b_iload_n (d224 (j := 0) rfl) rfl ?_
  refine b_iconst (d224 (j := 1) rfl) (by decide) ?_
  refine b_iadd (d224 (j := 2) rfl) rfl rfl ?_
  refine b_stk [uI (x1 + 1)] (by rw [dsw_r s1]) ?_
  refine b_istore_n [uR 11 84, uI x1, uI (x1 + 1)] (d224 (j := 3) rfl) (by decide) rfl ?_
  refine b_find (fun (i224_1 : Int) => [uR 11 84, uI x1, uI i224_1]) (fun (i224_1 : Int) => ((M 84 17) = 2) ∨ (¬ ((M 84 17) = 2) ∧ (M 85 ((15 + (3 * i224_1)) + 2)) = (M 85 ((15 + (3 * x1)) + 2)))) (x1 + 1) (M 85 4) (fun i224_1 h224_1l h224_1r hn hk224_1 => ?_) (fun i224_1 h224_1l h224_1r hp he => ?_) (fun i224_1 h224_1l h224_1r he => ?_)
  ·
    refine b_iload_n (d224 (j := 4) rfl) rfl ?_
    refine b_aload_n (d224 (j := 5) rfl) rfl ?_
    refine b_callV (d224 (j := 6) rfl) rfl rfl (Or.inl rfl) rfl (bCk_mk (n := 1) (k := 1) (by decide +kernel) rfl rfl) (pu185  ?_)
    refine b_stk [uI (M 85 4), uI i224_1] rfl ?_
    refine b_icmp_ge (d224 (j := 7) rfl) (fun c1 => ?_) (fun c1 => ?_)
    · exfalso; omega
    ·
      refine b_aload_n (d224 (j := 8) rfl) rfl ?_
      refine b_getI (d224 (j := 9) rfl) rfl rfl rfl rfl (Or.inl rfl) ?_
      refine b_stk [uI (M 84 17)] rfl ?_
      refine b_iconst (d224 (j := 10) rfl) (by decide) ?_
      refine b_icmp_eq (d224 (j := 11) rfl) (fun c2 => ?_) (fun c2 => ?_)
      ·
        refine b_iload_n (d224 (j := 19) rfl) rfl ?_
        exfalso; omega
      ·
        refine b_aload_n (d224 (j := 12) rfl) rfl ?_
        refine b_iload_n (d224 (j := 13) rfl) rfl ?_
        refine b_callV (d224 (j := 14) rfl) rfl rfl (Or.inl rfl) rfl (bCk_mk (n := 0) (k := 2) (by decide +kernel) rfl rfl) (pu193 (s2 i224_1 h224_1l h224_1r c2) ?_)
        refine b_stk [uI (M 85 ((15 + (3 * i224_1)) + 2))] rfl ?_
        refine b_aload_n (d224 (j := 15) rfl) rfl ?_
        refine b_iload_n (d224 (j := 16) rfl) rfl ?_
        refine b_callV (d224 (j := 17) rfl) rfl rfl (Or.inl rfl) rfl (bCk_mk (n := 1) (k := 2) (by decide +kernel) rfl rfl) (pu193 (s3 i224_1 h224_1l h224_1r c2) ?_)
        refine b_stk [uI (M 85 ((15 + (3 * x1)) + 2)), uI (M 85 ((15 + (3 * i224_1)) + 2))] rfl ?_
        refine b_icmp_ne (d224 (j := 18) rfl) (fun c3 => ?_) (fun c3 => ?_)
        ·
          refine b_iinc [uR 11 84, uI x1, uI (i224_1 + 1)] (d224 (j := 21) rfl) rfl (by decide) (s4 i224_1 h224_1l h224_1r) rfl ?_
          refine b_goto (d224 (j := 22) rfl) ?_
          exact hk224_1
        ·
          refine b_iload_n (d224 (j := 19) rfl) rfl ?_
          exfalso; omega
  ·
    subst he
    rw [if_pos h224_1r] at k
    refine b_iload_n (d224 (j := 4) rfl) rfl ?_
    refine b_aload_n (d224 (j := 5) rfl) rfl ?_
    refine b_callV (d224 (j := 6) rfl) rfl rfl (Or.inl rfl) rfl (bCk_mk (n := 1) (k := 1) (by decide +kernel) rfl rfl) (pu185  ?_)
    refine b_stk [uI (M 85 4), uI (dsFind (fun (i224_1 : Int) => ((M 84 17) = 2) ∨ (¬ ((M 84 17) = 2) ∧ (M 85 ((15 + (3 * i224_1)) + 2)) = (M 85 ((15 + (3 * x1)) + 2)))) (x1 + 1) (M 85 4))] rfl ?_
    refine b_icmp_ge (d224 (j := 7) rfl) (fun c4 => ?_) (fun c4 => ?_)
    · exfalso; omega
    ·
      refine b_aload_n (d224 (j := 8) rfl) rfl ?_
      refine b_getI (d224 (j := 9) rfl) rfl rfl rfl rfl (Or.inl rfl) ?_
      refine b_stk [uI (M 84 17)] rfl ?_
      refine b_iconst (d224 (j := 10) rfl) (by decide) ?_
      refine b_icmp_eq (d224 (j := 11) rfl) (fun c5 => ?_) (fun c5 => ?_)
      ·
        refine b_iload_n (d224 (j := 19) rfl) rfl ?_
        exact b_iret (d224 (j := 20) rfl) rfl k
      ·
        refine b_aload_n (d224 (j := 12) rfl) rfl ?_
        refine b_iload_n (d224 (j := 13) rfl) rfl ?_
        refine b_callV (d224 (j := 14) rfl) rfl rfl (Or.inl rfl) rfl (bCk_mk (n := 0) (k := 2) (by decide +kernel) rfl rfl) (pu193 (s5 h224_1r) ?_)
        refine b_stk [uI (M 85 ((15 + (3 * (dsFind (fun (i224_1 : Int) => ((M 84 17) = 2) ∨ (¬ ((M 84 17) = 2) ∧ (M 85 ((15 + (3 * i224_1)) + 2)) = (M 85 ((15 + (3 * x1)) + 2)))) (x1 + 1) (M 85 4)))) + 2))] rfl ?_
        refine b_aload_n (d224 (j := 15) rfl) rfl ?_
        refine b_iload_n (d224 (j := 16) rfl) rfl ?_
        refine b_callV (d224 (j := 17) rfl) rfl rfl (Or.inl rfl) rfl (bCk_mk (n := 1) (k := 2) (by decide +kernel) rfl rfl) (pu193 (s6 h224_1r) ?_)
        refine b_stk [uI (M 85 ((15 + (3 * x1)) + 2)), uI (M 85 ((15 + (3 * (dsFind (fun (i224_1 : Int) => ((M 84 17) = 2) ∨ (¬ ((M 84 17) = 2) ∧ (M 85 ((15 + (3 * i224_1)) + 2)) = (M 85 ((15 + (3 * x1)) + 2)))) (x1 + 1) (M 85 4)))) + 2))] rfl ?_
        refine b_icmp_ne (d224 (j := 18) rfl) (fun c6 => ?_) (fun c6 => ?_)
        ·
          refine b_iinc [uR 11 84, uI x1, uI ((dsFind (fun (i224_1 : Int) => ((M 84 17) = 2) ∨ (¬ ((M 84 17) = 2) ∧ (M 85 ((15 + (3 * i224_1)) + 2)) = (M 85 ((15 + (3 * x1)) + 2)))) (x1 + 1) (M 85 4)) + 1)] (d224 (j := 21) rfl) rfl (by decide) (s7 h224_1r) rfl ?_
          refine b_goto (d224 (j := 22) rfl) ?_
          exfalso; omega
        ·
          refine b_iload_n (d224 (j := 19) rfl) rfl ?_
          exact b_iret (d224 (j := 20) rfl) rfl k
  ·
    rw [if_neg he] at k
    refine b_iload_n (d224 (j := 4) rfl) rfl ?_
    refine b_aload_n (d224 (j := 5) rfl) rfl ?_
    refine b_callV (d224 (j := 6) rfl) rfl rfl (Or.inl rfl) rfl (bCk_mk (n := 1) (k := 1) (by decide +kernel) rfl rfl) (pu185  ?_)
    refine b_stk [uI (M 85 4), uI i224_1] rfl ?_
    refine b_icmp_ge (d224 (j := 7) rfl) (fun c7 => ?_) (fun c7 => ?_)
    rotate_left
    · exfalso; omega
    ·
      refine b_iconst (d224 (j := 23) rfl) (by decide) ?_
      exact b_iret (d224 (j := 24) rfl) rfl k
def L87 : List (Nat × Instr × Nat × Nat) := [(0, .aload_n 0, 1, 0), (1, .iload_n 1, 2, 0), (2, .invokevirtual 196, 5, 0), (5, .ifCond .ne 6, 8, 11), (8, .bipush (-2), 10, 0), (10, .ireturn, 11, 0), (11, .aload_n 0, 12, 0), (12, .invokevirtual 149, 15, 0), (15, .astore_n 2, 16, 0), (16, .iconst 0, 17, 0), (17, .istore_n 3, 18, 0), (18, .iconst 0, 19, 0), (19, .istore 4, 21, 0), (21, .iload 4, 23, 0), (23, .aload_n 0, 24, 0), (24, .getfield 23, 27, 0), (27, .getfield 142, 30, 0), (30, .if_icmp .ge 30, 33, 60), (33, .aload_n 2, 34, 0), (34, .getfield 153, 37, 0), (37, .iload 4, 39, 0), (39, .iload_n 1, 40, 0), (40, .invokestatic 156, 43, 0), (43, .iaload, 44, 0), (44, .ifCond .ne 10, 47, 54), (47, .iload_n 3, 48, 0), (48, .iconst 1, 49, 0), (49, .iload 4, 51, 0), (51, .ishl, 52, 0), (52, .ior, 53, 0), (53, .istore_n 3, 54, 0), (54, .iinc 4 1, 57, 0), (57, .goto (-36), 60, 21), (60, .iload_n 3, 61, 0), (61, .ireturn, 62, 0)]
set_option maxRecDepth 100000 in
theorem L87_ok : L87.all (dck 87) = true := by decide +kernel
theorem d87 {j pc nx tg : Nat} {ins : Instr} (hj : L87[j]? = some (pc, ins, nx, tg)) : dcd 87 pc ins nx tg := dcl_ok L87_ok hj
set_option maxRecDepth 100000 in
set_option maxHeartbeats 4000000 in
theorem r87_0 {x1 : Int} {R1 : dsMem → Prop} {M : dsMem} {Q : bQT} (hA1 : ((0 < (M 24 0) ∧ 0 ≤ x1 ∧ x1 ≤ (M 24 1))) → bCt 157 [uR 10 0] M (fun M1 => [uR 5 47]) R1) (s1 : ((0 < (M 24 0) ∧ 0 ≤ x1 ∧ x1 ≤ (M 24 1))) → ∀ M1 : dsMem, R1 M1 → ∀ i87_1 : Int, ∀ a87_1 : Int, 0 ≤ i87_1 → i87_1 < (M1 24 5) → -2147483648 ≤ ((x1 * 6) + i87_1) ∧ ((x1 * 6) + i87_1) < 2147483648 := by intros; omega) (s2 : ((0 < (M 24 0) ∧ 0 ≤ x1 ∧ x1 ≤ (M 24 1))) → ∀ M1 : dsMem, R1 M1 → ∀ i87_1 : Int, ∀ a87_1 : Int, 0 ≤ i87_1 → i87_1 < (M1 24 5) → 0 ≤ ((x1 * 6) + i87_1) ∧ ((x1 * 6) + i87_1) < 78 := by intros; omega) (s3 : ((0 < (M 24 0) ∧ 0 ≤ x1 ∧ x1 ≤ (M 24 1))) → ∀ M1 : dsMem, R1 M1 → ∀ i87_1 : Int, ∀ a87_1 : Int, 0 ≤ i87_1 → i87_1 < (M1 24 5) → -2147483648 ≤ i87_1 + 1 ∧ i87_1 + 1 < 2147483648 := by intros; omega) (k1 : ((0 < (M 24 0) ∧ 0 ≤ x1 ∧ x1 ≤ (M 24 1))) → ∀ M1 : dsMem, R1 M1 → Q [uI (dsIter (fun (i87_1 : Int) (a87_1 : Int) => (if (M1 52 ((x1 * 6) + i87_1)) = 0 then (dsOr a87_1 (dsShl 1 i87_1)) else a87_1)) 0 (M1 24 5) 0)] M1) (k2 : (¬ (0 < (M 24 0) ∧ 0 ≤ x1 ∧ x1 ≤ (M 24 1))) → Q [uI (-2)] M) :
    bB 87 0 [uR 10 0, uI x1, uX 0, uX 0, uX 0] [] M Q := by
  refine b_aload_n (d87 (j := 0) rfl) rfl ?_
  refine b_iload_n (d87 (j := 1) rfl) rfl ?_
  refine b_callV (d87 (j := 2) rfl) rfl rfl (Or.inl rfl) rfl (bCk_mk (n := 0) (k := 2) (by decide +kernel) rfl rfl) (pu152  ?_)
  refine b_stk [uI (if (0 < (M 24 0) ∧ 0 ≤ x1 ∧ x1 ≤ (M 24 1)) then 1 else 0)] rfl ?_
  refine b_ifneP (d87 (j := 3) rfl) (fun c1 => ?_) (fun c1 => ?_)
  ·
    refine b_aload_n (d87 (j := 6) rfl) rfl ?_
    refine b_callV (d87 (j := 7) rfl) rfl rfl (Or.inl rfl) rfl (bCk_mk (n := 0) (k := 1) (by decide +kernel) rfl rfl) ((hA1 c1) _ (fun M1 hR1 => ?_))
    refine b_stk [uR 5 47] rfl ?_
    refine b_astore_n [uR 10 0, uI x1, uR 5 47, uX 0, uX 0] (d87 (j := 8) rfl) (by decide) rfl ?_
    refine b_iconst (d87 (j := 9) rfl) (by decide) ?_
    refine b_istore_n [uR 10 0, uI x1, uR 5 47, uI 0, uX 0] (d87 (j := 10) rfl) (by decide) rfl ?_
    refine b_iconst (d87 (j := 11) rfl) (by decide) ?_
    refine b_istore [uR 10 0, uI x1, uR 5 47, uI 0, uI 0] (d87 (j := 12) rfl) (by decide) rfl ?_
    refine b_for (fun (i87_1 : Int) (a87_1 : Int) => [uR 10 0, uI x1, uR 5 47, uI a87_1, uI i87_1]) (fun (i87_1 : Int) (a87_1 : Int) => (if (M1 52 ((x1 * 6) + i87_1)) = 0 then (dsOr a87_1 (dsShl 1 i87_1)) else a87_1)) 0 (M1 24 5) 0 (fun i87_1 a87_1 h87_1l h87_1r hk87_1 => ?_) (fun i87_1 h87_1l h87_1r => ?_)
    ·
      refine b_iload (d87 (j := 13) rfl) rfl ?_
      refine b_aload_n (d87 (j := 14) rfl) rfl ?_
      refine b_getR (d87 (j := 15) rfl) rfl rfl rfl rfl ?_
      refine b_stk [uR 4 24, uI i87_1] rfl ?_
      refine b_getI (d87 (j := 16) rfl) rfl rfl rfl rfl (Or.inl rfl) ?_
      refine b_stk [uI (M1 24 5), uI i87_1] rfl ?_
      refine b_icmp_ge (d87 (j := 17) rfl) (fun c2 => ?_) (fun c2 => ?_)
      · exfalso; omega
      ·
        refine b_aload_n (d87 (j := 18) rfl) rfl ?_
        refine b_getR (d87 (j := 19) rfl) rfl rfl rfl rfl ?_
        refine b_stk [uR 25 52] rfl ?_
        refine b_iload (d87 (j := 20) rfl) rfl ?_
        refine b_iload_n (d87 (j := 21) rfl) rfl ?_
        refine b_callS (d87 (j := 22) rfl) (Or.inl rfl) rfl (bCk_mk (n := 1) (k := 2) (by decide +kernel) rfl rfl) (pu146 (s1 c1 M1 hR1 i87_1 a87_1 h87_1l h87_1r) ?_)
        refine b_stk [uI ((x1 * 6) + i87_1), uR 25 52] rfl ?_
        refine b_iaload (d87 (j := 23) rfl) rfl (s2 c1 M1 hR1 i87_1 a87_1 h87_1l h87_1r) ?_
        refine b_if_ne (d87 (j := 24) rfl) (fun c3 => ?_) (fun c3 => ?_)
        ·
          rw [if_neg c3] at hk87_1
          refine b_iinc [uR 10 0, uI x1, uR 5 47, uI a87_1, uI (i87_1 + 1)] (d87 (j := 31) rfl) rfl (by decide) (s3 c1 M1 hR1 i87_1 a87_1 h87_1l h87_1r) rfl ?_
          refine b_goto (d87 (j := 32) rfl) ?_
          exact hk87_1
        ·
          rw [if_pos c3] at hk87_1
          refine b_iload_n (d87 (j := 25) rfl) rfl ?_
          refine b_iconst (d87 (j := 26) rfl) (by decide) ?_
          refine b_iload (d87 (j := 27) rfl) rfl ?_
          refine b_ishl (d87 (j := 28) rfl) ?_
          refine b_ior (d87 (j := 29) rfl) ?_
          refine b_istore_n [uR 10 0, uI x1, uR 5 47, uI (dsOr a87_1 (dsShl 1 i87_1)), uI i87_1] (d87 (j := 30) rfl) (by decide) rfl ?_
          refine b_iinc [uR 10 0, uI x1, uR 5 47, uI (dsOr a87_1 (dsShl 1 i87_1)), uI (i87_1 + 1)] (d87 (j := 31) rfl) rfl (by decide) (s3 c1 M1 hR1 i87_1 a87_1 h87_1l h87_1r) rfl ?_
          refine b_goto (d87 (j := 32) rfl) ?_
          exact hk87_1
    ·
      refine b_iload (d87 (j := 13) rfl) rfl ?_
      refine b_aload_n (d87 (j := 14) rfl) rfl ?_
      refine b_getR (d87 (j := 15) rfl) rfl rfl rfl rfl ?_
      refine b_stk [uR 4 24, uI i87_1] rfl ?_
      refine b_getI (d87 (j := 16) rfl) rfl rfl rfl rfl (Or.inl rfl) ?_
      refine b_stk [uI (M1 24 5), uI i87_1] rfl ?_
      refine b_icmp_ge (d87 (j := 17) rfl) (fun c4 => ?_) (fun c4 => ?_)
      rotate_left
      · exfalso; omega
      ·
        refine b_iload_n (d87 (j := 33) rfl) rfl ?_
        exact b_iret (d87 (j := 34) rfl) rfl (k1 c1 M1 hR1)
  ·
    refine b_bipush (d87 (j := 4) rfl) (by decide) ?_
    exact b_iret (d87 (j := 5) rfl) rfl (k2 c1)
def L86 : List (Nat × Instr × Nat × Nat) := [(0, .aload_n 0, 1, 0), (1, .invokevirtual 179, 4, 0), (4, .ifCond .ne 6, 7, 10), (7, .bipush (-2), 9, 0), (9, .ireturn, 10, 0), (10, .aload_n 0, 11, 0), (11, .invokevirtual 149, 14, 0), (14, .astore_n 1, 15, 0), (15, .iconst 0, 16, 0), (16, .istore_n 2, 17, 0), (17, .iload_n 2, 18, 0), (18, .aload_n 0, 19, 0), (19, .getfield 23, 22, 0), (22, .getfield 186, 25, 0), (25, .if_icmp .gt 27, 28, 52), (28, .aload_n 1, 29, 0), (29, .getfield 189, 32, 0), (32, .iload_n 2, 33, 0), (33, .iaload, 34, 0), (34, .aload_n 0, 35, 0), (35, .getfield 23, 38, 0), (38, .invokevirtual 192, 41, 0), (41, .if_icmp .eq 5, 44, 46), (44, .iload_n 2, 45, 0), (45, .ireturn, 46, 0), (46, .iinc 2 1, 49, 0), (49, .goto (-32), 52, 17), (52, .iconst (-1), 53, 0), (53, .ireturn, 54, 0)]
set_option maxRecDepth 100000 in
theorem L86_ok : L86.all (dck 86) = true := by decide +kernel
theorem d86 {j pc nx tg : Nat} {ins : Instr} (hj : L86[j]? = some (pc, ins, nx, tg)) : dcd 86 pc ins nx tg := dcl_ok L86_ok hj
set_option maxRecDepth 100000 in
set_option maxHeartbeats 4000000 in
theorem r86_0  {R1 : dsMem → Prop} {M : dsMem} {Q : bQT} (hA1 : ((0 < (M 24 0))) → bCt 157 [uR 10 0] M (fun M1 => [uR 5 47]) R1) (s1 : ((0 < (M 24 0))) → ∀ M1 : dsMem, R1 M1 → ∀ i86_1 : Int, 0 ≤ i86_1 → i86_1 < ((M1 24 1) + 1) → 0 ≤ i86_1 ∧ i86_1 < 13 := by intros; omega) (s2 : ((0 < (M 24 0))) → ∀ M1 : dsMem, R1 M1 → ∀ i86_1 : Int, 0 ≤ i86_1 → i86_1 < ((M1 24 1) + 1) → -2147483648 ≤ ((dsShl 1 (M1 24 4)) - 1) ∧ ((dsShl 1 (M1 24 4)) - 1) < 2147483648 := by intros; omega) (s3 : ((0 < (M 24 0))) → ∀ M1 : dsMem, R1 M1 → ∀ i86_1 : Int, 0 ≤ i86_1 → i86_1 < ((M1 24 1) + 1) → -2147483648 ≤ i86_1 + 1 ∧ i86_1 + 1 < 2147483648 := by intros; omega) (s4 : ((0 < (M 24 0))) → ∀ M1 : dsMem, R1 M1 → ((dsFind (fun (i86_1 : Int) => ¬ ((M1 54 i86_1) = ((dsShl 1 (M1 24 4)) - 1))) 0 ((M1 24 1) + 1)) < ((M1 24 1) + 1)) → 0 ≤ (dsFind (fun (i86_1 : Int) => ¬ ((M1 54 i86_1) = ((dsShl 1 (M1 24 4)) - 1))) 0 ((M1 24 1) + 1)) ∧ (dsFind (fun (i86_1 : Int) => ¬ ((M1 54 i86_1) = ((dsShl 1 (M1 24 4)) - 1))) 0 ((M1 24 1) + 1)) < 13 := by intros; omega) (s5 : ((0 < (M 24 0))) → ∀ M1 : dsMem, R1 M1 → ((dsFind (fun (i86_1 : Int) => ¬ ((M1 54 i86_1) = ((dsShl 1 (M1 24 4)) - 1))) 0 ((M1 24 1) + 1)) < ((M1 24 1) + 1)) → -2147483648 ≤ ((dsShl 1 (M1 24 4)) - 1) ∧ ((dsShl 1 (M1 24 4)) - 1) < 2147483648 := by intros; omega) (s6 : ((0 < (M 24 0))) → ∀ M1 : dsMem, R1 M1 → ((dsFind (fun (i86_1 : Int) => ¬ ((M1 54 i86_1) = ((dsShl 1 (M1 24 4)) - 1))) 0 ((M1 24 1) + 1)) < ((M1 24 1) + 1)) → -2147483648 ≤ (dsFind (fun (i86_1 : Int) => ¬ ((M1 54 i86_1) = ((dsShl 1 (M1 24 4)) - 1))) 0 ((M1 24 1) + 1)) + 1 ∧ (dsFind (fun (i86_1 : Int) => ¬ ((M1 54 i86_1) = ((dsShl 1 (M1 24 4)) - 1))) 0 ((M1 24 1) + 1)) + 1 < 2147483648 := by intros; omega) (k1 : ((0 < (M 24 0))) → ∀ M1 : dsMem, R1 M1 → ((dsFind (fun (i86_1 : Int) => ¬ ((M1 54 i86_1) = ((dsShl 1 (M1 24 4)) - 1))) 0 ((M1 24 1) + 1)) < ((M1 24 1) + 1)) → Q [uI (dsFind (fun (i86_1 : Int) => ¬ ((M1 54 i86_1) = ((dsShl 1 (M1 24 4)) - 1))) 0 ((M1 24 1) + 1))] M1) (k2 : ((0 < (M 24 0))) → ∀ M1 : dsMem, R1 M1 → (¬ (dsFind (fun (i86_1 : Int) => ¬ ((M1 54 i86_1) = ((dsShl 1 (M1 24 4)) - 1))) 0 ((M1 24 1) + 1)) < ((M1 24 1) + 1)) → Q [uI (-1)] M1) (k3 : (¬ (0 < (M 24 0))) → Q [uI (-2)] M) :
    bB 86 0 [uR 10 0, uX 0, uX 0] [] M Q := by
  refine b_aload_n (d86 (j := 0) rfl) rfl ?_
  refine b_callV (d86 (j := 1) rfl) rfl rfl (Or.inl rfl) rfl (bCk_mk (n := 0) (k := 1) (by decide +kernel) rfl rfl) (pu149  ?_)
  refine b_stk [uI (if (0 < (M 24 0)) then 1 else 0)] rfl ?_
  refine b_ifneP (d86 (j := 2) rfl) (fun c1 => ?_) (fun c1 => ?_)
  ·
    refine b_aload_n (d86 (j := 5) rfl) rfl ?_
    refine b_callV (d86 (j := 6) rfl) rfl rfl (Or.inl rfl) rfl (bCk_mk (n := 0) (k := 1) (by decide +kernel) rfl rfl) ((hA1 c1) _ (fun M1 hR1 => ?_))
    refine b_stk [uR 5 47] rfl ?_
    refine b_astore_n [uR 10 0, uR 5 47, uX 0] (d86 (j := 7) rfl) (by decide) rfl ?_
    refine b_iconst (d86 (j := 8) rfl) (by decide) ?_
    refine b_istore_n [uR 10 0, uR 5 47, uI 0] (d86 (j := 9) rfl) (by decide) rfl ?_
    refine b_find (fun (i86_1 : Int) => [uR 10 0, uR 5 47, uI i86_1]) (fun (i86_1 : Int) => ¬ ((M1 54 i86_1) = ((dsShl 1 (M1 24 4)) - 1))) 0 ((M1 24 1) + 1) (fun i86_1 h86_1l h86_1r hn hk86_1 => ?_) (fun i86_1 h86_1l h86_1r hp he => ?_) (fun i86_1 h86_1l h86_1r he => ?_)
    ·
      refine b_iload_n (d86 (j := 10) rfl) rfl ?_
      refine b_aload_n (d86 (j := 11) rfl) rfl ?_
      refine b_getR (d86 (j := 12) rfl) rfl rfl rfl rfl ?_
      refine b_stk [uR 4 24, uI i86_1] rfl ?_
      refine b_getI (d86 (j := 13) rfl) rfl rfl rfl rfl (Or.inl rfl) ?_
      refine b_stk [uI (M1 24 1), uI i86_1] rfl ?_
      refine b_icmp_gt (d86 (j := 14) rfl) (fun c2 => ?_) (fun c2 => ?_)
      · exfalso; omega
      ·
        refine b_aload_n (d86 (j := 15) rfl) rfl ?_
        refine b_getR (d86 (j := 16) rfl) rfl rfl rfl rfl ?_
        refine b_stk [uR 27 54] rfl ?_
        refine b_iload_n (d86 (j := 17) rfl) rfl ?_
        refine b_iaload (d86 (j := 18) rfl) rfl (s1 c1 M1 hR1 i86_1 h86_1l h86_1r) ?_
        refine b_aload_n (d86 (j := 19) rfl) rfl ?_
        refine b_getR (d86 (j := 20) rfl) rfl rfl rfl rfl ?_
        refine b_stk [uR 4 24, uI (M1 54 i86_1)] rfl ?_
        refine b_callV (d86 (j := 21) rfl) rfl rfl (Or.inl rfl) rfl (bCk_mk (n := 1) (k := 1) (by decide +kernel) rfl rfl) (pu63 (s2 c1 M1 hR1 i86_1 h86_1l h86_1r) ?_)
        refine b_stk [uI ((dsShl 1 (M1 24 4)) - 1), uI (M1 54 i86_1)] rfl ?_
        refine b_icmp_eq (d86 (j := 22) rfl) (fun c3 => ?_) (fun c3 => ?_)
        ·
          refine b_iinc [uR 10 0, uR 5 47, uI (i86_1 + 1)] (d86 (j := 25) rfl) rfl (by decide) (s3 c1 M1 hR1 i86_1 h86_1l h86_1r) rfl ?_
          refine b_goto (d86 (j := 26) rfl) ?_
          exact hk86_1
        ·
          refine b_iload_n (d86 (j := 23) rfl) rfl ?_
          exfalso; omega
    ·
      subst he
      refine b_iload_n (d86 (j := 10) rfl) rfl ?_
      refine b_aload_n (d86 (j := 11) rfl) rfl ?_
      refine b_getR (d86 (j := 12) rfl) rfl rfl rfl rfl ?_
      refine b_stk [uR 4 24, uI (dsFind (fun (i86_1 : Int) => ¬ ((M1 54 i86_1) = ((dsShl 1 (M1 24 4)) - 1))) 0 ((M1 24 1) + 1))] rfl ?_
      refine b_getI (d86 (j := 13) rfl) rfl rfl rfl rfl (Or.inl rfl) ?_
      refine b_stk [uI (M1 24 1), uI (dsFind (fun (i86_1 : Int) => ¬ ((M1 54 i86_1) = ((dsShl 1 (M1 24 4)) - 1))) 0 ((M1 24 1) + 1))] rfl ?_
      refine b_icmp_gt (d86 (j := 14) rfl) (fun c4 => ?_) (fun c4 => ?_)
      · exfalso; omega
      ·
        refine b_aload_n (d86 (j := 15) rfl) rfl ?_
        refine b_getR (d86 (j := 16) rfl) rfl rfl rfl rfl ?_
        refine b_stk [uR 27 54] rfl ?_
        refine b_iload_n (d86 (j := 17) rfl) rfl ?_
        refine b_iaload (d86 (j := 18) rfl) rfl (s4 c1 M1 hR1 h86_1r) ?_
        refine b_aload_n (d86 (j := 19) rfl) rfl ?_
        refine b_getR (d86 (j := 20) rfl) rfl rfl rfl rfl ?_
        refine b_stk [uR 4 24, uI (M1 54 (dsFind (fun (i86_1 : Int) => ¬ ((M1 54 i86_1) = ((dsShl 1 (M1 24 4)) - 1))) 0 ((M1 24 1) + 1)))] rfl ?_
        refine b_callV (d86 (j := 21) rfl) rfl rfl (Or.inl rfl) rfl (bCk_mk (n := 1) (k := 1) (by decide +kernel) rfl rfl) (pu63 (s5 c1 M1 hR1 h86_1r) ?_)
        refine b_stk [uI ((dsShl 1 (M1 24 4)) - 1), uI (M1 54 (dsFind (fun (i86_1 : Int) => ¬ ((M1 54 i86_1) = ((dsShl 1 (M1 24 4)) - 1))) 0 ((M1 24 1) + 1)))] rfl ?_
        refine b_icmp_eq (d86 (j := 22) rfl) (fun c5 => ?_) (fun c5 => ?_)
        ·
          refine b_iinc [uR 10 0, uR 5 47, uI ((dsFind (fun (i86_1 : Int) => ¬ ((M1 54 i86_1) = ((dsShl 1 (M1 24 4)) - 1))) 0 ((M1 24 1) + 1)) + 1)] (d86 (j := 25) rfl) rfl (by decide) (s6 c1 M1 hR1 h86_1r) rfl ?_
          refine b_goto (d86 (j := 26) rfl) ?_
          exfalso; omega
        ·
          refine b_iload_n (d86 (j := 23) rfl) rfl ?_
          exact b_iret (d86 (j := 24) rfl) rfl (k1 c1 M1 hR1 h86_1r)
    ·
      refine b_iload_n (d86 (j := 10) rfl) rfl ?_
      refine b_aload_n (d86 (j := 11) rfl) rfl ?_
      refine b_getR (d86 (j := 12) rfl) rfl rfl rfl rfl ?_
      refine b_stk [uR 4 24, uI i86_1] rfl ?_
      refine b_getI (d86 (j := 13) rfl) rfl rfl rfl rfl (Or.inl rfl) ?_
      refine b_stk [uI (M1 24 1), uI i86_1] rfl ?_
      refine b_icmp_gt (d86 (j := 14) rfl) (fun c6 => ?_) (fun c6 => ?_)
      rotate_left
      · exfalso; omega
      ·
        refine b_iconst (d86 (j := 27) rfl) (by decide) ?_
        exact b_iret (d86 (j := 28) rfl) rfl (k2 c1 M1 hR1 he)
  ·
    refine b_bipush (d86 (j := 3) rfl) (by decide) ?_
    exact b_iret (d86 (j := 4) rfl) rfl (k3 c1)
def L107 : List (Nat × Instr × Nat × Nat) := [(0, .aload_n 0, 1, 0), (1, .iload_n 1, 2, 0), (2, .invokevirtual 114, 5, 0), (5, .ifCond .eq 10, 8, 15), (8, .iload_n 2, 9, 0), (9, .invokestatic 169, 12, 0), (12, .ifCond .ne 6, 15, 18), (15, .bipush (-2), 17, 0), (17, .ireturn, 18, 0), (18, .aload_n 0, 19, 0), (19, .invokevirtual 149, 22, 0), (22, .astore_n 3, 23, 0), (23, .iconst 0, 24, 0), (24, .istore 4, 26, 0), (26, .iload 4, 28, 0), (28, .aload_n 0, 29, 0), (29, .getfield 23, 32, 0), (32, .getfield 186, 35, 0), (35, .if_icmp .gt 26, 38, 61), (38, .aload_n 3, 39, 0), (39, .iload_n 1, 40, 0), (40, .iload 4, 42, 0), (42, .invokestatic 156, 45, 0), (45, .iload_n 2, 46, 0), (46, .invokevirtual 172, 49, 0), (49, .ifCond .le 6, 52, 55), (52, .iload 4, 54, 0), (54, .ireturn, 55, 0), (55, .iinc 4 1, 58, 0), (58, .goto (-32), 61, 26), (61, .iconst (-1), 62, 0), (62, .ireturn, 63, 0)]
set_option maxRecDepth 100000 in
theorem L107_ok : L107.all (dck 107) = true := by decide +kernel
theorem d107 {j pc nx tg : Nat} {ins : Instr} (hj : L107[j]? = some (pc, ins, nx, tg)) : dcd 107 pc ins nx tg := dcl_ok L107_ok hj
set_option maxRecDepth 100000 in
set_option maxHeartbeats 4000000 in
theorem r107_0 {x1 x2 : Int} {R1 : dsMem → Prop} {M : dsMem} {Q : bQT} (s1 : -2147483648 ≤ ((M 24 5) - 1) ∧ ((M 24 5) - 1) < 2147483648 := by intros; omega) (k1 : (¬ (0 ≤ x1 ∧ x1 ≤ (M 24 5) - 1)) → Q [uI (-2)] M) (hA1 : ((0 ≤ x1 ∧ x1 ≤ (M 24 5) - 1)) → ((1 ≤ x2 ∧ x2 ≤ 5)) → bCt 157 [uR 10 0] M (fun M1 => [uR 5 47]) R1) (s2 : ((0 ≤ x1 ∧ x1 ≤ (M 24 5) - 1)) → ((1 ≤ x2 ∧ x2 ≤ 5)) → ∀ M1 : dsMem, R1 M1 → ∀ i107_1 : Int, 0 ≤ i107_1 → i107_1 < ((M1 24 1) + 1) → -2147483648 ≤ ((i107_1 * 6) + x1) ∧ ((i107_1 * 6) + x1) < 2147483648 := by intros; omega) (s3 : ((0 ≤ x1 ∧ x1 ≤ (M 24 5) - 1)) → ((1 ≤ x2 ∧ x2 ≤ 5)) → ∀ M1 : dsMem, R1 M1 → ∀ i107_1 : Int, 0 ≤ i107_1 → i107_1 < ((M1 24 1) + 1) → ∀ i25_1 : Int, ∀ a25_1 : Int, 0 ≤ i25_1 → i25_1 < (M1 51 ((i107_1 * 6) + x1)) → 0 ≤ ((i107_1 * 6) + x1) ∧ ((i107_1 * 6) + x1) < 78 := by intros; omega) (s4 : ((0 ≤ x1 ∧ x1 ≤ (M 24 5) - 1)) → ((1 ≤ x2 ∧ x2 ≤ 5)) → ∀ M1 : dsMem, R1 M1 → ∀ i107_1 : Int, 0 ≤ i107_1 → i107_1 < ((M1 24 1) + 1) → ∀ i25_1 : Int, ∀ a25_1 : Int, 0 ≤ i25_1 → i25_1 < (M1 51 ((i107_1 * 6) + x1)) → 0 ≤ ((((i107_1 * 6) + x1) * 60) + i25_1) ∧ ((((i107_1 * 6) + x1) * 60) + i25_1) < 4680 := by intros; omega) (s5 : ((0 ≤ x1 ∧ x1 ≤ (M 24 5) - 1)) → ((1 ≤ x2 ∧ x2 ≤ 5)) → ∀ M1 : dsMem, R1 M1 → ∀ i107_1 : Int, 0 ≤ i107_1 → i107_1 < ((M1 24 1) + 1) → ∀ i25_1 : Int, ∀ a25_1 : Int, 0 ≤ i25_1 → i25_1 < (M1 51 ((i107_1 * 6) + x1)) → -2147483648 ≤ i25_1 + 1 ∧ i25_1 + 1 < 2147483648 := by intros; omega) (s6 : ((0 ≤ x1 ∧ x1 ≤ (M 24 5) - 1)) → ((1 ≤ x2 ∧ x2 ≤ 5)) → ∀ M1 : dsMem, R1 M1 → ∀ i107_1 : Int, 0 ≤ i107_1 → i107_1 < ((M1 24 1) + 1) → 0 ≤ ((i107_1 * 6) + x1) ∧ ((i107_1 * 6) + x1) < 78 := by intros; omega) (s7 : ((0 ≤ x1 ∧ x1 ≤ (M 24 5) - 1)) → ((1 ≤ x2 ∧ x2 ≤ 5)) → ∀ M1 : dsMem, R1 M1 → ∀ i107_1 : Int, 0 ≤ i107_1 → i107_1 < ((M1 24 1) + 1) → -2147483648 ≤ i107_1 + 1 ∧ i107_1 + 1 < 2147483648 := by intros; omega) (s8 : ((0 ≤ x1 ∧ x1 ≤ (M 24 5) - 1)) → ((1 ≤ x2 ∧ x2 ≤ 5)) → ∀ M1 : dsMem, R1 M1 → ((dsFind (fun (i107_1 : Int) => ¬ ((v25 M1 47 ((i107_1 * 6) + x1) x2) ≤ 0)) 0 ((M1 24 1) + 1)) < ((M1 24 1) + 1)) → -2147483648 ≤ (((dsFind (fun (i107_1 : Int) => ¬ ((v25 M1 47 ((i107_1 * 6) + x1) x2) ≤ 0)) 0 ((M1 24 1) + 1)) * 6) + x1) ∧ (((dsFind (fun (i107_1 : Int) => ¬ ((v25 M1 47 ((i107_1 * 6) + x1) x2) ≤ 0)) 0 ((M1 24 1) + 1)) * 6) + x1) < 2147483648 := by intros; omega) (s9 : ((0 ≤ x1 ∧ x1 ≤ (M 24 5) - 1)) → ((1 ≤ x2 ∧ x2 ≤ 5)) → ∀ M1 : dsMem, R1 M1 → ((dsFind (fun (i107_1 : Int) => ¬ ((v25 M1 47 ((i107_1 * 6) + x1) x2) ≤ 0)) 0 ((M1 24 1) + 1)) < ((M1 24 1) + 1)) → ∀ i25_1 : Int, ∀ a25_1 : Int, 0 ≤ i25_1 → i25_1 < (M1 51 (((dsFind (fun (i107_1 : Int) => ¬ ((v25 M1 47 ((i107_1 * 6) + x1) x2) ≤ 0)) 0 ((M1 24 1) + 1)) * 6) + x1)) → 0 ≤ (((dsFind (fun (i107_1 : Int) => ¬ ((v25 M1 47 ((i107_1 * 6) + x1) x2) ≤ 0)) 0 ((M1 24 1) + 1)) * 6) + x1) ∧ (((dsFind (fun (i107_1 : Int) => ¬ ((v25 M1 47 ((i107_1 * 6) + x1) x2) ≤ 0)) 0 ((M1 24 1) + 1)) * 6) + x1) < 78 := by intros; omega) (s10 : ((0 ≤ x1 ∧ x1 ≤ (M 24 5) - 1)) → ((1 ≤ x2 ∧ x2 ≤ 5)) → ∀ M1 : dsMem, R1 M1 → ((dsFind (fun (i107_1 : Int) => ¬ ((v25 M1 47 ((i107_1 * 6) + x1) x2) ≤ 0)) 0 ((M1 24 1) + 1)) < ((M1 24 1) + 1)) → ∀ i25_1 : Int, ∀ a25_1 : Int, 0 ≤ i25_1 → i25_1 < (M1 51 (((dsFind (fun (i107_1 : Int) => ¬ ((v25 M1 47 ((i107_1 * 6) + x1) x2) ≤ 0)) 0 ((M1 24 1) + 1)) * 6) + x1)) → 0 ≤ (((((dsFind (fun (i107_1 : Int) => ¬ ((v25 M1 47 ((i107_1 * 6) + x1) x2) ≤ 0)) 0 ((M1 24 1) + 1)) * 6) + x1) * 60) + i25_1) ∧ (((((dsFind (fun (i107_1 : Int) => ¬ ((v25 M1 47 ((i107_1 * 6) + x1) x2) ≤ 0)) 0 ((M1 24 1) + 1)) * 6) + x1) * 60) + i25_1) < 4680 := by intros; omega) (s11 : ((0 ≤ x1 ∧ x1 ≤ (M 24 5) - 1)) → ((1 ≤ x2 ∧ x2 ≤ 5)) → ∀ M1 : dsMem, R1 M1 → ((dsFind (fun (i107_1 : Int) => ¬ ((v25 M1 47 ((i107_1 * 6) + x1) x2) ≤ 0)) 0 ((M1 24 1) + 1)) < ((M1 24 1) + 1)) → ∀ i25_1 : Int, ∀ a25_1 : Int, 0 ≤ i25_1 → i25_1 < (M1 51 (((dsFind (fun (i107_1 : Int) => ¬ ((v25 M1 47 ((i107_1 * 6) + x1) x2) ≤ 0)) 0 ((M1 24 1) + 1)) * 6) + x1)) → -2147483648 ≤ i25_1 + 1 ∧ i25_1 + 1 < 2147483648 := by intros; omega) (s12 : ((0 ≤ x1 ∧ x1 ≤ (M 24 5) - 1)) → ((1 ≤ x2 ∧ x2 ≤ 5)) → ∀ M1 : dsMem, R1 M1 → ((dsFind (fun (i107_1 : Int) => ¬ ((v25 M1 47 ((i107_1 * 6) + x1) x2) ≤ 0)) 0 ((M1 24 1) + 1)) < ((M1 24 1) + 1)) → 0 ≤ (((dsFind (fun (i107_1 : Int) => ¬ ((v25 M1 47 ((i107_1 * 6) + x1) x2) ≤ 0)) 0 ((M1 24 1) + 1)) * 6) + x1) ∧ (((dsFind (fun (i107_1 : Int) => ¬ ((v25 M1 47 ((i107_1 * 6) + x1) x2) ≤ 0)) 0 ((M1 24 1) + 1)) * 6) + x1) < 78 := by intros; omega) (s13 : ((0 ≤ x1 ∧ x1 ≤ (M 24 5) - 1)) → ((1 ≤ x2 ∧ x2 ≤ 5)) → ∀ M1 : dsMem, R1 M1 → ((dsFind (fun (i107_1 : Int) => ¬ ((v25 M1 47 ((i107_1 * 6) + x1) x2) ≤ 0)) 0 ((M1 24 1) + 1)) < ((M1 24 1) + 1)) → -2147483648 ≤ (dsFind (fun (i107_1 : Int) => ¬ ((v25 M1 47 ((i107_1 * 6) + x1) x2) ≤ 0)) 0 ((M1 24 1) + 1)) + 1 ∧ (dsFind (fun (i107_1 : Int) => ¬ ((v25 M1 47 ((i107_1 * 6) + x1) x2) ≤ 0)) 0 ((M1 24 1) + 1)) + 1 < 2147483648 := by intros; omega) (k2 : ((0 ≤ x1 ∧ x1 ≤ (M 24 5) - 1)) → ((1 ≤ x2 ∧ x2 ≤ 5)) → ∀ M1 : dsMem, R1 M1 → ((dsFind (fun (i107_1 : Int) => ¬ ((v25 M1 47 ((i107_1 * 6) + x1) x2) ≤ 0)) 0 ((M1 24 1) + 1)) < ((M1 24 1) + 1)) → Q [uI (dsFind (fun (i107_1 : Int) => ¬ ((v25 M1 47 ((i107_1 * 6) + x1) x2) ≤ 0)) 0 ((M1 24 1) + 1))] M1) (k3 : ((0 ≤ x1 ∧ x1 ≤ (M 24 5) - 1)) → ((1 ≤ x2 ∧ x2 ≤ 5)) → ∀ M1 : dsMem, R1 M1 → (¬ (dsFind (fun (i107_1 : Int) => ¬ ((v25 M1 47 ((i107_1 * 6) + x1) x2) ≤ 0)) 0 ((M1 24 1) + 1)) < ((M1 24 1) + 1)) → Q [uI (-1)] M1) (k4 : ((0 ≤ x1 ∧ x1 ≤ (M 24 5) - 1)) → (¬ (1 ≤ x2 ∧ x2 ≤ 5)) → Q [uI (-2)] M) :
    bB 107 0 [uR 10 0, uI x1, uI x2, uX 0, uX 0] [] M Q := by
  refine b_aload_n (d107 (j := 0) rfl) rfl ?_
  refine b_iload_n (d107 (j := 1) rfl) rfl ?_
  refine b_callV (d107 (j := 2) rfl) rfl rfl (Or.inl rfl) rfl (bCk_mk (n := 0) (k := 2) (by decide +kernel) rfl rfl) (pu151 s1 ?_)
  refine b_stk [uI (if (0 ≤ x1 ∧ x1 ≤ (M 24 5) - 1) then 1 else 0)] rfl ?_
  refine b_ifeqP (d107 (j := 3) rfl) (fun c1 => ?_) (fun c1 => ?_)
  ·
    refine b_bipush (d107 (j := 7) rfl) (by decide) ?_
    exact b_iret (d107 (j := 8) rfl) rfl (k1 c1)
  ·
    refine b_iload_n (d107 (j := 4) rfl) rfl ?_
    refine b_callS (d107 (j := 5) rfl) (Or.inl rfl) rfl (bCk_mk (n := 0) (k := 1) (by decide +kernel) rfl rfl) (pu147  ?_)
    refine b_stk [uI (if (1 ≤ x2 ∧ x2 ≤ 5) then 1 else 0)] rfl ?_
    refine b_ifneP (d107 (j := 6) rfl) (fun c2 => ?_) (fun c2 => ?_)
    ·
      refine b_aload_n (d107 (j := 9) rfl) rfl ?_
      refine b_callV (d107 (j := 10) rfl) rfl rfl (Or.inl rfl) rfl (bCk_mk (n := 0) (k := 1) (by decide +kernel) rfl rfl) ((hA1 c1 c2) _ (fun M1 hR1 => ?_))
      refine b_stk [uR 5 47] rfl ?_
      refine b_astore_n [uR 10 0, uI x1, uI x2, uR 5 47, uX 0] (d107 (j := 11) rfl) (by decide) rfl ?_
      refine b_iconst (d107 (j := 12) rfl) (by decide) ?_
      refine b_istore [uR 10 0, uI x1, uI x2, uR 5 47, uI 0] (d107 (j := 13) rfl) (by decide) rfl ?_
      refine b_find (fun (i107_1 : Int) => [uR 10 0, uI x1, uI x2, uR 5 47, uI i107_1]) (fun (i107_1 : Int) => ¬ ((v25 M1 47 ((i107_1 * 6) + x1) x2) ≤ 0)) 0 ((M1 24 1) + 1) (fun i107_1 h107_1l h107_1r hn hk107_1 => ?_) (fun i107_1 h107_1l h107_1r hp he => ?_) (fun i107_1 h107_1l h107_1r he => ?_)
      ·
        refine b_iload (d107 (j := 14) rfl) rfl ?_
        refine b_aload_n (d107 (j := 15) rfl) rfl ?_
        refine b_getR (d107 (j := 16) rfl) rfl rfl rfl rfl ?_
        refine b_stk [uR 4 24, uI i107_1] rfl ?_
        refine b_getI (d107 (j := 17) rfl) rfl rfl rfl rfl (Or.inl rfl) ?_
        refine b_stk [uI (M1 24 1), uI i107_1] rfl ?_
        refine b_icmp_gt (d107 (j := 18) rfl) (fun c3 => ?_) (fun c3 => ?_)
        · exfalso; omega
        ·
          refine b_aload_n (d107 (j := 19) rfl) rfl ?_
          refine b_iload_n (d107 (j := 20) rfl) rfl ?_
          refine b_iload (d107 (j := 21) rfl) rfl ?_
          refine b_callS (d107 (j := 22) rfl) (Or.inl rfl) rfl (bCk_mk (n := 1) (k := 2) (by decide +kernel) rfl rfl) (pu146 (s2 c1 c2 M1 hR1 i107_1 h107_1l h107_1r) ?_)
          refine b_stk [uI ((i107_1 * 6) + x1), uR 5 47] rfl ?_
          refine b_iload_n (d107 (j := 23) rfl) rfl ?_
          refine b_callV (d107 (j := 24) rfl) rfl rfl (Or.inl rfl) rfl (bCk_mk (n := 0) (k := 3) (by decide +kernel) rfl rfl) (fx25 (s3 c1 c2 M1 hR1 i107_1 h107_1l h107_1r) (s4 c1 c2 M1 hR1 i107_1 h107_1l h107_1r) (s5 c1 c2 M1 hR1 i107_1 h107_1l h107_1r) (s6 c1 c2 M1 hR1 i107_1 h107_1l h107_1r) ?_)
          refine b_stk [uI (v25 M1 47 ((i107_1 * 6) + x1) x2)] rfl ?_
          refine b_if_le (d107 (j := 25) rfl) (fun c4 => ?_) (fun c4 => ?_)
          ·
            refine b_iinc [uR 10 0, uI x1, uI x2, uR 5 47, uI (i107_1 + 1)] (d107 (j := 28) rfl) rfl (by decide) (s7 c1 c2 M1 hR1 i107_1 h107_1l h107_1r) rfl ?_
            refine b_goto (d107 (j := 29) rfl) ?_
            exact hk107_1
          ·
            refine b_iload (d107 (j := 26) rfl) rfl ?_
            exfalso; omega
      ·
        subst he
        refine b_iload (d107 (j := 14) rfl) rfl ?_
        refine b_aload_n (d107 (j := 15) rfl) rfl ?_
        refine b_getR (d107 (j := 16) rfl) rfl rfl rfl rfl ?_
        refine b_stk [uR 4 24, uI (dsFind (fun (i107_1 : Int) => ¬ ((v25 M1 47 ((i107_1 * 6) + x1) x2) ≤ 0)) 0 ((M1 24 1) + 1))] rfl ?_
        refine b_getI (d107 (j := 17) rfl) rfl rfl rfl rfl (Or.inl rfl) ?_
        refine b_stk [uI (M1 24 1), uI (dsFind (fun (i107_1 : Int) => ¬ ((v25 M1 47 ((i107_1 * 6) + x1) x2) ≤ 0)) 0 ((M1 24 1) + 1))] rfl ?_
        refine b_icmp_gt (d107 (j := 18) rfl) (fun c5 => ?_) (fun c5 => ?_)
        · exfalso; omega
        ·
          refine b_aload_n (d107 (j := 19) rfl) rfl ?_
          refine b_iload_n (d107 (j := 20) rfl) rfl ?_
          refine b_iload (d107 (j := 21) rfl) rfl ?_
          refine b_callS (d107 (j := 22) rfl) (Or.inl rfl) rfl (bCk_mk (n := 1) (k := 2) (by decide +kernel) rfl rfl) (pu146 (s8 c1 c2 M1 hR1 h107_1r) ?_)
          refine b_stk [uI (((dsFind (fun (i107_1 : Int) => ¬ ((v25 M1 47 ((i107_1 * 6) + x1) x2) ≤ 0)) 0 ((M1 24 1) + 1)) * 6) + x1), uR 5 47] rfl ?_
          refine b_iload_n (d107 (j := 23) rfl) rfl ?_
          refine b_callV (d107 (j := 24) rfl) rfl rfl (Or.inl rfl) rfl (bCk_mk (n := 0) (k := 3) (by decide +kernel) rfl rfl) (fx25 (s9 c1 c2 M1 hR1 h107_1r) (s10 c1 c2 M1 hR1 h107_1r) (s11 c1 c2 M1 hR1 h107_1r) (s12 c1 c2 M1 hR1 h107_1r) ?_)
          refine b_stk [uI (v25 M1 47 (((dsFind (fun (i107_1 : Int) => ¬ ((v25 M1 47 ((i107_1 * 6) + x1) x2) ≤ 0)) 0 ((M1 24 1) + 1)) * 6) + x1) x2)] rfl ?_
          refine b_if_le (d107 (j := 25) rfl) (fun c6 => ?_) (fun c6 => ?_)
          ·
            refine b_iinc [uR 10 0, uI x1, uI x2, uR 5 47, uI ((dsFind (fun (i107_1 : Int) => ¬ ((v25 M1 47 ((i107_1 * 6) + x1) x2) ≤ 0)) 0 ((M1 24 1) + 1)) + 1)] (d107 (j := 28) rfl) rfl (by decide) (s13 c1 c2 M1 hR1 h107_1r) rfl ?_
            refine b_goto (d107 (j := 29) rfl) ?_
            exfalso; omega
          ·
            refine b_iload (d107 (j := 26) rfl) rfl ?_
            exact b_iret (d107 (j := 27) rfl) rfl (k2 c1 c2 M1 hR1 h107_1r)
      ·
        refine b_iload (d107 (j := 14) rfl) rfl ?_
        refine b_aload_n (d107 (j := 15) rfl) rfl ?_
        refine b_getR (d107 (j := 16) rfl) rfl rfl rfl rfl ?_
        refine b_stk [uR 4 24, uI i107_1] rfl ?_
        refine b_getI (d107 (j := 17) rfl) rfl rfl rfl rfl (Or.inl rfl) ?_
        refine b_stk [uI (M1 24 1), uI i107_1] rfl ?_
        refine b_icmp_gt (d107 (j := 18) rfl) (fun c7 => ?_) (fun c7 => ?_)
        rotate_left
        · exfalso; omega
        ·
          refine b_iconst (d107 (j := 30) rfl) (by decide) ?_
          exact b_iret (d107 (j := 31) rfl) rfl (k3 c1 c2 M1 hR1 he)
    ·
      refine b_bipush (d107 (j := 7) rfl) (by decide) ?_
      exact b_iret (d107 (j := 8) rfl) rfl (k4 c1 c2)
