def L24 : List (Nat × Instr × Nat × Nat) := [(0, .iconst 0, 1, 0), (1, .istore_n 2, 2, 0), (2, .iconst 0, 3, 0), (3, .istore_n 3, 4, 0), (4, .iload_n 3, 5, 0), (5, .aload_n 0, 6, 0), (6, .getfield 62, 9, 0), (9, .getfield 100, 12, 0), (12, .if_icmp .ge 22, 15, 34), (15, .iload_n 2, 16, 0), (16, .aload_n 0, 17, 0), (17, .getfield 28, 20, 0), (20, .iload_n 3, 21, 0), (21, .iload_n 1, 22, 0), (22, .invokestatic 117, 25, 0), (25, .iaload, 26, 0), (26, .iadd, 27, 0), (27, .istore_n 2, 28, 0), (28, .iinc 3 1, 31, 0), (31, .goto (-27), 34, 4), (34, .iload_n 2, 35, 0), (35, .ireturn, 36, 0)]
set_option maxRecDepth 100000 in
theorem L24_ok : L24.all (dck 24) = true := by decide +kernel
theorem d24 {j pc nx tg : Nat} {ins : Instr} (hj : L24[j]? = some (pc, ins, nx, tg)) : dcd 24 pc ins nx tg := dcl_ok L24_ok hj
def v24 (M : dsMem) (x0 x1 : Int) : Int := (dsIter (fun (i24_1 : Int) (a24_1 : Int) => (dsw ((a24_1 + (M (x0 + 5) ((x1 * 6) + i24_1)))))) 0 (M 24 5) 0)
set_option maxRecDepth 100000 in
set_option maxHeartbeats 4000000 in
theorem fx24 {x0 x1 : Int} {M : dsMem} {Q : bQT} (s1 : ∀ i24_1 : Int, ∀ a24_1 : Int, 0 ≤ i24_1 → i24_1 < (M 24 5) → -2147483648 ≤ ((x1 * 6) + i24_1) ∧ ((x1 * 6) + i24_1) < 2147483648 := by intros; omega) (s2 : ∀ i24_1 : Int, ∀ a24_1 : Int, 0 ≤ i24_1 → i24_1 < (M 24 5) → 0 ≤ ((x1 * 6) + i24_1) ∧ ((x1 * 6) + i24_1) < 78 := by intros; omega) (s3 : ∀ i24_1 : Int, ∀ a24_1 : Int, 0 ≤ i24_1 → i24_1 < (M 24 5) → -2147483648 ≤ i24_1 + 1 ∧ i24_1 + 1 < 2147483648 := by intros; omega) (k : Q [uI (v24 M x0 x1)] M) :
    bB 24 0 [uR 5 x0, uI x1, uX 0, uX 0] [] M Q := by
  unfold v24 at k
  refine b_iconst (d24 (j := 0) rfl) (by decide) ?_
  refine b_istore_n [uR 5 x0, uI x1, uI 0, uX 0] (d24 (j := 1) rfl) (by decide) rfl ?_
  refine b_iconst (d24 (j := 2) rfl) (by decide) ?_
  refine b_istore_n [uR 5 x0, uI x1, uI 0, uI 0] (d24 (j := 3) rfl) (by decide) rfl ?_
  refine b_for (fun (i24_1 : Int) (a24_1 : Int) => [uR 5 x0, uI x1, uI a24_1, uI i24_1]) (fun (i24_1 : Int) (a24_1 : Int) => (dsw ((a24_1 + (M (x0 + 5) ((x1 * 6) + i24_1)))))) 0 (M 24 5) 0 (fun i24_1 a24_1 h24_1l h24_1r hk24_1 => ?_) (fun i24_1 h24_1l h24_1r => ?_)
  ·
    refine b_iload_n (d24 (j := 4) rfl) rfl ?_
    refine b_aload_n (d24 (j := 5) rfl) rfl ?_
    refine b_getRA (d24 (j := 6) rfl) rfl rfl rfl rfl ?_
    refine b_getI (d24 (j := 7) rfl) rfl rfl rfl rfl (Or.inl rfl) ?_
    refine b_stk [uI (M 24 5), uI i24_1] rfl ?_
    refine b_icmp_ge (d24 (j := 8) rfl) (fun c1 => ?_) (fun c1 => ?_)
    · exfalso; omega
    ·
      refine b_iload_n (d24 (j := 9) rfl) rfl ?_
      refine b_aload_n (d24 (j := 10) rfl) rfl ?_
      refine b_getR (d24 (j := 11) rfl) rfl rfl rfl rfl ?_
      refine b_iload_n (d24 (j := 12) rfl) rfl ?_
      refine b_iload_n (d24 (j := 13) rfl) rfl ?_
      refine b_callS (d24 (j := 14) rfl) (Or.inr rfl) rfl (bCk_mk (n := 2) (k := 2) (by decide +kernel) rfl rfl) (pu146 (s1 i24_1 a24_1 h24_1l h24_1r) ?_)
      refine b_stk [uI ((x1 * 6) + i24_1), uR 25 (x0 + 5), uI a24_1] rfl ?_
      refine b_iaload (d24 (j := 15) rfl) rfl (s2 i24_1 a24_1 h24_1l h24_1r) ?_
      refine b_iadd (d24 (j := 16) rfl) rfl rfl ?_
      refine b_istore_n [uR 5 x0, uI x1, uI (dsw ((a24_1 + (M (x0 + 5) ((x1 * 6) + i24_1))))), uI i24_1] (d24 (j := 17) rfl) (by decide) rfl ?_
      refine b_iinc [uR 5 x0, uI x1, uI (dsw ((a24_1 + (M (x0 + 5) ((x1 * 6) + i24_1))))), uI (i24_1 + 1)] (d24 (j := 18) rfl) rfl (by decide) (s3 i24_1 a24_1 h24_1l h24_1r) rfl ?_
      refine b_goto (d24 (j := 19) rfl) ?_
      exact hk24_1
  ·
    refine b_iload_n (d24 (j := 4) rfl) rfl ?_
    refine b_aload_n (d24 (j := 5) rfl) rfl ?_
    refine b_getRA (d24 (j := 6) rfl) rfl rfl rfl rfl ?_
    refine b_getI (d24 (j := 7) rfl) rfl rfl rfl rfl (Or.inl rfl) ?_
    refine b_stk [uI (M 24 5), uI i24_1] rfl ?_
    refine b_icmp_ge (d24 (j := 8) rfl) (fun c2 => ?_) (fun c2 => ?_)
    rotate_left
    · exfalso; omega
    ·
      refine b_iload_n (d24 (j := 20) rfl) rfl ?_
      exact b_iret (d24 (j := 21) rfl) rfl k
def L23 : List (Nat × Instr × Nat × Nat) := [(0, .iconst 0, 1, 0), (1, .istore_n 3, 2, 0), (2, .iconst 0, 3, 0), (3, .istore 4, 5, 0), (5, .iload 4, 7, 0), (7, .aload_n 0, 8, 0), (8, .getfield 62, 11, 0), (11, .getfield 100, 14, 0), (14, .if_icmp .ge 37, 17, 51), (17, .aload_n 0, 18, 0), (18, .getfield 62, 21, 0), (21, .getfield 168, 24, 0), (24, .iload 4, 26, 0), (26, .iaload, 27, 0), (27, .iload_n 1, 28, 0), (28, .if_icmp .ne 17, 31, 45), (31, .iload_n 3, 32, 0), (32, .aload_n 0, 33, 0), (33, .getfield 28, 36, 0), (36, .iload 4, 38, 0), (38, .iload_n 2, 39, 0), (39, .invokestatic 117, 42, 0), (42, .iaload, 43, 0), (43, .iadd, 44, 0), (44, .istore_n 3, 45, 0), (45, .iinc 4 1, 48, 0), (48, .goto (-43), 51, 5), (51, .iload_n 3, 52, 0), (52, .ireturn, 53, 0)]
set_option maxRecDepth 100000 in
theorem L23_ok : L23.all (dck 23) = true := by decide +kernel
theorem d23 {j pc nx tg : Nat} {ins : Instr} (hj : L23[j]? = some (pc, ins, nx, tg)) : dcd 23 pc ins nx tg := dcl_ok L23_ok hj
def v23 (M : dsMem) (x0 x1 x2 : Int) : Int := (dsIter (fun (i23_1 : Int) (a23_1 : Int) => (if (M 29 i23_1) = x1 then (dsw ((a23_1 + (M (x0 + 5) ((x2 * 6) + i23_1))))) else a23_1)) 0 (M 24 5) 0)
set_option maxRecDepth 100000 in
set_option maxHeartbeats 4000000 in
theorem fx23 {x0 x1 x2 : Int} {M : dsMem} {Q : bQT} (s1 : ∀ i23_1 : Int, ∀ a23_1 : Int, 0 ≤ i23_1 → i23_1 < (M 24 5) → 0 ≤ i23_1 ∧ i23_1 < 6 := by intros; omega) (s2 : ∀ i23_1 : Int, ∀ a23_1 : Int, 0 ≤ i23_1 → i23_1 < (M 24 5) → -2147483648 ≤ i23_1 + 1 ∧ i23_1 + 1 < 2147483648 := by intros; omega) (s3 : ∀ i23_1 : Int, ∀ a23_1 : Int, 0 ≤ i23_1 → i23_1 < (M 24 5) → ((M 29 i23_1) = x1) → -2147483648 ≤ ((x2 * 6) + i23_1) ∧ ((x2 * 6) + i23_1) < 2147483648 := by intros; omega) (s4 : ∀ i23_1 : Int, ∀ a23_1 : Int, 0 ≤ i23_1 → i23_1 < (M 24 5) → ((M 29 i23_1) = x1) → 0 ≤ ((x2 * 6) + i23_1) ∧ ((x2 * 6) + i23_1) < 78 := by intros; omega) (k : Q [uI (v23 M x0 x1 x2)] M) :
    bB 23 0 [uR 5 x0, uI x1, uI x2, uX 0, uX 0] [] M Q := by
  unfold v23 at k
  refine b_iconst (d23 (j := 0) rfl) (by decide) ?_
  refine b_istore_n [uR 5 x0, uI x1, uI x2, uI 0, uX 0] (d23 (j := 1) rfl) (by decide) rfl ?_
  refine b_iconst (d23 (j := 2) rfl) (by decide) ?_
  refine b_istore [uR 5 x0, uI x1, uI x2, uI 0, uI 0] (d23 (j := 3) rfl) (by decide) rfl ?_
  refine b_for (fun (i23_1 : Int) (a23_1 : Int) => [uR 5 x0, uI x1, uI x2, uI a23_1, uI i23_1]) (fun (i23_1 : Int) (a23_1 : Int) => (if (M 29 i23_1) = x1 then (dsw ((a23_1 + (M (x0 + 5) ((x2 * 6) + i23_1))))) else a23_1)) 0 (M 24 5) 0 (fun i23_1 a23_1 h23_1l h23_1r hk23_1 => ?_) (fun i23_1 h23_1l h23_1r => ?_)
  ·
    refine b_iload (d23 (j := 4) rfl) rfl ?_
    refine b_aload_n (d23 (j := 5) rfl) rfl ?_
    refine b_getRA (d23 (j := 6) rfl) rfl rfl rfl rfl ?_
    refine b_getI (d23 (j := 7) rfl) rfl rfl rfl rfl (Or.inl rfl) ?_
    refine b_stk [uI (M 24 5), uI i23_1] rfl ?_
    refine b_icmp_ge (d23 (j := 8) rfl) (fun c1 => ?_) (fun c1 => ?_)
    · exfalso; omega
    ·
      refine b_aload_n (d23 (j := 9) rfl) rfl ?_
      refine b_getRA (d23 (j := 10) rfl) rfl rfl rfl rfl ?_
      refine b_getR (d23 (j := 11) rfl) rfl rfl rfl rfl ?_
      refine b_stk [uR 21 29] rfl ?_
      refine b_iload (d23 (j := 12) rfl) rfl ?_
      refine b_iaload (d23 (j := 13) rfl) rfl (s1 i23_1 a23_1 h23_1l h23_1r) ?_
      refine b_iload_n (d23 (j := 14) rfl) rfl ?_
      refine b_icmp_ne (d23 (j := 15) rfl) (fun c2 => ?_) (fun c2 => ?_)
      ·
        rw [if_neg c2] at hk23_1
        refine b_iinc [uR 5 x0, uI x1, uI x2, uI a23_1, uI (i23_1 + 1)] (d23 (j := 25) rfl) rfl (by decide) (s2 i23_1 a23_1 h23_1l h23_1r) rfl ?_
        refine b_goto (d23 (j := 26) rfl) ?_
        exact hk23_1
      ·
        rw [if_pos c2] at hk23_1
        refine b_iload_n (d23 (j := 16) rfl) rfl ?_
        refine b_aload_n (d23 (j := 17) rfl) rfl ?_
        refine b_getR (d23 (j := 18) rfl) rfl rfl rfl rfl ?_
        refine b_iload (d23 (j := 19) rfl) rfl ?_
        refine b_iload_n (d23 (j := 20) rfl) rfl ?_
        refine b_callS (d23 (j := 21) rfl) (Or.inr rfl) rfl (bCk_mk (n := 2) (k := 2) (by decide +kernel) rfl rfl) (pu146 (s3 i23_1 a23_1 h23_1l h23_1r c2) ?_)
        refine b_stk [uI ((x2 * 6) + i23_1), uR 25 (x0 + 5), uI a23_1] rfl ?_
        refine b_iaload (d23 (j := 22) rfl) rfl (s4 i23_1 a23_1 h23_1l h23_1r c2) ?_
        refine b_iadd (d23 (j := 23) rfl) rfl rfl ?_
        refine b_istore_n [uR 5 x0, uI x1, uI x2, uI (dsw ((a23_1 + (M (x0 + 5) ((x2 * 6) + i23_1))))), uI i23_1] (d23 (j := 24) rfl) (by decide) rfl ?_
        refine b_iinc [uR 5 x0, uI x1, uI x2, uI (dsw ((a23_1 + (M (x0 + 5) ((x2 * 6) + i23_1))))), uI (i23_1 + 1)] (d23 (j := 25) rfl) rfl (by decide) (s2 i23_1 a23_1 h23_1l h23_1r) rfl ?_
        refine b_goto (d23 (j := 26) rfl) ?_
        exact hk23_1
  ·
    refine b_iload (d23 (j := 4) rfl) rfl ?_
    refine b_aload_n (d23 (j := 5) rfl) rfl ?_
    refine b_getRA (d23 (j := 6) rfl) rfl rfl rfl rfl ?_
    refine b_getI (d23 (j := 7) rfl) rfl rfl rfl rfl (Or.inl rfl) ?_
    refine b_stk [uI (M 24 5), uI i23_1] rfl ?_
    refine b_icmp_ge (d23 (j := 8) rfl) (fun c3 => ?_) (fun c3 => ?_)
    rotate_left
    · exfalso; omega
    ·
      refine b_iload_n (d23 (j := 27) rfl) rfl ?_
      exact b_iret (d23 (j := 28) rfl) rfl k
def L25 : List (Nat × Instr × Nat × Nat) := [(0, .iconst 0, 1, 0), (1, .istore_n 3, 2, 0), (2, .iconst 0, 3, 0), (3, .istore 4, 5, 0), (5, .iload 4, 7, 0), (7, .aload_n 0, 8, 0), (8, .getfield 25, 11, 0), (11, .iload_n 1, 12, 0), (12, .iaload, 13, 0), (13, .if_icmp .ge 40, 16, 53), (16, .aload_n 0, 17, 0), (17, .getfield 18, 20, 0), (20, .iload_n 1, 21, 0), (21, .bipush 60, 23, 0), (23, .imul, 24, 0), (24, .iload 4, 26, 0), (26, .iadd, 27, 0), (27, .iaload, 28, 0), (28, .iload_n 2, 29, 0), (29, .if_icmp .ne 18, 32, 47), (32, .iload_n 3, 33, 0), (33, .aload_n 0, 34, 0), (34, .getfield 22, 37, 0), (37, .iload_n 1, 38, 0), (38, .bipush 60, 40, 0), (40, .imul, 41, 0), (41, .iload 4, 43, 0), (43, .iadd, 44, 0), (44, .iaload, 45, 0), (45, .iadd, 46, 0), (46, .istore_n 3, 47, 0), (47, .iinc 4 1, 50, 0), (50, .goto (-45), 53, 5), (53, .iload_n 3, 54, 0), (54, .ireturn, 55, 0)]
set_option maxRecDepth 100000 in
theorem L25_ok : L25.all (dck 25) = true := by decide +kernel
theorem d25 {j pc nx tg : Nat} {ins : Instr} (hj : L25[j]? = some (pc, ins, nx, tg)) : dcd 25 pc ins nx tg := dcl_ok L25_ok hj
def v25 (M : dsMem) (x0 x1 x2 : Int) : Int := (dsIter (fun (i25_1 : Int) (a25_1 : Int) => (if (M (x0 + 2) ((x1 * 60) + i25_1)) = x2 then (dsw ((a25_1 + (M (x0 + 3) ((x1 * 60) + i25_1))))) else a25_1)) 0 (M (x0 + 4) x1) 0)
set_option maxRecDepth 100000 in
set_option maxHeartbeats 4000000 in
theorem fx25 {x0 x1 x2 : Int} {M : dsMem} {Q : bQT} (s1 : ∀ i25_1 : Int, ∀ a25_1 : Int, 0 ≤ i25_1 → i25_1 < (M (x0 + 4) x1) → 0 ≤ x1 ∧ x1 < 78 := by intros; omega) (s2 : ∀ i25_1 : Int, ∀ a25_1 : Int, 0 ≤ i25_1 → i25_1 < (M (x0 + 4) x1) → 0 ≤ ((x1 * 60) + i25_1) ∧ ((x1 * 60) + i25_1) < 4680 := by intros; omega) (s3 : ∀ i25_1 : Int, ∀ a25_1 : Int, 0 ≤ i25_1 → i25_1 < (M (x0 + 4) x1) → -2147483648 ≤ i25_1 + 1 ∧ i25_1 + 1 < 2147483648 := by intros; omega) (s4 : 0 ≤ x1 ∧ x1 < 78 := by intros; omega) (k : Q [uI (v25 M x0 x1 x2)] M) :
    bB 25 0 [uR 5 x0, uI x1, uI x2, uX 0, uX 0] [] M Q := by
  unfold v25 at k
  refine b_iconst (d25 (j := 0) rfl) (by decide) ?_
  refine b_istore_n [uR 5 x0, uI x1, uI x2, uI 0, uX 0] (d25 (j := 1) rfl) (by decide) rfl ?_
  refine b_iconst (d25 (j := 2) rfl) (by decide) ?_
  refine b_istore [uR 5 x0, uI x1, uI x2, uI 0, uI 0] (d25 (j := 3) rfl) (by decide) rfl ?_
  refine b_for (fun (i25_1 : Int) (a25_1 : Int) => [uR 5 x0, uI x1, uI x2, uI a25_1, uI i25_1]) (fun (i25_1 : Int) (a25_1 : Int) => (if (M (x0 + 2) ((x1 * 60) + i25_1)) = x2 then (dsw ((a25_1 + (M (x0 + 3) ((x1 * 60) + i25_1))))) else a25_1)) 0 (M (x0 + 4) x1) 0 (fun i25_1 a25_1 h25_1l h25_1r hk25_1 => ?_) (fun i25_1 h25_1l h25_1r => ?_)
  ·
    refine b_iload (d25 (j := 4) rfl) rfl ?_
    refine b_aload_n (d25 (j := 5) rfl) rfl ?_
    refine b_getR (d25 (j := 6) rfl) rfl rfl rfl rfl ?_
    refine b_iload_n (d25 (j := 7) rfl) rfl ?_
    refine b_iaload (d25 (j := 8) rfl) rfl (s1 i25_1 a25_1 h25_1l h25_1r) ?_
    refine b_icmp_ge (d25 (j := 9) rfl) (fun c1 => ?_) (fun c1 => ?_)
    · exfalso; omega
    ·
      refine b_aload_n (d25 (j := 10) rfl) rfl ?_
      refine b_getR (d25 (j := 11) rfl) rfl rfl rfl rfl ?_
      refine b_iload_n (d25 (j := 12) rfl) rfl ?_
      refine b_bipush (d25 (j := 13) rfl) (by decide) ?_
      refine b_imul (d25 (j := 14) rfl) rfl rfl ?_
      refine b_iload (d25 (j := 15) rfl) rfl ?_
      refine b_iadd (d25 (j := 16) rfl) (dsw_dsw _) rfl ?_
      refine b_stk [uI ((x1 * 60) + i25_1), uR 24 (x0 + 2)] (by rw [dsw_b (s2 i25_1 a25_1 h25_1l h25_1r) (by decide)]) ?_
      refine b_iaload (d25 (j := 17) rfl) rfl (s2 i25_1 a25_1 h25_1l h25_1r) ?_
      refine b_iload_n (d25 (j := 18) rfl) rfl ?_
      refine b_icmp_ne (d25 (j := 19) rfl) (fun c2 => ?_) (fun c2 => ?_)
      ·
        rw [if_neg c2] at hk25_1
        refine b_iinc [uR 5 x0, uI x1, uI x2, uI a25_1, uI (i25_1 + 1)] (d25 (j := 31) rfl) rfl (by decide) (s3 i25_1 a25_1 h25_1l h25_1r) rfl ?_
        refine b_goto (d25 (j := 32) rfl) ?_
        exact hk25_1
      ·
        rw [if_pos c2] at hk25_1
        refine b_iload_n (d25 (j := 20) rfl) rfl ?_
        refine b_aload_n (d25 (j := 21) rfl) rfl ?_
        refine b_getR (d25 (j := 22) rfl) rfl rfl rfl rfl ?_
        refine b_iload_n (d25 (j := 23) rfl) rfl ?_
        refine b_bipush (d25 (j := 24) rfl) (by decide) ?_
        refine b_imul (d25 (j := 25) rfl) rfl rfl ?_
        refine b_iload (d25 (j := 26) rfl) rfl ?_
        refine b_iadd (d25 (j := 27) rfl) (dsw_dsw _) rfl ?_
        refine b_stk [uI ((x1 * 60) + i25_1), uR 24 (x0 + 3), uI a25_1] (by rw [dsw_b (s2 i25_1 a25_1 h25_1l h25_1r) (by decide)]) ?_
        refine b_iaload (d25 (j := 28) rfl) rfl (s2 i25_1 a25_1 h25_1l h25_1r) ?_
        refine b_iadd (d25 (j := 29) rfl) rfl rfl ?_
        refine b_istore_n [uR 5 x0, uI x1, uI x2, uI (dsw ((a25_1 + (M (x0 + 3) ((x1 * 60) + i25_1))))), uI i25_1] (d25 (j := 30) rfl) (by decide) rfl ?_
        refine b_iinc [uR 5 x0, uI x1, uI x2, uI (dsw ((a25_1 + (M (x0 + 3) ((x1 * 60) + i25_1))))), uI (i25_1 + 1)] (d25 (j := 31) rfl) rfl (by decide) (s3 i25_1 a25_1 h25_1l h25_1r) rfl ?_
        refine b_goto (d25 (j := 32) rfl) ?_
        exact hk25_1
  ·
    refine b_iload (d25 (j := 4) rfl) rfl ?_
    refine b_aload_n (d25 (j := 5) rfl) rfl ?_
    refine b_getR (d25 (j := 6) rfl) rfl rfl rfl rfl ?_
    refine b_iload_n (d25 (j := 7) rfl) rfl ?_
    refine b_iaload (d25 (j := 8) rfl) rfl s4 ?_
    refine b_icmp_ge (d25 (j := 9) rfl) (fun c3 => ?_) (fun c3 => ?_)
    rotate_left
    · exfalso; omega
    ·
      refine b_iload_n (d25 (j := 33) rfl) rfl ?_
      exact b_iret (d25 (j := 34) rfl) rfl k
def L26 : List (Nat × Instr × Nat × Nat) := [(0, .iconst 0, 1, 0), (1, .istore_n 2, 2, 0), (2, .iconst 0, 3, 0), (3, .istore_n 3, 4, 0), (4, .iload_n 3, 5, 0), (5, .aload_n 0, 6, 0), (6, .getfield 25, 9, 0), (9, .iload_n 1, 10, 0), (10, .iaload, 11, 0), (11, .if_icmp .ge 25, 14, 36), (14, .iload_n 2, 15, 0), (15, .aload_n 0, 16, 0), (16, .getfield 22, 19, 0), (19, .iload_n 1, 20, 0), (20, .bipush 60, 22, 0), (22, .imul, 23, 0), (23, .iload_n 3, 24, 0), (24, .iadd, 25, 0), (25, .iaload, 26, 0), (26, .invokestatic 216, 29, 0), (29, .istore_n 2, 30, 0), (30, .iinc 3 1, 33, 0), (33, .goto (-29), 36, 4), (36, .iload_n 2, 37, 0), (37, .ireturn, 38, 0)]
set_option maxRecDepth 100000 in
theorem L26_ok : L26.all (dck 26) = true := by decide +kernel
theorem d26 {j pc nx tg : Nat} {ins : Instr} (hj : L26[j]? = some (pc, ins, nx, tg)) : dcd 26 pc ins nx tg := dcl_ok L26_ok hj
def v26 (M : dsMem) (x0 x1 : Int) : Int := (dsIter (fun (i26_1 : Int) (a26_1 : Int) => (if a26_1 < (M (x0 + 3) ((x1 * 60) + i26_1)) then (M (x0 + 3) ((x1 * 60) + i26_1)) else a26_1)) 0 (M (x0 + 4) x1) 0)
set_option maxRecDepth 100000 in
set_option maxHeartbeats 4000000 in
theorem fx26 {x0 x1 : Int} {M : dsMem} {Q : bQT} (s1 : ∀ i26_1 : Int, ∀ a26_1 : Int, 0 ≤ i26_1 → i26_1 < (M (x0 + 4) x1) → 0 ≤ x1 ∧ x1 < 78 := by intros; omega) (s2 : ∀ i26_1 : Int, ∀ a26_1 : Int, 0 ≤ i26_1 → i26_1 < (M (x0 + 4) x1) → 0 ≤ ((x1 * 60) + i26_1) ∧ ((x1 * 60) + i26_1) < 4680 := by intros; omega) (s3 : ∀ i26_1 : Int, ∀ a26_1 : Int, 0 ≤ i26_1 → i26_1 < (M (x0 + 4) x1) → -2147483648 ≤ i26_1 + 1 ∧ i26_1 + 1 < 2147483648 := by intros; omega) (s4 : 0 ≤ x1 ∧ x1 < 78 := by intros; omega) (k : Q [uI (v26 M x0 x1)] M) :
    bB 26 0 [uR 5 x0, uI x1, uX 0, uX 0] [] M Q := by
  unfold v26 at k
  refine b_iconst (d26 (j := 0) rfl) (by decide) ?_
  refine b_istore_n [uR 5 x0, uI x1, uI 0, uX 0] (d26 (j := 1) rfl) (by decide) rfl ?_
  refine b_iconst (d26 (j := 2) rfl) (by decide) ?_
  refine b_istore_n [uR 5 x0, uI x1, uI 0, uI 0] (d26 (j := 3) rfl) (by decide) rfl ?_
  refine b_for (fun (i26_1 : Int) (a26_1 : Int) => [uR 5 x0, uI x1, uI a26_1, uI i26_1]) (fun (i26_1 : Int) (a26_1 : Int) => (if a26_1 < (M (x0 + 3) ((x1 * 60) + i26_1)) then (M (x0 + 3) ((x1 * 60) + i26_1)) else a26_1)) 0 (M (x0 + 4) x1) 0 (fun i26_1 a26_1 h26_1l h26_1r hk26_1 => ?_) (fun i26_1 h26_1l h26_1r => ?_)
  ·
    refine b_iload_n (d26 (j := 4) rfl) rfl ?_
    refine b_aload_n (d26 (j := 5) rfl) rfl ?_
    refine b_getR (d26 (j := 6) rfl) rfl rfl rfl rfl ?_
    refine b_iload_n (d26 (j := 7) rfl) rfl ?_
    refine b_iaload (d26 (j := 8) rfl) rfl (s1 i26_1 a26_1 h26_1l h26_1r) ?_
    refine b_icmp_ge (d26 (j := 9) rfl) (fun c1 => ?_) (fun c1 => ?_)
    · exfalso; omega
    ·
      refine b_iload_n (d26 (j := 10) rfl) rfl ?_
      refine b_aload_n (d26 (j := 11) rfl) rfl ?_
      refine b_getR (d26 (j := 12) rfl) rfl rfl rfl rfl ?_
      refine b_iload_n (d26 (j := 13) rfl) rfl ?_
      refine b_bipush (d26 (j := 14) rfl) (by decide) ?_
      refine b_imul (d26 (j := 15) rfl) rfl rfl ?_
      refine b_iload_n (d26 (j := 16) rfl) rfl ?_
      refine b_iadd (d26 (j := 17) rfl) (dsw_dsw _) rfl ?_
      refine b_stk [uI ((x1 * 60) + i26_1), uR 24 (x0 + 3), uI a26_1] (by rw [dsw_b (s2 i26_1 a26_1 h26_1l h26_1r) (by decide)]) ?_
      refine b_iaload (d26 (j := 18) rfl) rfl (s2 i26_1 a26_1 h26_1l h26_1r) ?_
      refine b_max (d26 (j := 19) rfl) rfl ⟨by decide, Nat.le_of_ble_eq_true rfl⟩ ?_
      refine b_istore_n [uR 5 x0, uI x1, uI (if a26_1 < (M (x0 + 3) ((x1 * 60) + i26_1)) then (M (x0 + 3) ((x1 * 60) + i26_1)) else a26_1), uI i26_1] (d26 (j := 20) rfl) (by decide) rfl ?_
      refine b_iinc [uR 5 x0, uI x1, uI (if a26_1 < (M (x0 + 3) ((x1 * 60) + i26_1)) then (M (x0 + 3) ((x1 * 60) + i26_1)) else a26_1), uI (i26_1 + 1)] (d26 (j := 21) rfl) rfl (by decide) (s3 i26_1 a26_1 h26_1l h26_1r) rfl ?_
      refine b_goto (d26 (j := 22) rfl) ?_
      exact hk26_1
  ·
    refine b_iload_n (d26 (j := 4) rfl) rfl ?_
    refine b_aload_n (d26 (j := 5) rfl) rfl ?_
    refine b_getR (d26 (j := 6) rfl) rfl rfl rfl rfl ?_
    refine b_iload_n (d26 (j := 7) rfl) rfl ?_
    refine b_iaload (d26 (j := 8) rfl) rfl s4 ?_
    refine b_icmp_ge (d26 (j := 9) rfl) (fun c2 => ?_) (fun c2 => ?_)
    rotate_left
    · exfalso; omega
    ·
      refine b_iload_n (d26 (j := 23) rfl) rfl ?_
      exact b_iret (d26 (j := 24) rfl) rfl k
def L27 : List (Nat × Instr × Nat × Nat) := [(0, .iconst 0, 1, 0), (1, .istore_n 2, 2, 0), (2, .iconst 0, 3, 0), (3, .istore_n 3, 4, 0), (4, .iload_n 3, 5, 0), (5, .aload_n 0, 6, 0), (6, .getfield 25, 9, 0), (9, .iload_n 1, 10, 0), (10, .iaload, 11, 0), (11, .if_icmp .ge 25, 14, 36), (14, .iload_n 2, 15, 0), (15, .iconst 1, 16, 0), (16, .aload_n 0, 17, 0), (17, .getfield 18, 20, 0), (20, .iload_n 1, 21, 0), (21, .bipush 60, 23, 0), (23, .imul, 24, 0), (24, .iload_n 3, 25, 0), (25, .iadd, 26, 0), (26, .iaload, 27, 0), (27, .ishl, 28, 0), (28, .ior, 29, 0), (29, .istore_n 2, 30, 0), (30, .iinc 3 1, 33, 0), (33, .goto (-29), 36, 4), (36, .iload_n 2, 37, 0), (37, .ireturn, 38, 0)]
set_option maxRecDepth 100000 in
theorem L27_ok : L27.all (dck 27) = true := by decide +kernel
theorem d27 {j pc nx tg : Nat} {ins : Instr} (hj : L27[j]? = some (pc, ins, nx, tg)) : dcd 27 pc ins nx tg := dcl_ok L27_ok hj
def v27 (M : dsMem) (x0 x1 : Int) : Int := (dsIter (fun (i27_1 : Int) (a27_1 : Int) => (dsOr a27_1 (dsShl 1 (M (x0 + 2) ((x1 * 60) + i27_1))))) 0 (M (x0 + 4) x1) 0)
set_option maxRecDepth 100000 in
set_option maxHeartbeats 4000000 in
theorem fx27 {x0 x1 : Int} {M : dsMem} {Q : bQT} (s1 : ∀ i27_1 : Int, ∀ a27_1 : Int, 0 ≤ i27_1 → i27_1 < (M (x0 + 4) x1) → 0 ≤ x1 ∧ x1 < 78 := by intros; omega) (s2 : ∀ i27_1 : Int, ∀ a27_1 : Int, 0 ≤ i27_1 → i27_1 < (M (x0 + 4) x1) → 0 ≤ ((x1 * 60) + i27_1) ∧ ((x1 * 60) + i27_1) < 4680 := by intros; omega) (s3 : ∀ i27_1 : Int, ∀ a27_1 : Int, 0 ≤ i27_1 → i27_1 < (M (x0 + 4) x1) → -2147483648 ≤ i27_1 + 1 ∧ i27_1 + 1 < 2147483648 := by intros; omega) (s4 : 0 ≤ x1 ∧ x1 < 78 := by intros; omega) (k : Q [uI (v27 M x0 x1)] M) :
    bB 27 0 [uR 5 x0, uI x1, uX 0, uX 0] [] M Q := by
  unfold v27 at k
  refine b_iconst (d27 (j := 0) rfl) (by decide) ?_
  refine b_istore_n [uR 5 x0, uI x1, uI 0, uX 0] (d27 (j := 1) rfl) (by decide) rfl ?_
  refine b_iconst (d27 (j := 2) rfl) (by decide) ?_
  refine b_istore_n [uR 5 x0, uI x1, uI 0, uI 0] (d27 (j := 3) rfl) (by decide) rfl ?_
  refine b_for (fun (i27_1 : Int) (a27_1 : Int) => [uR 5 x0, uI x1, uI a27_1, uI i27_1]) (fun (i27_1 : Int) (a27_1 : Int) => (dsOr a27_1 (dsShl 1 (M (x0 + 2) ((x1 * 60) + i27_1))))) 0 (M (x0 + 4) x1) 0 (fun i27_1 a27_1 h27_1l h27_1r hk27_1 => ?_) (fun i27_1 h27_1l h27_1r => ?_)
  ·
    refine b_iload_n (d27 (j := 4) rfl) rfl ?_
    refine b_aload_n (d27 (j := 5) rfl) rfl ?_
    refine b_getR (d27 (j := 6) rfl) rfl rfl rfl rfl ?_
    refine b_iload_n (d27 (j := 7) rfl) rfl ?_
    refine b_iaload (d27 (j := 8) rfl) rfl (s1 i27_1 a27_1 h27_1l h27_1r) ?_
    refine b_icmp_ge (d27 (j := 9) rfl) (fun c1 => ?_) (fun c1 => ?_)
    · exfalso; omega
    ·
      refine b_iload_n (d27 (j := 10) rfl) rfl ?_
      refine b_iconst (d27 (j := 11) rfl) (by decide) ?_
      refine b_aload_n (d27 (j := 12) rfl) rfl ?_
      refine b_getR (d27 (j := 13) rfl) rfl rfl rfl rfl ?_
      refine b_iload_n (d27 (j := 14) rfl) rfl ?_
      refine b_bipush (d27 (j := 15) rfl) (by decide) ?_
      refine b_imul (d27 (j := 16) rfl) rfl rfl ?_
      refine b_iload_n (d27 (j := 17) rfl) rfl ?_
      refine b_iadd (d27 (j := 18) rfl) (dsw_dsw _) rfl ?_
      refine b_stk [uI ((x1 * 60) + i27_1), uR 24 (x0 + 2), uI 1, uI a27_1] (by rw [dsw_b (s2 i27_1 a27_1 h27_1l h27_1r) (by decide)]) ?_
      refine b_iaload (d27 (j := 19) rfl) rfl (s2 i27_1 a27_1 h27_1l h27_1r) ?_
      refine b_ishl (d27 (j := 20) rfl) ?_
      refine b_ior (d27 (j := 21) rfl) ?_
      refine b_istore_n [uR 5 x0, uI x1, uI (dsOr a27_1 (dsShl 1 (M (x0 + 2) ((x1 * 60) + i27_1)))), uI i27_1] (d27 (j := 22) rfl) (by decide) rfl ?_
      refine b_iinc [uR 5 x0, uI x1, uI (dsOr a27_1 (dsShl 1 (M (x0 + 2) ((x1 * 60) + i27_1)))), uI (i27_1 + 1)] (d27 (j := 23) rfl) rfl (by decide) (s3 i27_1 a27_1 h27_1l h27_1r) rfl ?_
      refine b_goto (d27 (j := 24) rfl) ?_
      exact hk27_1
  ·
    refine b_iload_n (d27 (j := 4) rfl) rfl ?_
    refine b_aload_n (d27 (j := 5) rfl) rfl ?_
    refine b_getR (d27 (j := 6) rfl) rfl rfl rfl rfl ?_
    refine b_iload_n (d27 (j := 7) rfl) rfl ?_
    refine b_iaload (d27 (j := 8) rfl) rfl s4 ?_
    refine b_icmp_ge (d27 (j := 9) rfl) (fun c2 => ?_) (fun c2 => ?_)
    rotate_left
    · exfalso; omega
    ·
      refine b_iload_n (d27 (j := 25) rfl) rfl ?_
      exact b_iret (d27 (j := 26) rfl) rfl k
def L32 : List (Nat × Instr × Nat × Nat) := [(0, .aload_n 0, 1, 0), (1, .getfield 9, 4, 0), (4, .ifCond .ne 7, 7, 11), (7, .iconst (-1), 8, 0), (8, .goto 9, 11, 17), (11, .aload_n 0, 12, 0), (12, .getfield 15, 15, 0), (15, .iconst 0, 16, 0), (16, .iaload, 17, 0), (17, .ireturn, 18, 0)]
set_option maxRecDepth 100000 in
theorem L32_ok : L32.all (dck 32) = true := by decide +kernel
theorem d32 {j pc nx tg : Nat} {ins : Instr} (hj : L32[j]? = some (pc, ins, nx, tg)) : dcd 32 pc ins nx tg := dcl_ok L32_ok hj
def v32 (M : dsMem) : Int := (if (M 77 0) = 0 then -1 else (M 78 0))
set_option maxRecDepth 100000 in
set_option maxHeartbeats 4000000 in
theorem fx32 {M : dsMem} {Q : bQT}  (k : Q [uI (v32 M)] M) :
    bB 32 0 [uR 7 77] [] M Q := by
  unfold v32 at k
  refine b_aload_n (d32 (j := 0) rfl) rfl ?_
  refine b_getI (d32 (j := 1) rfl) rfl rfl rfl rfl (Or.inl rfl) ?_
  refine b_stk [uI (M 77 0)] rfl ?_
  refine b_if_ne (d32 (j := 2) rfl) (fun c1 => ?_) (fun c1 => ?_)
  ·
    rw [if_neg c1] at k
    refine b_aload_n (d32 (j := 5) rfl) rfl ?_
    refine b_getR (d32 (j := 6) rfl) rfl rfl rfl rfl ?_
    refine b_stk [uR 30 78] rfl ?_
    refine b_iconst (d32 (j := 7) rfl) (by decide) ?_
    refine b_iaload (d32 (j := 8) rfl) rfl (by decide) ?_
    exact b_iret (d32 (j := 9) rfl) rfl k
  ·
    rw [if_pos c1] at k
    refine b_iconst (d32 (j := 3) rfl) (by decide) ?_
    refine b_goto (d32 (j := 4) rfl) ?_
    exact b_iret (d32 (j := 9) rfl) rfl k
def L33 : List (Nat × Instr × Nat × Nat) := [(0, .aload_n 0, 1, 0), (1, .getfield 9, 4, 0), (4, .ifCond .ne 7, 7, 11), (7, .iconst (-1), 8, 0), (8, .goto 14, 11, 22), (11, .aload_n 0, 12, 0), (12, .getfield 15, 15, 0), (15, .aload_n 0, 16, 0), (16, .getfield 9, 19, 0), (19, .iconst 1, 20, 0), (20, .isub, 21, 0), (21, .iaload, 22, 0), (22, .ireturn, 23, 0)]
set_option maxRecDepth 100000 in
theorem L33_ok : L33.all (dck 33) = true := by decide +kernel
theorem d33 {j pc nx tg : Nat} {ins : Instr} (hj : L33[j]? = some (pc, ins, nx, tg)) : dcd 33 pc ins nx tg := dcl_ok L33_ok hj
def v33 (M : dsMem) : Int := (if (M 77 0) = 0 then -1 else (M 78 ((M 77 0) - 1)))
set_option maxRecDepth 100000 in
set_option maxHeartbeats 4000000 in
theorem fx33 {M : dsMem} {Q : bQT} (s1 : (¬ (M 77 0) = 0) → 0 ≤ ((M 77 0) - 1) ∧ ((M 77 0) - 1) < 60 := by intros; omega) (k : Q [uI (v33 M)] M) :
    bB 33 0 [uR 7 77] [] M Q := by
  unfold v33 at k
  refine b_aload_n (d33 (j := 0) rfl) rfl ?_
  refine b_getI (d33 (j := 1) rfl) rfl rfl rfl rfl (Or.inl rfl) ?_
  refine b_stk [uI (M 77 0)] rfl ?_
  refine b_if_ne (d33 (j := 2) rfl) (fun c1 => ?_) (fun c1 => ?_)
  ·
    rw [if_neg c1] at k
    refine b_aload_n (d33 (j := 5) rfl) rfl ?_
    refine b_getR (d33 (j := 6) rfl) rfl rfl rfl rfl ?_
    refine b_stk [uR 30 78] rfl ?_
    refine b_aload_n (d33 (j := 7) rfl) rfl ?_
    refine b_getI (d33 (j := 8) rfl) rfl rfl rfl rfl (Or.inl rfl) ?_
    refine b_stk [uI (M 77 0), uR 30 78] rfl ?_
    refine b_iconst (d33 (j := 9) rfl) (by decide) ?_
    refine b_isub (d33 (j := 10) rfl) rfl rfl ?_
    refine b_stk [uI ((M 77 0) - 1), uR 30 78] (by rw [dsw_b (s1 c1) (by decide)]) ?_
    refine b_iaload (d33 (j := 11) rfl) rfl (s1 c1) ?_
    exact b_iret (d33 (j := 12) rfl) rfl k
  ·
    rw [if_pos c1] at k
    refine b_iconst (d33 (j := 3) rfl) (by decide) ?_
    refine b_goto (d33 (j := 4) rfl) ?_
    exact b_iret (d33 (j := 12) rfl) rfl k
def L41 : List (Nat × Instr × Nat × Nat) := [(0, .bipush 64, 2, 0), (2, .bipush 8, 4, 0), (4, .aload_n 0, 5, 0), (5, .getfield 9, 8, 0), (8, .ishl, 9, 0), (9, .isub, 10, 0), (10, .istore_n 3, 11, 0), (11, .lload_n 1, 12, 0), (12, .iload_n 3, 13, 0), (13, .lshl, 14, 0), (14, .iload_n 3, 15, 0), (15, .lshr, 16, 0), (16, .lreturn, 17, 0)]
set_option maxRecDepth 100000 in
theorem L41_ok : L41.all (dck 41) = true := by decide +kernel
theorem d41 {j pc nx tg : Nat} {ins : Instr} (hj : L41[j]? = some (pc, ins, nx, tg)) : dcd 41 pc ins nx tg := dcl_ok L41_ok hj
def v41 (M : dsMem) (x0 x1 : Int) : Int := (dsLsr (dsLsl x1 (64 - (dsShl 8 (M x0 0)))) (64 - (dsShl 8 (M x0 0))))
set_option maxRecDepth 100000 in
set_option maxHeartbeats 4000000 in
theorem fx41 {x0 x1 : Int} {M : dsMem} {Q : bQT} (s1 : -2147483648 ≤ (64 - (dsShl 8 (M x0 0))) ∧ (64 - (dsShl 8 (M x0 0))) < 2147483648 := by intros; omega) (k : Q [uJ (v41 M x0 x1)] M) :
    bB 41 0 [uR 9 x0, uJ x1, uX 0, uX 0] [] M Q := by
  unfold v41 at k
  refine b_bipush (d41 (j := 0) rfl) (by decide) ?_
  refine b_bipush (d41 (j := 1) rfl) (by decide) ?_
  refine b_aload_n (d41 (j := 2) rfl) rfl ?_
  refine b_getI (d41 (j := 3) rfl) rfl rfl rfl rfl (Or.inl rfl) ?_
  refine b_stk [uI (M x0 0), uI 8, uI 64] rfl ?_
  refine b_ishl (d41 (j := 4) rfl) ?_
  refine b_isub (d41 (j := 5) rfl) rfl rfl ?_
  refine b_stk [uI (64 - (dsShl 8 (M x0 0)))] (by rw [dsw_r s1]) ?_
  refine b_istore_n [uR 9 x0, uJ x1, uX 0, uI (64 - (dsShl 8 (M x0 0)))] (d41 (j := 6) rfl) (by decide) rfl ?_
  refine b_lload_n (d41 (j := 7) rfl) rfl ?_
  refine b_iload_n (d41 (j := 8) rfl) rfl ?_
  refine b_lshl (d41 (j := 9) rfl) ?_
  refine b_iload_n (d41 (j := 10) rfl) rfl ?_
  refine b_lshr (d41 (j := 11) rfl) ?_
  exact b_lret (d41 (j := 12) rfl) rfl k
def L65 : List (Nat × Instr × Nat × Nat) := [(0, .iconst 0, 1, 0), (1, .istore_n 1, 2, 0), (2, .iconst 0, 3, 0), (3, .istore_n 2, 4, 0), (4, .iload_n 2, 5, 0), (5, .aload_n 0, 6, 0), (6, .getfield 51, 9, 0), (9, .getfield 61, 12, 0), (12, .if_icmp .ge 31, 15, 43), (15, .aload_n 0, 16, 0), (16, .getfield 51, 19, 0), (19, .getfield 74, 22, 0), (22, .iload_n 2, 23, 0), (23, .iaload, 24, 0), (24, .aload_n 0, 25, 0), (25, .getfield 15, 28, 0), (28, .if_icmp .ge 9, 31, 37), (31, .iload_n 1, 32, 0), (32, .iconst 1, 33, 0), (33, .iload_n 2, 34, 0), (34, .ishl, 35, 0), (35, .ior, 36, 0), (36, .istore_n 1, 37, 0), (37, .iinc 2 1, 40, 0), (40, .goto (-36), 43, 4), (43, .iload_n 1, 44, 0), (44, .ireturn, 45, 0)]
set_option maxRecDepth 100000 in
theorem L65_ok : L65.all (dck 65) = true := by decide +kernel
theorem d65 {j pc nx tg : Nat} {ins : Instr} (hj : L65[j]? = some (pc, ins, nx, tg)) : dcd 65 pc ins nx tg := dcl_ok L65_ok hj
def v65 (M : dsMem) (x0 : Int) : Int := (dsIter (fun (i65_1 : Int) (a65_1 : Int) => (if (M x0 1) ≤ (M (x0 + 10) i65_1) then a65_1 else (dsOr a65_1 (dsShl 1 i65_1)))) 0 (M (x0 + 6) 0) 0)
set_option maxRecDepth 100000 in
set_option maxHeartbeats 4000000 in
theorem fx65 {x0 : Int} {M : dsMem} {Q : bQT} (s1 : ∀ i65_1 : Int, ∀ a65_1 : Int, 0 ≤ i65_1 → i65_1 < (M (x0 + 6) 0) → 0 ≤ i65_1 ∧ i65_1 < 8 := by intros; omega) (s2 : ∀ i65_1 : Int, ∀ a65_1 : Int, 0 ≤ i65_1 → i65_1 < (M (x0 + 6) 0) → -2147483648 ≤ i65_1 + 1 ∧ i65_1 + 1 < 2147483648 := by intros; omega) (k : Q [uI (v65 M x0)] M) :
    bB 65 0 [uR 4 x0, uX 0, uX 0] [] M Q := by
  unfold v65 at k
  refine b_iconst (d65 (j := 0) rfl) (by decide) ?_
  refine b_istore_n [uR 4 x0, uI 0, uX 0] (d65 (j := 1) rfl) (by decide) rfl ?_
  refine b_iconst (d65 (j := 2) rfl) (by decide) ?_
  refine b_istore_n [uR 4 x0, uI 0, uI 0] (d65 (j := 3) rfl) (by decide) rfl ?_
  refine b_for (fun (i65_1 : Int) (a65_1 : Int) => [uR 4 x0, uI a65_1, uI i65_1]) (fun (i65_1 : Int) (a65_1 : Int) => (if (M x0 1) ≤ (M (x0 + 10) i65_1) then a65_1 else (dsOr a65_1 (dsShl 1 i65_1)))) 0 (M (x0 + 6) 0) 0 (fun i65_1 a65_1 h65_1l h65_1r hk65_1 => ?_) (fun i65_1 h65_1l h65_1r => ?_)
  ·
    refine b_iload_n (d65 (j := 4) rfl) rfl ?_
    refine b_aload_n (d65 (j := 5) rfl) rfl ?_
    refine b_getR (d65 (j := 6) rfl) rfl rfl rfl rfl ?_
    refine b_getI (d65 (j := 7) rfl) rfl rfl rfl rfl (Or.inl rfl) ?_
    refine b_stk [uI (M (x0 + 6) 0), uI i65_1] rfl ?_
    refine b_icmp_ge (d65 (j := 8) rfl) (fun c1 => ?_) (fun c1 => ?_)
    · exfalso; omega
    ·
      refine b_aload_n (d65 (j := 9) rfl) rfl ?_
      refine b_getR (d65 (j := 10) rfl) rfl rfl rfl rfl ?_
      refine b_getR (d65 (j := 11) rfl) rfl rfl rfl rfl ?_
      refine b_stk [uR 20 (x0 + 10)] (by rw [show ((x0 + 6) + 4) = (x0 + 10) by omega]) ?_
      refine b_iload_n (d65 (j := 12) rfl) rfl ?_
      refine b_iaload (d65 (j := 13) rfl) rfl (s1 i65_1 a65_1 h65_1l h65_1r) ?_
      refine b_aload_n (d65 (j := 14) rfl) rfl ?_
      refine b_getI (d65 (j := 15) rfl) rfl rfl rfl rfl (Or.inl rfl) ?_
      refine b_stk [uI (M x0 1), uI (M (x0 + 10) i65_1)] rfl ?_
      refine b_icmp_ge (d65 (j := 16) rfl) (fun c2 => ?_) (fun c2 => ?_)
      ·
        rw [if_pos c2] at hk65_1
        refine b_iinc [uR 4 x0, uI a65_1, uI (i65_1 + 1)] (d65 (j := 23) rfl) rfl (by decide) (s2 i65_1 a65_1 h65_1l h65_1r) rfl ?_
        refine b_goto (d65 (j := 24) rfl) ?_
        exact hk65_1
      ·
        rw [if_neg c2] at hk65_1
        refine b_iload_n (d65 (j := 17) rfl) rfl ?_
        refine b_iconst (d65 (j := 18) rfl) (by decide) ?_
        refine b_iload_n (d65 (j := 19) rfl) rfl ?_
        refine b_ishl (d65 (j := 20) rfl) ?_
        refine b_ior (d65 (j := 21) rfl) ?_
        refine b_istore_n [uR 4 x0, uI (dsOr a65_1 (dsShl 1 i65_1)), uI i65_1] (d65 (j := 22) rfl) (by decide) rfl ?_
        refine b_iinc [uR 4 x0, uI (dsOr a65_1 (dsShl 1 i65_1)), uI (i65_1 + 1)] (d65 (j := 23) rfl) rfl (by decide) (s2 i65_1 a65_1 h65_1l h65_1r) rfl ?_
        refine b_goto (d65 (j := 24) rfl) ?_
        exact hk65_1
  ·
    refine b_iload_n (d65 (j := 4) rfl) rfl ?_
    refine b_aload_n (d65 (j := 5) rfl) rfl ?_
    refine b_getR (d65 (j := 6) rfl) rfl rfl rfl rfl ?_
    refine b_getI (d65 (j := 7) rfl) rfl rfl rfl rfl (Or.inl rfl) ?_
    refine b_stk [uI (M (x0 + 6) 0), uI i65_1] rfl ?_
    refine b_icmp_ge (d65 (j := 8) rfl) (fun c3 => ?_) (fun c3 => ?_)
    rotate_left
    · exfalso; omega
    ·
      refine b_iload_n (d65 (j := 25) rfl) rfl ?_
      exact b_iret (d65 (j := 26) rfl) rfl k
def L155 : List (Nat × Instr × Nat × Nat) := [(0, .iconst 0, 1, 0), (1, .istore_n 1, 2, 0), (2, .iconst 0, 3, 0), (3, .istore_n 2, 4, 0), (4, .iload_n 2, 5, 0), (5, .iconst 4, 6, 0), (6, .if_icmp .ge 21, 9, 27), (9, .aload_n 0, 10, 0), (10, .getfield 32, 13, 0), (13, .iload_n 2, 14, 0), (14, .aaload, 15, 0), (15, .ifnull 6, 18, 21), (18, .iinc 1 1, 21, 0), (21, .iinc 2 1, 24, 0), (24, .goto (-20), 27, 4), (27, .iload_n 1, 28, 0), (28, .ireturn, 29, 0)]
set_option maxRecDepth 100000 in
theorem L155_ok : L155.all (dck 155) = true := by decide +kernel
theorem d155 {j pc nx tg : Nat} {ins : Instr} (hj : L155[j]? = some (pc, ins, nx, tg)) : dcd 155 pc ins nx tg := dcl_ok L155_ok hj
def v155 (M : dsMem) : Int := (dsIter (fun (i155_1 : Int) (a155_1 : Int) => (if (M 46 i155_1) < 0 then a155_1 else (a155_1 + 1))) 0 4 0)
set_option maxRecDepth 100000 in
set_option maxHeartbeats 4000000 in
theorem fx155 {M : dsMem} {Q : bQT} (s1 : ∀ i155_1 : Int, ∀ a155_1 : Int, 0 ≤ i155_1 → i155_1 < 4 → 0 ≤ i155_1 ∧ i155_1 < 4 := by intros; omega) (s2 : ∀ i155_1 : Int, ∀ a155_1 : Int, 0 ≤ i155_1 → i155_1 < 4 → -2147483648 ≤ i155_1 + 1 ∧ i155_1 + 1 < 2147483648 := by intros; omega) (s3 : ∀ i155_1 : Int, ∀ a155_1 : Int, 0 ≤ i155_1 → i155_1 < 4 → (¬ (M 46 i155_1) < 0) → -2147483648 ≤ a155_1 + 1 ∧ a155_1 + 1 < 2147483648 := by intros; omega) (k : Q [uI (v155 M)] M) :
    bB 155 0 [uR 10 0, uX 0, uX 0] [] M Q := by
  unfold v155 at k
  refine b_iconst (d155 (j := 0) rfl) (by decide) ?_
  refine b_istore_n [uR 10 0, uI 0, uX 0] (d155 (j := 1) rfl) (by decide) rfl ?_
  refine b_iconst (d155 (j := 2) rfl) (by decide) ?_
  refine b_istore_n [uR 10 0, uI 0, uI 0] (d155 (j := 3) rfl) (by decide) rfl ?_
  refine b_for (fun (i155_1 : Int) (a155_1 : Int) => [uR 10 0, uI a155_1, uI i155_1]) (fun (i155_1 : Int) (a155_1 : Int) => (if (M 46 i155_1) < 0 then a155_1 else (a155_1 + 1))) 0 4 0 (fun i155_1 a155_1 h155_1l h155_1r hk155_1 => ?_) (fun i155_1 h155_1l h155_1r => ?_)
  ·
    refine b_iload_n (d155 (j := 4) rfl) rfl ?_
    refine b_iconst (d155 (j := 5) rfl) (by decide) ?_
    refine b_icmp_ge (d155 (j := 6) rfl) (fun c1 => ?_) (fun c1 => ?_)
    · exfalso; omega
    ·
      refine b_aload_n (d155 (j := 7) rfl) rfl ?_
      refine b_getR (d155 (j := 8) rfl) rfl rfl rfl rfl ?_
      refine b_stk [uR 36 46] rfl ?_
      refine b_iload_n (d155 (j := 9) rfl) rfl ?_
      refine b_aaloadR (d155 (j := 10) rfl) rfl (s1 i155_1 a155_1 h155_1l h155_1r) ?_
      refine b_ifnull (d155 (j := 11) rfl) (fun c2 => ?_) (fun c2 => ?_)
      ·
        rw [if_pos c2] at hk155_1
        refine b_iinc [uR 10 0, uI a155_1, uI (i155_1 + 1)] (d155 (j := 13) rfl) rfl (by decide) (s2 i155_1 a155_1 h155_1l h155_1r) rfl ?_
        refine b_goto (d155 (j := 14) rfl) ?_
        exact hk155_1
      ·
        rw [if_neg c2] at hk155_1
        refine b_iinc [uR 10 0, uI (a155_1 + 1), uI i155_1] (d155 (j := 12) rfl) rfl (by decide) (s3 i155_1 a155_1 h155_1l h155_1r c2) rfl ?_
        refine b_iinc [uR 10 0, uI (a155_1 + 1), uI (i155_1 + 1)] (d155 (j := 13) rfl) rfl (by decide) (s2 i155_1 a155_1 h155_1l h155_1r) rfl ?_
        refine b_goto (d155 (j := 14) rfl) ?_
        exact hk155_1
  ·
    refine b_iload_n (d155 (j := 4) rfl) rfl ?_
    refine b_iconst (d155 (j := 5) rfl) (by decide) ?_
    refine b_icmp_ge (d155 (j := 6) rfl) (fun c3 => ?_) (fun c3 => ?_)
    rotate_left
    · exfalso; omega
    ·
      refine b_iload_n (d155 (j := 15) rfl) rfl ?_
      exact b_iret (d155 (j := 16) rfl) rfl k
def L165 : List (Nat × Instr × Nat × Nat) := [(0, .lconst 1, 1, 0), (1, .lstore_n 1, 2, 0), (2, .iconst 2, 3, 0), (3, .istore_n 3, 4, 0), (4, .iload_n 3, 5, 0), (5, .iload_n 0, 6, 0), (6, .if_icmp .gt 14, 9, 20), (9, .lload_n 1, 10, 0), (10, .iload_n 3, 11, 0), (11, .i2l, 12, 0), (12, .lmul, 13, 0), (13, .lstore_n 1, 14, 0), (14, .iinc 3 1, 17, 0), (17, .goto (-13), 20, 4), (20, .lload_n 1, 21, 0), (21, .lreturn, 22, 0)]
set_option maxRecDepth 100000 in
theorem L165_ok : L165.all (dck 165) = true := by decide +kernel
theorem d165 {j pc nx tg : Nat} {ins : Instr} (hj : L165[j]? = some (pc, ins, nx, tg)) : dcd 165 pc ins nx tg := dcl_ok L165_ok hj
def v165 (M : dsMem) (x0 : Int) : Int := (dsIter (fun (i165_1 : Int) (a165_1 : Int) => (dsw64 ((a165_1 * i165_1)))) 2 (x0 + 1) 1)
set_option maxRecDepth 100000 in
set_option maxHeartbeats 4000000 in
theorem fx165 {x0 : Int} {M : dsMem} {Q : bQT} (s1 : ∀ i165_1 : Int, ∀ a165_1 : Int, 2 ≤ i165_1 → i165_1 < (x0 + 1) → -2147483648 ≤ i165_1 + 1 ∧ i165_1 + 1 < 2147483648 := by intros; omega) (k : Q [uJ (v165 M x0)] M) :
    bB 165 0 [uI x0, uX 0, uX 0, uX 0] [] M Q := by
  unfold v165 at k
  refine b_lconst (d165 (j := 0) rfl) ?_
  refine b_stk [uJ 1] rfl ?_
  refine b_lstore_n [uI x0, uJ 1, uX 0, uX 0] (d165 (j := 1) rfl) (by decide) rfl ?_
  refine b_iconst (d165 (j := 2) rfl) (by decide) ?_
  refine b_istore_n [uI x0, uJ 1, uX 0, uI 2] (d165 (j := 3) rfl) (by decide) rfl ?_
  refine b_for (fun (i165_1 : Int) (a165_1 : Int) => [uI x0, uJ a165_1, uX 0, uI i165_1]) (fun (i165_1 : Int) (a165_1 : Int) => (dsw64 ((a165_1 * i165_1)))) 2 (x0 + 1) 1 (fun i165_1 a165_1 h165_1l h165_1r hk165_1 => ?_) (fun i165_1 h165_1l h165_1r => ?_)
  ·
    refine b_iload_n (d165 (j := 4) rfl) rfl ?_
    refine b_iload_n (d165 (j := 5) rfl) rfl ?_
    refine b_icmp_gt (d165 (j := 6) rfl) (fun c1 => ?_) (fun c1 => ?_)
    · exfalso; omega
    ·
      refine b_lload_n (d165 (j := 7) rfl) rfl ?_
      refine b_iload_n (d165 (j := 8) rfl) rfl ?_
      refine b_i2l (d165 (j := 9) rfl) ?_
      refine b_lmul (d165 (j := 10) rfl) rfl rfl ?_
      refine b_lstore_n [uI x0, uJ (dsw64 ((a165_1 * i165_1))), uX 0, uI i165_1] (d165 (j := 11) rfl) (by decide) rfl ?_
      refine b_iinc [uI x0, uJ (dsw64 ((a165_1 * i165_1))), uX 0, uI (i165_1 + 1)] (d165 (j := 12) rfl) rfl (by decide) (s1 i165_1 a165_1 h165_1l h165_1r) rfl ?_
      refine b_goto (d165 (j := 13) rfl) ?_
      exact hk165_1
  ·
    refine b_iload_n (d165 (j := 4) rfl) rfl ?_
    refine b_iload_n (d165 (j := 5) rfl) rfl ?_
    refine b_icmp_gt (d165 (j := 6) rfl) (fun c2 => ?_) (fun c2 => ?_)
    rotate_left
    · exfalso; omega
    ·
      refine b_lload_n (d165 (j := 14) rfl) rfl ?_
      exact b_lret (d165 (j := 15) rfl) rfl k
def L58 : List (Nat × Instr × Nat × Nat) := [(0, .iload_n 1, 1, 0), (1, .ifCond .lt 11, 4, 12), (4, .iload_n 1, 5, 0), (5, .aload_n 0, 6, 0), (6, .getfield 9, 9, 0), (9, .if_icmp .lt 5, 12, 14), (12, .iconst 4, 13, 0), (13, .ireturn, 14, 0), (14, .aload_n 0, 15, 0), (15, .getfield 21, 18, 0), (18, .iload_n 1, 19, 0), (19, .baload, 20, 0), (20, .istore_n 2, 21, 0), (21, .iload_n 2, 22, 0), (22, .bipush 32, 24, 0), (24, .if_icmp .eq 9, 27, 33), (27, .iload_n 2, 28, 0), (28, .bipush 10, 30, 0), (30, .if_icmp .ne 5, 33, 35), (33, .iconst 0, 34, 0), (34, .ireturn, 35, 0), (35, .iload_n 2, 36, 0), (36, .bipush 97, 38, 0), (38, .if_icmp .lt 11, 41, 49), (41, .iload_n 2, 42, 0), (42, .bipush 122, 44, 0), (44, .if_icmp .gt 5, 47, 49), (47, .iconst 1, 48, 0), (48, .ireturn, 49, 0), (49, .iload_n 2, 50, 0), (50, .bipush 48, 52, 0), (52, .if_icmp .lt 11, 55, 63), (55, .iload_n 2, 56, 0), (56, .bipush 57, 58, 0), (58, .if_icmp .gt 5, 61, 63), (61, .iconst 2, 62, 0), (62, .ireturn, 63, 0), (63, .iload_n 2, 64, 0), (64, .bipush 59, 66, 0), (66, .if_icmp .ne 7, 69, 73), (69, .iconst 3, 70, 0), (70, .goto 4, 73, 74), (73, .iconst 4, 74, 0), (74, .ireturn, 75, 0)]
set_option maxRecDepth 100000 in
theorem L58_ok : L58.all (dck 58) = true := by decide +kernel
theorem d58 {j pc nx tg : Nat} {ins : Instr} (hj : L58[j]? = some (pc, ins, nx, tg)) : dcd 58 pc ins nx tg := dcl_ok L58_ok hj
def v58 (M : dsMem) (x1 : Int) : Int := (if x1 < 0 then 4 else (if x1 < (M 1 0) then (if (M 2 x1) = 32 then 0 else (if (M 2 x1) = 10 then 0 else (if (M 2 x1) < 97 then (if (M 2 x1) < 48 then (if (M 2 x1) = 59 then 3 else 4) else (if 57 < (M 2 x1) then (if (M 2 x1) = 59 then 3 else 4) else 2)) else (if 122 < (M 2 x1) then (if (M 2 x1) < 48 then (if (M 2 x1) = 59 then 3 else 4) else (if 57 < (M 2 x1) then (if (M 2 x1) = 59 then 3 else 4) else 2)) else 1)))) else 4))
set_option maxRecDepth 100000 in
set_option maxHeartbeats 4000000 in
theorem fx58 {x1 : Int} {M : dsMem} {Q : bQT} (s1 : (¬ x1 < 0) → (x1 < (M 1 0)) → 0 ≤ x1 ∧ x1 < 600 := by intros; omega) (k : Q [uI (v58 M x1)] M) :
    bB 58 0 [uR 6 1, uI x1, uX 0] [] M Q := by
  unfold v58 at k
  refine b_iload_n (d58 (j := 0) rfl) rfl ?_
  refine b_if_lt (d58 (j := 1) rfl) (fun c1 => ?_) (fun c1 => ?_)
  ·
    rw [if_pos c1] at k
    refine b_iconst (d58 (j := 6) rfl) (by decide) ?_
    exact b_iret (d58 (j := 7) rfl) rfl k
  ·
    rw [if_neg c1] at k
    refine b_iload_n (d58 (j := 2) rfl) rfl ?_
    refine b_aload_n (d58 (j := 3) rfl) rfl ?_
    refine b_getI (d58 (j := 4) rfl) rfl rfl rfl rfl (Or.inl rfl) ?_
    refine b_stk [uI (M 1 0), uI x1] rfl ?_
    refine b_icmp_lt (d58 (j := 5) rfl) (fun c2 => ?_) (fun c2 => ?_)
    ·
      rw [if_pos c2] at k
      refine b_aload_n (d58 (j := 8) rfl) rfl ?_
      refine b_getR (d58 (j := 9) rfl) rfl rfl rfl rfl ?_
      refine b_stk [uR 29 2] rfl ?_
      refine b_iload_n (d58 (j := 10) rfl) rfl ?_
      refine b_baload (d58 (j := 11) rfl) (Or.inl rfl) (s1 c1 c2) ?_
      refine b_istore_n [uR 6 1, uI x1, uI (M 2 x1)] (d58 (j := 12) rfl) (by decide) rfl ?_
      refine b_iload_n (d58 (j := 13) rfl) rfl ?_
      refine b_bipush (d58 (j := 14) rfl) (by decide) ?_
      refine b_icmp_eq (d58 (j := 15) rfl) (fun c3 => ?_) (fun c3 => ?_)
      ·
        rw [if_pos c3] at k
        refine b_iconst (d58 (j := 19) rfl) (by decide) ?_
        exact b_iret (d58 (j := 20) rfl) rfl k
      ·
        rw [if_neg c3] at k
        refine b_iload_n (d58 (j := 16) rfl) rfl ?_
        refine b_bipush (d58 (j := 17) rfl) (by decide) ?_
        refine b_icmp_ne (d58 (j := 18) rfl) (fun c4 => ?_) (fun c4 => ?_)
        ·
          rw [if_neg c4] at k
          refine b_iload_n (d58 (j := 21) rfl) rfl ?_
          refine b_bipush (d58 (j := 22) rfl) (by decide) ?_
          refine b_icmp_lt (d58 (j := 23) rfl) (fun c5 => ?_) (fun c5 => ?_)
          ·
            rw [if_pos c5] at k
            refine b_iload_n (d58 (j := 29) rfl) rfl ?_
            refine b_bipush (d58 (j := 30) rfl) (by decide) ?_
            refine b_icmp_lt (d58 (j := 31) rfl) (fun c6 => ?_) (fun c6 => ?_)
            ·
              rw [if_pos c6] at k
              refine b_iload_n (d58 (j := 37) rfl) rfl ?_
              refine b_bipush (d58 (j := 38) rfl) (by decide) ?_
              refine b_icmp_ne (d58 (j := 39) rfl) (fun c7 => ?_) (fun c7 => ?_)
              ·
                rw [if_neg c7] at k
                refine b_iconst (d58 (j := 42) rfl) (by decide) ?_
                exact b_iret (d58 (j := 43) rfl) rfl k
              ·
                rw [if_pos c7] at k
                refine b_iconst (d58 (j := 40) rfl) (by decide) ?_
                refine b_goto (d58 (j := 41) rfl) ?_
                exact b_iret (d58 (j := 43) rfl) rfl k
            ·
              rw [if_neg c6] at k
              refine b_iload_n (d58 (j := 32) rfl) rfl ?_
              refine b_bipush (d58 (j := 33) rfl) (by decide) ?_
              refine b_icmp_gt (d58 (j := 34) rfl) (fun c8 => ?_) (fun c8 => ?_)
              ·
                rw [if_pos c8] at k
                refine b_iload_n (d58 (j := 37) rfl) rfl ?_
                refine b_bipush (d58 (j := 38) rfl) (by decide) ?_
                refine b_icmp_ne (d58 (j := 39) rfl) (fun c9 => ?_) (fun c9 => ?_)
                ·
                  rw [if_neg c9] at k
                  refine b_iconst (d58 (j := 42) rfl) (by decide) ?_
                  exact b_iret (d58 (j := 43) rfl) rfl k
                ·
                  rw [if_pos c9] at k
                  refine b_iconst (d58 (j := 40) rfl) (by decide) ?_
                  refine b_goto (d58 (j := 41) rfl) ?_
                  exact b_iret (d58 (j := 43) rfl) rfl k
              ·
                rw [if_neg c8] at k
                refine b_iconst (d58 (j := 35) rfl) (by decide) ?_
                exact b_iret (d58 (j := 36) rfl) rfl k
          ·
            rw [if_neg c5] at k
            refine b_iload_n (d58 (j := 24) rfl) rfl ?_
            refine b_bipush (d58 (j := 25) rfl) (by decide) ?_
            refine b_icmp_gt (d58 (j := 26) rfl) (fun c10 => ?_) (fun c10 => ?_)
            ·
              rw [if_pos c10] at k
              refine b_iload_n (d58 (j := 29) rfl) rfl ?_
              refine b_bipush (d58 (j := 30) rfl) (by decide) ?_
              refine b_icmp_lt (d58 (j := 31) rfl) (fun c11 => ?_) (fun c11 => ?_)
              ·
                rw [if_pos c11] at k
                refine b_iload_n (d58 (j := 37) rfl) rfl ?_
                refine b_bipush (d58 (j := 38) rfl) (by decide) ?_
                refine b_icmp_ne (d58 (j := 39) rfl) (fun c12 => ?_) (fun c12 => ?_)
                ·
                  rw [if_neg c12] at k
                  refine b_iconst (d58 (j := 42) rfl) (by decide) ?_
                  exact b_iret (d58 (j := 43) rfl) rfl k
                ·
                  rw [if_pos c12] at k
                  refine b_iconst (d58 (j := 40) rfl) (by decide) ?_
                  refine b_goto (d58 (j := 41) rfl) ?_
                  exact b_iret (d58 (j := 43) rfl) rfl k
              ·
                rw [if_neg c11] at k
                refine b_iload_n (d58 (j := 32) rfl) rfl ?_
                refine b_bipush (d58 (j := 33) rfl) (by decide) ?_
                refine b_icmp_gt (d58 (j := 34) rfl) (fun c13 => ?_) (fun c13 => ?_)
                ·
                  rw [if_pos c13] at k
                  refine b_iload_n (d58 (j := 37) rfl) rfl ?_
                  refine b_bipush (d58 (j := 38) rfl) (by decide) ?_
                  refine b_icmp_ne (d58 (j := 39) rfl) (fun c14 => ?_) (fun c14 => ?_)
                  ·
                    rw [if_neg c14] at k
                    refine b_iconst (d58 (j := 42) rfl) (by decide) ?_
                    exact b_iret (d58 (j := 43) rfl) rfl k
                  ·
                    rw [if_pos c14] at k
                    refine b_iconst (d58 (j := 40) rfl) (by decide) ?_
                    refine b_goto (d58 (j := 41) rfl) ?_
                    exact b_iret (d58 (j := 43) rfl) rfl k
                ·
                  rw [if_neg c13] at k
                  refine b_iconst (d58 (j := 35) rfl) (by decide) ?_
                  exact b_iret (d58 (j := 36) rfl) rfl k
            ·
              rw [if_neg c10] at k
              refine b_iconst (d58 (j := 27) rfl) (by decide) ?_
              exact b_iret (d58 (j := 28) rfl) rfl k
        ·
          rw [if_pos c4] at k
          refine b_iconst (d58 (j := 19) rfl) (by decide) ?_
          exact b_iret (d58 (j := 20) rfl) rfl k
    ·
      rw [if_neg c2] at k
      refine b_iconst (d58 (j := 6) rfl) (by decide) ?_
      exact b_iret (d58 (j := 7) rfl) rfl k
def L333 : List (Nat × Instr × Nat × Nat) := [(0, .iload_n 0, 1, 0), (1, .iload_n 0, 2, 0), (2, .iconst 1, 3, 0), (3, .iushr, 4, 0), (4, .ldc_w 265, 7, 0), (7, .iand, 8, 0), (8, .isub, 9, 0), (9, .istore_n 0, 10, 0), (10, .iload_n 0, 11, 0), (11, .ldc_w 266, 14, 0), (14, .iand, 15, 0), (15, .iload_n 0, 16, 0), (16, .iconst 2, 17, 0), (17, .iushr, 18, 0), (18, .ldc_w 266, 21, 0), (21, .iand, 22, 0), (22, .iadd, 23, 0), (23, .istore_n 0, 24, 0), (24, .iload_n 0, 25, 0), (25, .iload_n 0, 26, 0), (26, .iconst 4, 27, 0), (27, .iushr, 28, 0), (28, .iadd, 29, 0), (29, .ldc_w 267, 32, 0), (32, .iand, 33, 0), (33, .istore_n 0, 34, 0), (34, .iload_n 0, 35, 0), (35, .iload_n 0, 36, 0), (36, .bipush 8, 38, 0), (38, .iushr, 39, 0), (39, .iadd, 40, 0), (40, .istore_n 0, 41, 0), (41, .iload_n 0, 42, 0), (42, .iload_n 0, 43, 0), (43, .bipush 16, 45, 0), (45, .iushr, 46, 0), (46, .iadd, 47, 0), (47, .istore_n 0, 48, 0), (48, .iload_n 0, 49, 0), (49, .bipush 63, 51, 0), (51, .iand, 52, 0), (52, .ireturn, 53, 0)]
set_option maxRecDepth 100000 in
theorem L333_ok : L333.all (dck 333) = true := by decide +kernel
theorem d333 {j pc nx tg : Nat} {ins : Instr} (hj : L333[j]? = some (pc, ins, nx, tg)) : dcd 333 pc ins nx tg := dcl_ok L333_ok hj
def v333 (M : dsMem) (x0 : Int) : Int := (dsAnd (((dsAnd (((dsAnd (x0 - (dsAnd (dsUsh x0 1) 1431655765)) 858993459) + (dsAnd (dsUsh (x0 - (dsAnd (dsUsh x0 1) 1431655765)) 2) 858993459)) + (dsUsh ((dsAnd (x0 - (dsAnd (dsUsh x0 1) 1431655765)) 858993459) + (dsAnd (dsUsh (x0 - (dsAnd (dsUsh x0 1) 1431655765)) 2) 858993459)) 4)) 252645135) + (dsUsh (dsAnd (((dsAnd (x0 - (dsAnd (dsUsh x0 1) 1431655765)) 858993459) + (dsAnd (dsUsh (x0 - (dsAnd (dsUsh x0 1) 1431655765)) 2) 858993459)) + (dsUsh ((dsAnd (x0 - (dsAnd (dsUsh x0 1) 1431655765)) 858993459) + (dsAnd (dsUsh (x0 - (dsAnd (dsUsh x0 1) 1431655765)) 2) 858993459)) 4)) 252645135) 8)) + (dsUsh ((dsAnd (((dsAnd (x0 - (dsAnd (dsUsh x0 1) 1431655765)) 858993459) + (dsAnd (dsUsh (x0 - (dsAnd (dsUsh x0 1) 1431655765)) 2) 858993459)) + (dsUsh ((dsAnd (x0 - (dsAnd (dsUsh x0 1) 1431655765)) 858993459) + (dsAnd (dsUsh (x0 - (dsAnd (dsUsh x0 1) 1431655765)) 2) 858993459)) 4)) 252645135) + (dsUsh (dsAnd (((dsAnd (x0 - (dsAnd (dsUsh x0 1) 1431655765)) 858993459) + (dsAnd (dsUsh (x0 - (dsAnd (dsUsh x0 1) 1431655765)) 2) 858993459)) + (dsUsh ((dsAnd (x0 - (dsAnd (dsUsh x0 1) 1431655765)) 858993459) + (dsAnd (dsUsh (x0 - (dsAnd (dsUsh x0 1) 1431655765)) 2) 858993459)) 4)) 252645135) 8)) 16)) 63)
set_option maxRecDepth 100000 in
set_option maxHeartbeats 4000000 in
theorem fx333 {x0 : Int} {M : dsMem} {Q : bQT} (s1 : -2147483648 ≤ (x0 - (dsAnd (dsUsh x0 1) 1431655765)) ∧ (x0 - (dsAnd (dsUsh x0 1) 1431655765)) < 2147483648 := by intros; omega) (s2 : -2147483648 ≤ ((dsAnd (x0 - (dsAnd (dsUsh x0 1) 1431655765)) 858993459) + (dsAnd (dsUsh (x0 - (dsAnd (dsUsh x0 1) 1431655765)) 2) 858993459)) ∧ ((dsAnd (x0 - (dsAnd (dsUsh x0 1) 1431655765)) 858993459) + (dsAnd (dsUsh (x0 - (dsAnd (dsUsh x0 1) 1431655765)) 2) 858993459)) < 2147483648 := by intros; omega) (s3 : -2147483648 ≤ (((dsAnd (x0 - (dsAnd (dsUsh x0 1) 1431655765)) 858993459) + (dsAnd (dsUsh (x0 - (dsAnd (dsUsh x0 1) 1431655765)) 2) 858993459)) + (dsUsh ((dsAnd (x0 - (dsAnd (dsUsh x0 1) 1431655765)) 858993459) + (dsAnd (dsUsh (x0 - (dsAnd (dsUsh x0 1) 1431655765)) 2) 858993459)) 4)) ∧ (((dsAnd (x0 - (dsAnd (dsUsh x0 1) 1431655765)) 858993459) + (dsAnd (dsUsh (x0 - (dsAnd (dsUsh x0 1) 1431655765)) 2) 858993459)) + (dsUsh ((dsAnd (x0 - (dsAnd (dsUsh x0 1) 1431655765)) 858993459) + (dsAnd (dsUsh (x0 - (dsAnd (dsUsh x0 1) 1431655765)) 2) 858993459)) 4)) < 2147483648 := by intros; omega) (s4 : -2147483648 ≤ ((dsAnd (((dsAnd (x0 - (dsAnd (dsUsh x0 1) 1431655765)) 858993459) + (dsAnd (dsUsh (x0 - (dsAnd (dsUsh x0 1) 1431655765)) 2) 858993459)) + (dsUsh ((dsAnd (x0 - (dsAnd (dsUsh x0 1) 1431655765)) 858993459) + (dsAnd (dsUsh (x0 - (dsAnd (dsUsh x0 1) 1431655765)) 2) 858993459)) 4)) 252645135) + (dsUsh (dsAnd (((dsAnd (x0 - (dsAnd (dsUsh x0 1) 1431655765)) 858993459) + (dsAnd (dsUsh (x0 - (dsAnd (dsUsh x0 1) 1431655765)) 2) 858993459)) + (dsUsh ((dsAnd (x0 - (dsAnd (dsUsh x0 1) 1431655765)) 858993459) + (dsAnd (dsUsh (x0 - (dsAnd (dsUsh x0 1) 1431655765)) 2) 858993459)) 4)) 252645135) 8)) ∧ ((dsAnd (((dsAnd (x0 - (dsAnd (dsUsh x0 1) 1431655765)) 858993459) + (dsAnd (dsUsh (x0 - (dsAnd (dsUsh x0 1) 1431655765)) 2) 858993459)) + (dsUsh ((dsAnd (x0 - (dsAnd (dsUsh x0 1) 1431655765)) 858993459) + (dsAnd (dsUsh (x0 - (dsAnd (dsUsh x0 1) 1431655765)) 2) 858993459)) 4)) 252645135) + (dsUsh (dsAnd (((dsAnd (x0 - (dsAnd (dsUsh x0 1) 1431655765)) 858993459) + (dsAnd (dsUsh (x0 - (dsAnd (dsUsh x0 1) 1431655765)) 2) 858993459)) + (dsUsh ((dsAnd (x0 - (dsAnd (dsUsh x0 1) 1431655765)) 858993459) + (dsAnd (dsUsh (x0 - (dsAnd (dsUsh x0 1) 1431655765)) 2) 858993459)) 4)) 252645135) 8)) < 2147483648 := by intros; omega) (s5 : -2147483648 ≤ (((dsAnd (((dsAnd (x0 - (dsAnd (dsUsh x0 1) 1431655765)) 858993459) + (dsAnd (dsUsh (x0 - (dsAnd (dsUsh x0 1) 1431655765)) 2) 858993459)) + (dsUsh ((dsAnd (x0 - (dsAnd (dsUsh x0 1) 1431655765)) 858993459) + (dsAnd (dsUsh (x0 - (dsAnd (dsUsh x0 1) 1431655765)) 2) 858993459)) 4)) 252645135) + (dsUsh (dsAnd (((dsAnd (x0 - (dsAnd (dsUsh x0 1) 1431655765)) 858993459) + (dsAnd (dsUsh (x0 - (dsAnd (dsUsh x0 1) 1431655765)) 2) 858993459)) + (dsUsh ((dsAnd (x0 - (dsAnd (dsUsh x0 1) 1431655765)) 858993459) + (dsAnd (dsUsh (x0 - (dsAnd (dsUsh x0 1) 1431655765)) 2) 858993459)) 4)) 252645135) 8)) + (dsUsh ((dsAnd (((dsAnd (x0 - (dsAnd (dsUsh x0 1) 1431655765)) 858993459) + (dsAnd (dsUsh (x0 - (dsAnd (dsUsh x0 1) 1431655765)) 2) 858993459)) + (dsUsh ((dsAnd (x0 - (dsAnd (dsUsh x0 1) 1431655765)) 858993459) + (dsAnd (dsUsh (x0 - (dsAnd (dsUsh x0 1) 1431655765)) 2) 858993459)) 4)) 252645135) + (dsUsh (dsAnd (((dsAnd (x0 - (dsAnd (dsUsh x0 1) 1431655765)) 858993459) + (dsAnd (dsUsh (x0 - (dsAnd (dsUsh x0 1) 1431655765)) 2) 858993459)) + (dsUsh ((dsAnd (x0 - (dsAnd (dsUsh x0 1) 1431655765)) 858993459) + (dsAnd (dsUsh (x0 - (dsAnd (dsUsh x0 1) 1431655765)) 2) 858993459)) 4)) 252645135) 8)) 16)) ∧ (((dsAnd (((dsAnd (x0 - (dsAnd (dsUsh x0 1) 1431655765)) 858993459) + (dsAnd (dsUsh (x0 - (dsAnd (dsUsh x0 1) 1431655765)) 2) 858993459)) + (dsUsh ((dsAnd (x0 - (dsAnd (dsUsh x0 1) 1431655765)) 858993459) + (dsAnd (dsUsh (x0 - (dsAnd (dsUsh x0 1) 1431655765)) 2) 858993459)) 4)) 252645135) + (dsUsh (dsAnd (((dsAnd (x0 - (dsAnd (dsUsh x0 1) 1431655765)) 858993459) + (dsAnd (dsUsh (x0 - (dsAnd (dsUsh x0 1) 1431655765)) 2) 858993459)) + (dsUsh ((dsAnd (x0 - (dsAnd (dsUsh x0 1) 1431655765)) 858993459) + (dsAnd (dsUsh (x0 - (dsAnd (dsUsh x0 1) 1431655765)) 2) 858993459)) 4)) 252645135) 8)) + (dsUsh ((dsAnd (((dsAnd (x0 - (dsAnd (dsUsh x0 1) 1431655765)) 858993459) + (dsAnd (dsUsh (x0 - (dsAnd (dsUsh x0 1) 1431655765)) 2) 858993459)) + (dsUsh ((dsAnd (x0 - (dsAnd (dsUsh x0 1) 1431655765)) 858993459) + (dsAnd (dsUsh (x0 - (dsAnd (dsUsh x0 1) 1431655765)) 2) 858993459)) 4)) 252645135) + (dsUsh (dsAnd (((dsAnd (x0 - (dsAnd (dsUsh x0 1) 1431655765)) 858993459) + (dsAnd (dsUsh (x0 - (dsAnd (dsUsh x0 1) 1431655765)) 2) 858993459)) + (dsUsh ((dsAnd (x0 - (dsAnd (dsUsh x0 1) 1431655765)) 858993459) + (dsAnd (dsUsh (x0 - (dsAnd (dsUsh x0 1) 1431655765)) 2) 858993459)) 4)) 252645135) 8)) 16)) < 2147483648 := by intros; omega) (k : Q [uI (v333 M x0)] M) :
    bB 333 0 [uI x0] [] M Q := by
  unfold v333 at k
  refine b_iload_n (d333 (j := 0) rfl) rfl ?_
  refine b_iload_n (d333 (j := 1) rfl) rfl ?_
  refine b_iconst (d333 (j := 2) rfl) (by decide) ?_
  refine b_iushr (d333 (j := 3) rfl) ?_
  refine b_ldcw (d333 (j := 4) rfl) rfl ?_
  refine b_iand (d333 (j := 5) rfl) ?_
  refine b_isub (d333 (j := 6) rfl) rfl rfl ?_
  refine b_stk [uI (x0 - (dsAnd (dsUsh x0 1) 1431655765))] (by rw [dsw_r s1]) ?_
  refine b_istore_n [uI (x0 - (dsAnd (dsUsh x0 1) 1431655765))] (d333 (j := 7) rfl) (by decide) rfl ?_
  refine b_iload_n (d333 (j := 8) rfl) rfl ?_
  refine b_ldcw (d333 (j := 9) rfl) rfl ?_
  refine b_iand (d333 (j := 10) rfl) ?_
  refine b_iload_n (d333 (j := 11) rfl) rfl ?_
  refine b_iconst (d333 (j := 12) rfl) (by decide) ?_
  refine b_iushr (d333 (j := 13) rfl) ?_
  refine b_ldcw (d333 (j := 14) rfl) rfl ?_
  refine b_iand (d333 (j := 15) rfl) ?_
  refine b_iadd (d333 (j := 16) rfl) rfl rfl ?_
  refine b_stk [uI ((dsAnd (x0 - (dsAnd (dsUsh x0 1) 1431655765)) 858993459) + (dsAnd (dsUsh (x0 - (dsAnd (dsUsh x0 1) 1431655765)) 2) 858993459))] (by rw [dsw_r s2]) ?_
  refine b_istore_n [uI ((dsAnd (x0 - (dsAnd (dsUsh x0 1) 1431655765)) 858993459) + (dsAnd (dsUsh (x0 - (dsAnd (dsUsh x0 1) 1431655765)) 2) 858993459))] (d333 (j := 17) rfl) (by decide) rfl ?_
  refine b_iload_n (d333 (j := 18) rfl) rfl ?_
  refine b_iload_n (d333 (j := 19) rfl) rfl ?_
  refine b_iconst (d333 (j := 20) rfl) (by decide) ?_
  refine b_iushr (d333 (j := 21) rfl) ?_
  refine b_iadd (d333 (j := 22) rfl) rfl rfl ?_
  refine b_ldcw (d333 (j := 23) rfl) rfl ?_
  refine b_stk [uI 252645135, uI (((dsAnd (x0 - (dsAnd (dsUsh x0 1) 1431655765)) 858993459) + (dsAnd (dsUsh (x0 - (dsAnd (dsUsh x0 1) 1431655765)) 2) 858993459)) + (dsUsh ((dsAnd (x0 - (dsAnd (dsUsh x0 1) 1431655765)) 858993459) + (dsAnd (dsUsh (x0 - (dsAnd (dsUsh x0 1) 1431655765)) 2) 858993459)) 4))] (by rw [dsw_r s3]) ?_
  refine b_iand (d333 (j := 24) rfl) ?_
  refine b_istore_n [uI (dsAnd (((dsAnd (x0 - (dsAnd (dsUsh x0 1) 1431655765)) 858993459) + (dsAnd (dsUsh (x0 - (dsAnd (dsUsh x0 1) 1431655765)) 2) 858993459)) + (dsUsh ((dsAnd (x0 - (dsAnd (dsUsh x0 1) 1431655765)) 858993459) + (dsAnd (dsUsh (x0 - (dsAnd (dsUsh x0 1) 1431655765)) 2) 858993459)) 4)) 252645135)] (d333 (j := 25) rfl) (by decide) rfl ?_
  refine b_iload_n (d333 (j := 26) rfl) rfl ?_
  refine b_iload_n (d333 (j := 27) rfl) rfl ?_
  refine b_bipush (d333 (j := 28) rfl) (by decide) ?_
  refine b_iushr (d333 (j := 29) rfl) ?_
  refine b_iadd (d333 (j := 30) rfl) rfl rfl ?_
  refine b_stk [uI ((dsAnd (((dsAnd (x0 - (dsAnd (dsUsh x0 1) 1431655765)) 858993459) + (dsAnd (dsUsh (x0 - (dsAnd (dsUsh x0 1) 1431655765)) 2) 858993459)) + (dsUsh ((dsAnd (x0 - (dsAnd (dsUsh x0 1) 1431655765)) 858993459) + (dsAnd (dsUsh (x0 - (dsAnd (dsUsh x0 1) 1431655765)) 2) 858993459)) 4)) 252645135) + (dsUsh (dsAnd (((dsAnd (x0 - (dsAnd (dsUsh x0 1) 1431655765)) 858993459) + (dsAnd (dsUsh (x0 - (dsAnd (dsUsh x0 1) 1431655765)) 2) 858993459)) + (dsUsh ((dsAnd (x0 - (dsAnd (dsUsh x0 1) 1431655765)) 858993459) + (dsAnd (dsUsh (x0 - (dsAnd (dsUsh x0 1) 1431655765)) 2) 858993459)) 4)) 252645135) 8))] (by rw [dsw_r s4]) ?_
  refine b_istore_n [uI ((dsAnd (((dsAnd (x0 - (dsAnd (dsUsh x0 1) 1431655765)) 858993459) + (dsAnd (dsUsh (x0 - (dsAnd (dsUsh x0 1) 1431655765)) 2) 858993459)) + (dsUsh ((dsAnd (x0 - (dsAnd (dsUsh x0 1) 1431655765)) 858993459) + (dsAnd (dsUsh (x0 - (dsAnd (dsUsh x0 1) 1431655765)) 2) 858993459)) 4)) 252645135) + (dsUsh (dsAnd (((dsAnd (x0 - (dsAnd (dsUsh x0 1) 1431655765)) 858993459) + (dsAnd (dsUsh (x0 - (dsAnd (dsUsh x0 1) 1431655765)) 2) 858993459)) + (dsUsh ((dsAnd (x0 - (dsAnd (dsUsh x0 1) 1431655765)) 858993459) + (dsAnd (dsUsh (x0 - (dsAnd (dsUsh x0 1) 1431655765)) 2) 858993459)) 4)) 252645135) 8))] (d333 (j := 31) rfl) (by decide) rfl ?_
  refine b_iload_n (d333 (j := 32) rfl) rfl ?_
  refine b_iload_n (d333 (j := 33) rfl) rfl ?_
  refine b_bipush (d333 (j := 34) rfl) (by decide) ?_
  refine b_iushr (d333 (j := 35) rfl) ?_
  refine b_iadd (d333 (j := 36) rfl) rfl rfl ?_
  refine b_stk [uI (((dsAnd (((dsAnd (x0 - (dsAnd (dsUsh x0 1) 1431655765)) 858993459) + (dsAnd (dsUsh (x0 - (dsAnd (dsUsh x0 1) 1431655765)) 2) 858993459)) + (dsUsh ((dsAnd (x0 - (dsAnd (dsUsh x0 1) 1431655765)) 858993459) + (dsAnd (dsUsh (x0 - (dsAnd (dsUsh x0 1) 1431655765)) 2) 858993459)) 4)) 252645135) + (dsUsh (dsAnd (((dsAnd (x0 - (dsAnd (dsUsh x0 1) 1431655765)) 858993459) + (dsAnd (dsUsh (x0 - (dsAnd (dsUsh x0 1) 1431655765)) 2) 858993459)) + (dsUsh ((dsAnd (x0 - (dsAnd (dsUsh x0 1) 1431655765)) 858993459) + (dsAnd (dsUsh (x0 - (dsAnd (dsUsh x0 1) 1431655765)) 2) 858993459)) 4)) 252645135) 8)) + (dsUsh ((dsAnd (((dsAnd (x0 - (dsAnd (dsUsh x0 1) 1431655765)) 858993459) + (dsAnd (dsUsh (x0 - (dsAnd (dsUsh x0 1) 1431655765)) 2) 858993459)) + (dsUsh ((dsAnd (x0 - (dsAnd (dsUsh x0 1) 1431655765)) 858993459) + (dsAnd (dsUsh (x0 - (dsAnd (dsUsh x0 1) 1431655765)) 2) 858993459)) 4)) 252645135) + (dsUsh (dsAnd (((dsAnd (x0 - (dsAnd (dsUsh x0 1) 1431655765)) 858993459) + (dsAnd (dsUsh (x0 - (dsAnd (dsUsh x0 1) 1431655765)) 2) 858993459)) + (dsUsh ((dsAnd (x0 - (dsAnd (dsUsh x0 1) 1431655765)) 858993459) + (dsAnd (dsUsh (x0 - (dsAnd (dsUsh x0 1) 1431655765)) 2) 858993459)) 4)) 252645135) 8)) 16))] (by rw [dsw_r s5]) ?_
  refine b_istore_n [uI (((dsAnd (((dsAnd (x0 - (dsAnd (dsUsh x0 1) 1431655765)) 858993459) + (dsAnd (dsUsh (x0 - (dsAnd (dsUsh x0 1) 1431655765)) 2) 858993459)) + (dsUsh ((dsAnd (x0 - (dsAnd (dsUsh x0 1) 1431655765)) 858993459) + (dsAnd (dsUsh (x0 - (dsAnd (dsUsh x0 1) 1431655765)) 2) 858993459)) 4)) 252645135) + (dsUsh (dsAnd (((dsAnd (x0 - (dsAnd (dsUsh x0 1) 1431655765)) 858993459) + (dsAnd (dsUsh (x0 - (dsAnd (dsUsh x0 1) 1431655765)) 2) 858993459)) + (dsUsh ((dsAnd (x0 - (dsAnd (dsUsh x0 1) 1431655765)) 858993459) + (dsAnd (dsUsh (x0 - (dsAnd (dsUsh x0 1) 1431655765)) 2) 858993459)) 4)) 252645135) 8)) + (dsUsh ((dsAnd (((dsAnd (x0 - (dsAnd (dsUsh x0 1) 1431655765)) 858993459) + (dsAnd (dsUsh (x0 - (dsAnd (dsUsh x0 1) 1431655765)) 2) 858993459)) + (dsUsh ((dsAnd (x0 - (dsAnd (dsUsh x0 1) 1431655765)) 858993459) + (dsAnd (dsUsh (x0 - (dsAnd (dsUsh x0 1) 1431655765)) 2) 858993459)) 4)) 252645135) + (dsUsh (dsAnd (((dsAnd (x0 - (dsAnd (dsUsh x0 1) 1431655765)) 858993459) + (dsAnd (dsUsh (x0 - (dsAnd (dsUsh x0 1) 1431655765)) 2) 858993459)) + (dsUsh ((dsAnd (x0 - (dsAnd (dsUsh x0 1) 1431655765)) 858993459) + (dsAnd (dsUsh (x0 - (dsAnd (dsUsh x0 1) 1431655765)) 2) 858993459)) 4)) 252645135) 8)) 16))] (d333 (j := 37) rfl) (by decide) rfl ?_
  refine b_iload_n (d333 (j := 38) rfl) rfl ?_
  refine b_bipush (d333 (j := 39) rfl) (by decide) ?_
  refine b_iand (d333 (j := 40) rfl) ?_
  exact b_iret (d333 (j := 41) rfl) rfl k
def L173 : List (Nat × Instr × Nat × Nat) := [(0, .lconst 1, 1, 0), (1, .lstore_n 3, 2, 0), (2, .iconst 0, 3, 0), (3, .istore 5, 5, 0), (5, .iload 5, 7, 0), (7, .bipush 8, 9, 0), (9, .if_icmp .ge 52, 12, 61), (12, .iload_n 2, 13, 0), (13, .iload 5, 15, 0), (15, .invokestatic 219, 18, 0), (18, .ifCond .eq 37, 21, 55), (21, .lload_n 3, 22, 0), (22, .iload_n 1, 23, 0), (23, .iload 5, 25, 0), (25, .invokestatic 219, 28, 0), (28, .ifCond .eq 14, 31, 42), (31, .aload_n 0, 32, 0), (32, .getfield 23, 35, 0), (35, .getfield 365, 38, 0), (38, .i2l, 39, 0), (39, .goto 14, 42, 53), (42, .bipush 10, 44, 0), (44, .aload_n 0, 45, 0), (45, .getfield 23, 48, 0), (48, .getfield 365, 51, 0), (51, .isub, 52, 0), (52, .i2l, 53, 0), (53, .lmul, 54, 0), (54, .lstore_n 3, 55, 0), (55, .iinc 5 1, 58, 0), (58, .goto (-53), 61, 5), (61, .lload_n 3, 62, 0), (62, .lreturn, 63, 0)]
set_option maxRecDepth 100000 in
theorem L173_ok : L173.all (dck 173) = true := by decide +kernel
theorem d173 {j pc nx tg : Nat} {ins : Instr} (hj : L173[j]? = some (pc, ins, nx, tg)) : dcd 173 pc ins nx tg := dcl_ok L173_ok hj
def v173 (M : dsMem) (x1 x2 : Int) : Int := (dsIter (fun (i173_1 : Int) (a173_1 : Int) => (if (dsAnd (dsShr x2 i173_1) 1 = 1) then (if (dsAnd (dsShr x1 i173_1) 1 = 1) then (dsw64 ((a173_1 * (M 24 3)))) else (dsw64 ((a173_1 * (10 - (M 24 3)))))) else a173_1)) 0 8 1)
set_option maxRecDepth 100000 in
set_option maxHeartbeats 4000000 in
theorem fx173 {x1 x2 : Int} {M : dsMem} {Q : bQT} (s1 : ∀ i173_1 : Int, ∀ a173_1 : Int, 0 ≤ i173_1 → i173_1 < 8 → -2147483648 ≤ i173_1 + 1 ∧ i173_1 + 1 < 2147483648 := by intros; omega) (s2 : ∀ i173_1 : Int, ∀ a173_1 : Int, 0 ≤ i173_1 → i173_1 < 8 → ((dsAnd (dsShr x2 i173_1) 1 = 1)) → (¬ (dsAnd (dsShr x1 i173_1) 1 = 1)) → -2147483648 ≤ (10 - (M 24 3)) ∧ (10 - (M 24 3)) < 2147483648 := by intros; omega) (k : Q [uJ (v173 M x1 x2)] M) :
    bB 173 0 [uR 10 0, uI x1, uI x2, uX 0, uX 0, uX 0] [] M Q := by
  unfold v173 at k
  refine b_lconst (d173 (j := 0) rfl) ?_
  refine b_stk [uJ 1] rfl ?_
  refine b_lstore_n [uR 10 0, uI x1, uI x2, uJ 1, uX 0, uX 0] (d173 (j := 1) rfl) (by decide) rfl ?_
  refine b_iconst (d173 (j := 2) rfl) (by decide) ?_
  refine b_istore [uR 10 0, uI x1, uI x2, uJ 1, uX 0, uI 0] (d173 (j := 3) rfl) (by decide) rfl ?_
  refine b_for (fun (i173_1 : Int) (a173_1 : Int) => [uR 10 0, uI x1, uI x2, uJ a173_1, uX 0, uI i173_1]) (fun (i173_1 : Int) (a173_1 : Int) => (if (dsAnd (dsShr x2 i173_1) 1 = 1) then (if (dsAnd (dsShr x1 i173_1) 1 = 1) then (dsw64 ((a173_1 * (M 24 3)))) else (dsw64 ((a173_1 * (10 - (M 24 3)))))) else a173_1)) 0 8 1 (fun i173_1 a173_1 h173_1l h173_1r hk173_1 => ?_) (fun i173_1 h173_1l h173_1r => ?_)
  ·
    refine b_iload (d173 (j := 4) rfl) rfl ?_
    refine b_bipush (d173 (j := 5) rfl) (by decide) ?_
    refine b_icmp_ge (d173 (j := 6) rfl) (fun c1 => ?_) (fun c1 => ?_)
    · exfalso; omega
    ·
      refine b_iload_n (d173 (j := 7) rfl) rfl ?_
      refine b_iload (d173 (j := 8) rfl) rfl ?_
      refine b_callS (d173 (j := 9) rfl) (Or.inl rfl) rfl (bCk_mk (n := 0) (k := 2) (by decide +kernel) rfl rfl) (pu145 ?_)
      refine b_stk [uI (if (dsAnd (dsShr x2 i173_1) 1 = 1) then 1 else 0)] rfl ?_
      refine b_ifeqP (d173 (j := 10) rfl) (fun c2 => ?_) (fun c2 => ?_)
      ·
        rw [if_neg c2] at hk173_1
        refine b_iinc [uR 10 0, uI x1, uI x2, uJ a173_1, uX 0, uI (i173_1 + 1)] (d173 (j := 29) rfl) rfl (by decide) (s1 i173_1 a173_1 h173_1l h173_1r) rfl ?_
        refine b_goto (d173 (j := 30) rfl) ?_
        exact hk173_1
      ·
        rw [if_pos c2] at hk173_1
        refine b_lload_n (d173 (j := 11) rfl) rfl ?_
        refine b_iload_n (d173 (j := 12) rfl) rfl ?_
        refine b_iload (d173 (j := 13) rfl) rfl ?_
        refine b_callS (d173 (j := 14) rfl) (Or.inl rfl) rfl (bCk_mk (n := 2) (k := 2) (by decide +kernel) rfl rfl) (pu145 ?_)
        refine b_stk [uI (if (dsAnd (dsShr x1 i173_1) 1 = 1) then 1 else 0), uJ a173_1] rfl ?_
        refine b_ifeqP (d173 (j := 15) rfl) (fun c3 => ?_) (fun c3 => ?_)
        ·
          rw [if_neg c3] at hk173_1
          refine b_bipush (d173 (j := 21) rfl) (by decide) ?_
          refine b_aload_n (d173 (j := 22) rfl) rfl ?_
          refine b_getR (d173 (j := 23) rfl) rfl rfl rfl rfl ?_
          refine b_stk [uR 4 24, uI 10, uJ a173_1] rfl ?_
          refine b_getI (d173 (j := 24) rfl) rfl rfl rfl rfl (Or.inl rfl) ?_
          refine b_stk [uI (M 24 3), uI 10, uJ a173_1] rfl ?_
          refine b_isub (d173 (j := 25) rfl) rfl rfl ?_
          refine b_stk [uI (10 - (M 24 3)), uJ a173_1] (by rw [dsw_r (s2 i173_1 a173_1 h173_1l h173_1r c2 c3)]) ?_
          refine b_i2l (d173 (j := 26) rfl) ?_
          refine b_lmul (d173 (j := 27) rfl) rfl rfl ?_
          refine b_lstore_n [uR 10 0, uI x1, uI x2, uJ (dsw64 ((a173_1 * (10 - (M 24 3))))), uX 0, uI i173_1] (d173 (j := 28) rfl) (by decide) rfl ?_
          refine b_iinc [uR 10 0, uI x1, uI x2, uJ (dsw64 ((a173_1 * (10 - (M 24 3))))), uX 0, uI (i173_1 + 1)] (d173 (j := 29) rfl) rfl (by decide) (s1 i173_1 a173_1 h173_1l h173_1r) rfl ?_
          refine b_goto (d173 (j := 30) rfl) ?_
          exact hk173_1
        ·
          rw [if_pos c3] at hk173_1
          refine b_aload_n (d173 (j := 16) rfl) rfl ?_
          refine b_getR (d173 (j := 17) rfl) rfl rfl rfl rfl ?_
          refine b_stk [uR 4 24, uJ a173_1] rfl ?_
          refine b_getI (d173 (j := 18) rfl) rfl rfl rfl rfl (Or.inl rfl) ?_
          refine b_stk [uI (M 24 3), uJ a173_1] rfl ?_
          refine b_i2l (d173 (j := 19) rfl) ?_
          refine b_goto (d173 (j := 20) rfl) ?_
          refine b_lmul (d173 (j := 27) rfl) rfl rfl ?_
          refine b_lstore_n [uR 10 0, uI x1, uI x2, uJ (dsw64 ((a173_1 * (M 24 3)))), uX 0, uI i173_1] (d173 (j := 28) rfl) (by decide) rfl ?_
          refine b_iinc [uR 10 0, uI x1, uI x2, uJ (dsw64 ((a173_1 * (M 24 3)))), uX 0, uI (i173_1 + 1)] (d173 (j := 29) rfl) rfl (by decide) (s1 i173_1 a173_1 h173_1l h173_1r) rfl ?_
          refine b_goto (d173 (j := 30) rfl) ?_
          exact hk173_1
  ·
    refine b_iload (d173 (j := 4) rfl) rfl ?_
    refine b_bipush (d173 (j := 5) rfl) (by decide) ?_
    refine b_icmp_ge (d173 (j := 6) rfl) (fun c4 => ?_) (fun c4 => ?_)
    rotate_left
    · exfalso; omega
    ·
      refine b_lload_n (d173 (j := 31) rfl) rfl ?_
      exact b_lret (d173 (j := 32) rfl) rfl k
def L178 : List (Nat × Instr × Nat × Nat) := [(0, .iconst 0, 1, 0), (1, .istore_n 1, 2, 0), (2, .iconst 0, 3, 0), (3, .istore_n 2, 4, 0), (4, .iload_n 2, 5, 0), (5, .bipush 16, 7, 0), (7, .if_icmp .ge 17, 10, 24), (10, .iload_n 1, 11, 0), (11, .iload_n 0, 12, 0), (12, .iload_n 2, 13, 0), (13, .ishr, 14, 0), (14, .iconst 1, 15, 0), (15, .iand, 16, 0), (16, .iadd, 17, 0), (17, .istore_n 1, 18, 0), (18, .iinc 2 1, 21, 0), (21, .goto (-17), 24, 4), (24, .iload_n 1, 25, 0), (25, .ireturn, 26, 0)]
set_option maxRecDepth 100000 in
theorem L178_ok : L178.all (dck 178) = true := by decide +kernel
theorem d178 {j pc nx tg : Nat} {ins : Instr} (hj : L178[j]? = some (pc, ins, nx, tg)) : dcd 178 pc ins nx tg := dcl_ok L178_ok hj
def v178 (M : dsMem) (x0 : Int) : Int := (dsIter (fun (i178_1 : Int) (a178_1 : Int) => (dsw ((a178_1 + (dsAnd (dsShr x0 i178_1) 1))))) 0 16 0)
set_option maxRecDepth 100000 in
set_option maxHeartbeats 4000000 in
theorem fx178 {x0 : Int} {M : dsMem} {Q : bQT} (s1 : ∀ i178_1 : Int, ∀ a178_1 : Int, 0 ≤ i178_1 → i178_1 < 16 → -2147483648 ≤ i178_1 + 1 ∧ i178_1 + 1 < 2147483648 := by intros; omega) (k : Q [uI (v178 M x0)] M) :
    bB 178 0 [uI x0, uX 0, uX 0] [] M Q := by
  unfold v178 at k
  refine b_iconst (d178 (j := 0) rfl) (by decide) ?_
  refine b_istore_n [uI x0, uI 0, uX 0] (d178 (j := 1) rfl) (by decide) rfl ?_
  refine b_iconst (d178 (j := 2) rfl) (by decide) ?_
  refine b_istore_n [uI x0, uI 0, uI 0] (d178 (j := 3) rfl) (by decide) rfl ?_
  refine b_for (fun (i178_1 : Int) (a178_1 : Int) => [uI x0, uI a178_1, uI i178_1]) (fun (i178_1 : Int) (a178_1 : Int) => (dsw ((a178_1 + (dsAnd (dsShr x0 i178_1) 1))))) 0 16 0 (fun i178_1 a178_1 h178_1l h178_1r hk178_1 => ?_) (fun i178_1 h178_1l h178_1r => ?_)
  ·
    refine b_iload_n (d178 (j := 4) rfl) rfl ?_
    refine b_bipush (d178 (j := 5) rfl) (by decide) ?_
    refine b_icmp_ge (d178 (j := 6) rfl) (fun c1 => ?_) (fun c1 => ?_)
    · exfalso; omega
    ·
      refine b_iload_n (d178 (j := 7) rfl) rfl ?_
      refine b_iload_n (d178 (j := 8) rfl) rfl ?_
      refine b_iload_n (d178 (j := 9) rfl) rfl ?_
      refine b_ishr (d178 (j := 10) rfl) ?_
      refine b_iconst (d178 (j := 11) rfl) (by decide) ?_
      refine b_iand (d178 (j := 12) rfl) ?_
      refine b_iadd (d178 (j := 13) rfl) rfl rfl ?_
      refine b_istore_n [uI x0, uI (dsw ((a178_1 + (dsAnd (dsShr x0 i178_1) 1)))), uI i178_1] (d178 (j := 14) rfl) (by decide) rfl ?_
      refine b_iinc [uI x0, uI (dsw ((a178_1 + (dsAnd (dsShr x0 i178_1) 1)))), uI (i178_1 + 1)] (d178 (j := 15) rfl) rfl (by decide) (s1 i178_1 a178_1 h178_1l h178_1r) rfl ?_
      refine b_goto (d178 (j := 16) rfl) ?_
      exact hk178_1
  ·
    refine b_iload_n (d178 (j := 4) rfl) rfl ?_
    refine b_bipush (d178 (j := 5) rfl) (by decide) ?_
    refine b_icmp_ge (d178 (j := 6) rfl) (fun c2 => ?_) (fun c2 => ?_)
    rotate_left
    · exfalso; omega
    ·
      refine b_iload_n (d178 (j := 17) rfl) rfl ?_
      exact b_iret (d178 (j := 18) rfl) rfl k
def L218 : List (Nat × Instr × Nat × Nat) := [(0, .iconst 0, 1, 0), (1, .istore_n 2, 2, 0), (2, .iconst 0, 3, 0), (3, .istore_n 3, 4, 0), (4, .iload_n 3, 5, 0), (5, .aload_n 0, 6, 0), (6, .invokevirtual 116, 9, 0), (9, .if_icmp .ge 28, 12, 37), (12, .iload_n 2, 13, 0), (13, .aload_n 0, 14, 0), (14, .iload_n 3, 15, 0), (15, .invokevirtual 271, 18, 0), (18, .iload_n 1, 19, 0), (19, .if_icmp .ne 9, 22, 28), (22, .iconst 1, 23, 0), (23, .iload_n 3, 24, 0), (24, .ishl, 25, 0), (25, .goto 4, 28, 29), (28, .iconst 0, 29, 0), (29, .ior, 30, 0), (30, .istore_n 2, 31, 0), (31, .iinc 3 1, 34, 0), (34, .goto (-30), 37, 4), (37, .iload_n 2, 38, 0), (38, .ireturn, 39, 0)]
set_option maxRecDepth 100000 in
theorem L218_ok : L218.all (dck 218) = true := by decide +kernel
theorem d218 {j pc nx tg : Nat} {ins : Instr} (hj : L218[j]? = some (pc, ins, nx, tg)) : dcd 218 pc ins nx tg := dcl_ok L218_ok hj
def v218 (M : dsMem) (x1 : Int) : Int := (dsIter (fun (i218_1 : Int) (a218_1 : Int) => (if (M 85 ((15 + (3 * i218_1)) + 2)) = x1 then (dsOr a218_1 (dsShl 1 i218_1)) else (dsOr a218_1 0))) 0 (M 85 4) 0)
set_option maxRecDepth 100000 in
set_option maxHeartbeats 4000000 in
theorem fx218 {x1 : Int} {M : dsMem} {Q : bQT} (s1 : ∀ i218_1 : Int, ∀ a218_1 : Int, 0 ≤ i218_1 → i218_1 < (M 85 4) → 0 ≤ ((15 + (3 * i218_1)) + 2) ∧ ((15 + (3 * i218_1)) + 2) < 105 := by intros; omega) (s2 : ∀ i218_1 : Int, ∀ a218_1 : Int, 0 ≤ i218_1 → i218_1 < (M 85 4) → -2147483648 ≤ i218_1 + 1 ∧ i218_1 + 1 < 2147483648 := by intros; omega) (k : Q [uI (v218 M x1)] M) :
    bB 218 0 [uR 11 84, uI x1, uX 0, uX 0] [] M Q := by
  unfold v218 at k
  refine b_iconst (d218 (j := 0) rfl) (by decide) ?_
  refine b_istore_n [uR 11 84, uI x1, uI 0, uX 0] (d218 (j := 1) rfl) (by decide) rfl ?_
  refine b_iconst (d218 (j := 2) rfl) (by decide) ?_
  refine b_istore_n [uR 11 84, uI x1, uI 0, uI 0] (d218 (j := 3) rfl) (by decide) rfl ?_
  refine b_for (fun (i218_1 : Int) (a218_1 : Int) => [uR 11 84, uI x1, uI a218_1, uI i218_1]) (fun (i218_1 : Int) (a218_1 : Int) => (if (M 85 ((15 + (3 * i218_1)) + 2)) = x1 then (dsOr a218_1 (dsShl 1 i218_1)) else (dsOr a218_1 0))) 0 (M 85 4) 0 (fun i218_1 a218_1 h218_1l h218_1r hk218_1 => ?_) (fun i218_1 h218_1l h218_1r => ?_)
  ·
    refine b_iload_n (d218 (j := 4) rfl) rfl ?_
    refine b_aload_n (d218 (j := 5) rfl) rfl ?_
    refine b_callV (d218 (j := 6) rfl) rfl rfl (Or.inl rfl) rfl (bCk_mk (n := 1) (k := 1) (by decide +kernel) rfl rfl) (pu185  ?_)
    refine b_stk [uI (M 85 4), uI i218_1] rfl ?_
    refine b_icmp_ge (d218 (j := 7) rfl) (fun c1 => ?_) (fun c1 => ?_)
    · exfalso; omega
    ·
      refine b_iload_n (d218 (j := 8) rfl) rfl ?_
      refine b_aload_n (d218 (j := 9) rfl) rfl ?_
      refine b_iload_n (d218 (j := 10) rfl) rfl ?_
      refine b_callV (d218 (j := 11) rfl) rfl rfl (Or.inl rfl) rfl (bCk_mk (n := 1) (k := 2) (by decide +kernel) rfl rfl) (pu193 (s1 i218_1 a218_1 h218_1l h218_1r) ?_)
      refine b_stk [uI (M 85 ((15 + (3 * i218_1)) + 2)), uI a218_1] rfl ?_
      refine b_iload_n (d218 (j := 12) rfl) rfl ?_
      refine b_icmp_ne (d218 (j := 13) rfl) (fun c2 => ?_) (fun c2 => ?_)
      ·
        rw [if_neg c2] at hk218_1
        refine b_iconst (d218 (j := 18) rfl) (by decide) ?_
        refine b_ior (d218 (j := 19) rfl) ?_
        refine b_istore_n [uR 11 84, uI x1, uI (dsOr a218_1 0), uI i218_1] (d218 (j := 20) rfl) (by decide) rfl ?_
        refine b_iinc [uR 11 84, uI x1, uI (dsOr a218_1 0), uI (i218_1 + 1)] (d218 (j := 21) rfl) rfl (by decide) (s2 i218_1 a218_1 h218_1l h218_1r) rfl ?_
        refine b_goto (d218 (j := 22) rfl) ?_
        exact hk218_1
      ·
        rw [if_pos c2] at hk218_1
        refine b_iconst (d218 (j := 14) rfl) (by decide) ?_
        refine b_iload_n (d218 (j := 15) rfl) rfl ?_
        refine b_ishl (d218 (j := 16) rfl) ?_
        refine b_goto (d218 (j := 17) rfl) ?_
        refine b_ior (d218 (j := 19) rfl) ?_
        refine b_istore_n [uR 11 84, uI x1, uI (dsOr a218_1 (dsShl 1 i218_1)), uI i218_1] (d218 (j := 20) rfl) (by decide) rfl ?_
        refine b_iinc [uR 11 84, uI x1, uI (dsOr a218_1 (dsShl 1 i218_1)), uI (i218_1 + 1)] (d218 (j := 21) rfl) rfl (by decide) (s2 i218_1 a218_1 h218_1l h218_1r) rfl ?_
        refine b_goto (d218 (j := 22) rfl) ?_
        exact hk218_1
  ·
    refine b_iload_n (d218 (j := 4) rfl) rfl ?_
    refine b_aload_n (d218 (j := 5) rfl) rfl ?_
    refine b_callV (d218 (j := 6) rfl) rfl rfl (Or.inl rfl) rfl (bCk_mk (n := 1) (k := 1) (by decide +kernel) rfl rfl) (pu185  ?_)
    refine b_stk [uI (M 85 4), uI i218_1] rfl ?_
    refine b_icmp_ge (d218 (j := 7) rfl) (fun c3 => ?_) (fun c3 => ?_)
    rotate_left
    · exfalso; omega
    ·
      refine b_iload_n (d218 (j := 23) rfl) rfl ?_
      exact b_iret (d218 (j := 24) rfl) rfl k
def L224 : List (Nat × Instr × Nat × Nat) := [(0, .iload_n 1, 1, 0), (1, .iconst 1, 2, 0), (2, .iadd, 3, 0), (3, .istore_n 2, 4, 0), (4, .iload_n 2, 5, 0), (5, .aload_n 0, 6, 0), (6, .invokevirtual 116, 9, 0), (9, .if_icmp .ge 32, 12, 41), (12, .aload_n 0, 13, 0), (13, .getfield 277, 16, 0), (16, .iconst 2, 17, 0), (17, .if_icmp .eq 16, 20, 33), (20, .aload_n 0, 21, 0), (21, .iload_n 2, 22, 0), (22, .invokevirtual 271, 25, 0), (25, .aload_n 0, 26, 0), (26, .iload_n 1, 27, 0), (27, .invokevirtual 271, 30, 0), (30, .if_icmp .ne 5, 33, 35), (33, .iload_n 2, 34, 0), (34, .ireturn, 35, 0), (35, .iinc 2 1, 38, 0), (38, .goto (-34), 41, 4), (41, .iconst (-1), 42, 0), (42, .ireturn, 43, 0)]
set_option maxRecDepth 100000 in
theorem L224_ok : L224.all (dck 224) = true := by decide +kernel
theorem d224 {j pc nx tg : Nat} {ins : Instr} (hj : L224[j]? = some (pc, ins, nx, tg)) : dcd 224 pc ins nx tg := dcl_ok L224_ok hj
def v224 (M : dsMem) (x1 : Int) : Int := (if (dsFind (fun (i224_1 : Int) => ((M 84 17) = 2) ∨ (¬ ((M 84 17) = 2) ∧ (M 85 ((15 + (3 * i224_1)) + 2)) = (M 85 ((15 + (3 * x1)) + 2)))) (x1 + 1) (M 85 4)) < (M 85 4) then (dsFind (fun (i224_1 : Int) => ((M 84 17) = 2) ∨ (¬ ((M 84 17) = 2) ∧ (M 85 ((15 + (3 * i224_1)) + 2)) = (M 85 ((15 + (3 * x1)) + 2)))) (x1 + 1) (M 85 4)) else -1)
set_option maxRecDepth 100000 in
set_option maxHeartbeats 4000000 in
theorem fx224 {x1 : Int} {M : dsMem} {Q : bQT} (s1 : -2147483648 ≤ (x1 + 1) ∧ (x1 + 1) < 2147483648 := by intros; omega) (s2 : ∀ i224_1 : Int, (x1 + 1) ≤ i224_1 → i224_1 < (M 85 4) → (¬ (M 84 17) = 2) → 0 ≤ ((15 + (3 * i224_1)) + 2) ∧ ((15 + (3 * i224_1)) + 2) < 105 := by intros; omega) (s3 : ∀ i224_1 : Int, (x1 + 1) ≤ i224_1 → i224_1 < (M 85 4) → (¬ (M 84 17) = 2) → 0 ≤ ((15 + (3 * x1)) + 2) ∧ ((15 + (3 * x1)) + 2) < 105 := by intros; omega) (s4 : ∀ i224_1 : Int, (x1 + 1) ≤ i224_1 → i224_1 < (M 85 4) → -2147483648 ≤ i224_1 + 1 ∧ i224_1 + 1 < 2147483648 := by intros; omega) (k : Q [uI (v224 M x1)] M) :
    bB 224 0 [uR 11 84, uI x1, uX 0] [] M Q := by
  unfold v224 at k
  refine b_iload_n (d224 (j := 0) rfl) rfl ?_
  refine b_iconst (d224 (j := 1) rfl) (by decide) ?_
  refine b_iadd (d224 (j := 2) rfl) rfl rfl ?_
  refine b_stk [uI (x1 + 1)] (by rw [dsw_r s1]) ?_
  refine b_istore_n [uR 11 84, uI x1, uI (x1 + 1)] (d224 (j := 3) rfl) (by decide) rfl ?_
  refine b_find (fun (i224_1 : Int) => [uR 11 84, uI x1, uI i224_1]) (fun (i224_1 : Int) => ((M 84 17) = 2) ∨ (¬ ((M 84 17) = 2) ∧ (M 85 ((15 + (3 * i224_1)) + 2)) = (M 85 ((15 + (3 * x1)) + 2)))) (x1 + 1) (M 85 4) (fun i224_1 h224_1l h224_1r hn hk224_1 => ?_) (fun i224_1 h224_1l h224_1r hp he => ?_) (fun i224_1 h224_1l h224_1r he => ?_)
  ·
    refine b_iload_n (d224 (j := 4) rfl) rfl ?_
    refine b_aload_n (d224 (j := 5) rfl) rfl ?_
    refine b_callV (d224 (j := 6) rfl) rfl rfl (Or.inl rfl) rfl (bCk_mk (n := 1) (k := 1) (by decide +kernel) rfl rfl) (pu185  ?_)
    refine b_stk [uI (M 85 4), uI i224_1] rfl ?_
    refine b_icmp_ge (d224 (j := 7) rfl) (fun c1 => ?_) (fun c1 => ?_)
    · exfalso; omega
    ·
      refine b_aload_n (d224 (j := 8) rfl) rfl ?_
      refine b_getI (d224 (j := 9) rfl) rfl rfl rfl rfl (Or.inl rfl) ?_
      refine b_stk [uI (M 84 17)] rfl ?_
      refine b_iconst (d224 (j := 10) rfl) (by decide) ?_
      refine b_icmp_eq (d224 (j := 11) rfl) (fun c2 => ?_) (fun c2 => ?_)
      ·
        refine b_iload_n (d224 (j := 19) rfl) rfl ?_
        exfalso; omega
      ·
        refine b_aload_n (d224 (j := 12) rfl) rfl ?_
        refine b_iload_n (d224 (j := 13) rfl) rfl ?_
        refine b_callV (d224 (j := 14) rfl) rfl rfl (Or.inl rfl) rfl (bCk_mk (n := 0) (k := 2) (by decide +kernel) rfl rfl) (pu193 (s2 i224_1 h224_1l h224_1r c2) ?_)
        refine b_stk [uI (M 85 ((15 + (3 * i224_1)) + 2))] rfl ?_
        refine b_aload_n (d224 (j := 15) rfl) rfl ?_
        refine b_iload_n (d224 (j := 16) rfl) rfl ?_
        refine b_callV (d224 (j := 17) rfl) rfl rfl (Or.inl rfl) rfl (bCk_mk (n := 1) (k := 2) (by decide +kernel) rfl rfl) (pu193 (s3 i224_1 h224_1l h224_1r c2) ?_)
        refine b_stk [uI (M 85 ((15 + (3 * x1)) + 2)), uI (M 85 ((15 + (3 * i224_1)) + 2))] rfl ?_
        refine b_icmp_ne (d224 (j := 18) rfl) (fun c3 => ?_) (fun c3 => ?_)
        ·
          refine b_iinc [uR 11 84, uI x1, uI (i224_1 + 1)] (d224 (j := 21) rfl) rfl (by decide) (s4 i224_1 h224_1l h224_1r) rfl ?_
          refine b_goto (d224 (j := 22) rfl) ?_
          exact hk224_1
        ·
          refine b_iload_n (d224 (j := 19) rfl) rfl ?_
          exfalso; omega
  ·
    subst he
    rw [if_pos h224_1r] at k
    refine b_iload_n (d224 (j := 4) rfl) rfl ?_
    refine b_aload_n (d224 (j := 5) rfl) rfl ?_
    refine b_callV (d224 (j := 6) rfl) rfl rfl (Or.inl rfl) rfl (bCk_mk (n := 1) (k := 1) (by decide +kernel) rfl rfl) (pu185  ?_)
    refine b_stk [uI (M 85 4), uI (dsFind (fun (i224_1 : Int) => ((M 84 17) = 2) ∨ (¬ ((M 84 17) = 2) ∧ (M 85 ((15 + (3 * i224_1)) + 2)) = (M 85 ((15 + (3 * x1)) + 2)))) (x1 + 1) (M 85 4))] rfl ?_
    refine b_icmp_ge (d224 (j := 7) rfl) (fun c4 => ?_) (fun c4 => ?_)
    · exfalso; omega
    ·
      refine b_aload_n (d224 (j := 8) rfl) rfl ?_
      refine b_getI (d224 (j := 9) rfl) rfl rfl rfl rfl (Or.inl rfl) ?_
      refine b_stk [uI (M 84 17)] rfl ?_
      refine b_iconst (d224 (j := 10) rfl) (by decide) ?_
      refine b_icmp_eq (d224 (j := 11) rfl) (fun c5 => ?_) (fun c5 => ?_)
      ·
        refine b_iload_n (d224 (j := 19) rfl) rfl ?_
        exact b_iret (d224 (j := 20) rfl) rfl k
      ·
        refine b_aload_n (d224 (j := 12) rfl) rfl ?_
        refine b_iload_n (d224 (j := 13) rfl) rfl ?_
        refine b_callV (d224 (j := 14) rfl) rfl rfl (Or.inl rfl) rfl (bCk_mk (n := 0) (k := 2) (by decide +kernel) rfl rfl) (pu193 (s2 (dsFind (fun (i224_1 : Int) => ((M 84 17) = 2) ∨ (¬ ((M 84 17) = 2) ∧ (M 85 ((15 + (3 * i224_1)) + 2)) = (M 85 ((15 + (3 * x1)) + 2)))) (x1 + 1) (M 85 4)) h224_1l h224_1r (by omega)) ?_)
        refine b_stk [uI (M 85 ((15 + (3 * (dsFind (fun (i224_1 : Int) => ((M 84 17) = 2) ∨ (¬ ((M 84 17) = 2) ∧ (M 85 ((15 + (3 * i224_1)) + 2)) = (M 85 ((15 + (3 * x1)) + 2)))) (x1 + 1) (M 85 4)))) + 2))] rfl ?_
        refine b_aload_n (d224 (j := 15) rfl) rfl ?_
        refine b_iload_n (d224 (j := 16) rfl) rfl ?_
        refine b_callV (d224 (j := 17) rfl) rfl rfl (Or.inl rfl) rfl (bCk_mk (n := 1) (k := 2) (by decide +kernel) rfl rfl) (pu193 (s3 (dsFind (fun (i224_1 : Int) => ((M 84 17) = 2) ∨ (¬ ((M 84 17) = 2) ∧ (M 85 ((15 + (3 * i224_1)) + 2)) = (M 85 ((15 + (3 * x1)) + 2)))) (x1 + 1) (M 85 4)) h224_1l h224_1r (by omega)) ?_)
        refine b_stk [uI (M 85 ((15 + (3 * x1)) + 2)), uI (M 85 ((15 + (3 * (dsFind (fun (i224_1 : Int) => ((M 84 17) = 2) ∨ (¬ ((M 84 17) = 2) ∧ (M 85 ((15 + (3 * i224_1)) + 2)) = (M 85 ((15 + (3 * x1)) + 2)))) (x1 + 1) (M 85 4)))) + 2))] rfl ?_
        refine b_icmp_ne (d224 (j := 18) rfl) (fun c6 => ?_) (fun c6 => ?_)
        ·
          refine b_iinc [uR 11 84, uI x1, uI ((dsFind (fun (i224_1 : Int) => ((M 84 17) = 2) ∨ (¬ ((M 84 17) = 2) ∧ (M 85 ((15 + (3 * i224_1)) + 2)) = (M 85 ((15 + (3 * x1)) + 2)))) (x1 + 1) (M 85 4)) + 1)] (d224 (j := 21) rfl) rfl (by decide) (s4 (dsFind (fun (i224_1 : Int) => ((M 84 17) = 2) ∨ (¬ ((M 84 17) = 2) ∧ (M 85 ((15 + (3 * i224_1)) + 2)) = (M 85 ((15 + (3 * x1)) + 2)))) (x1 + 1) (M 85 4)) h224_1l h224_1r) rfl ?_
          refine b_goto (d224 (j := 22) rfl) ?_
          exfalso; omega
        ·
          refine b_iload_n (d224 (j := 19) rfl) rfl ?_
          exact b_iret (d224 (j := 20) rfl) rfl k
  ·
    rw [if_neg he] at k
    refine b_iload_n (d224 (j := 4) rfl) rfl ?_
    refine b_aload_n (d224 (j := 5) rfl) rfl ?_
    refine b_callV (d224 (j := 6) rfl) rfl rfl (Or.inl rfl) rfl (bCk_mk (n := 1) (k := 1) (by decide +kernel) rfl rfl) (pu185  ?_)
    refine b_stk [uI (M 85 4), uI i224_1] rfl ?_
    refine b_icmp_ge (d224 (j := 7) rfl) (fun c7 => ?_) (fun c7 => ?_)
    rotate_left
    · exfalso; omega
    ·
      refine b_iconst (d224 (j := 23) rfl) (by decide) ?_
      exact b_iret (d224 (j := 24) rfl) rfl k
def L230 : List (Nat × Instr × Nat × Nat) := [(0, .iconst 0, 1, 0), (1, .istore_n 2, 2, 0), (2, .iconst 0, 3, 0), (3, .istore_n 3, 4, 0), (4, .iload_n 3, 5, 0), (5, .aload_n 0, 6, 0), (6, .invokevirtual 116, 9, 0), (9, .if_icmp .ge 31, 12, 40), (12, .iload_n 2, 13, 0), (13, .aload_n 0, 14, 0), (14, .iload_n 3, 15, 0), (15, .invokevirtual 271, 18, 0), (18, .iload_n 1, 19, 0), (19, .if_icmp .ne 12, 22, 31), (22, .aload_n 0, 23, 0), (23, .getfield 49, 26, 0), (26, .iload_n 3, 27, 0), (27, .iaload, 28, 0), (28, .goto 4, 31, 32), (31, .iconst 0, 32, 0), (32, .iadd, 33, 0), (33, .istore_n 2, 34, 0), (34, .iinc 3 1, 37, 0), (37, .goto (-33), 40, 4), (40, .iload_n 2, 41, 0), (41, .ireturn, 42, 0)]
set_option maxRecDepth 100000 in
theorem L230_ok : L230.all (dck 230) = true := by decide +kernel
theorem d230 {j pc nx tg : Nat} {ins : Instr} (hj : L230[j]? = some (pc, ins, nx, tg)) : dcd 230 pc ins nx tg := dcl_ok L230_ok hj
def v230 (M : dsMem) (x1 : Int) : Int := (dsIter (fun (i230_1 : Int) (a230_1 : Int) => (if (M 85 ((15 + (3 * i230_1)) + 2)) = x1 then (dsw ((a230_1 + (M 96 i230_1)))) else (dsw ((a230_1 + 0))))) 0 (M 85 4) 0)
set_option maxRecDepth 100000 in
set_option maxHeartbeats 4000000 in
theorem fx230 {x1 : Int} {M : dsMem} {Q : bQT} (s1 : ∀ i230_1 : Int, ∀ a230_1 : Int, 0 ≤ i230_1 → i230_1 < (M 85 4) → 0 ≤ ((15 + (3 * i230_1)) + 2) ∧ ((15 + (3 * i230_1)) + 2) < 105 := by intros; omega) (s2 : ∀ i230_1 : Int, ∀ a230_1 : Int, 0 ≤ i230_1 → i230_1 < (M 85 4) → -2147483648 ≤ i230_1 + 1 ∧ i230_1 + 1 < 2147483648 := by intros; omega) (s3 : ∀ i230_1 : Int, ∀ a230_1 : Int, 0 ≤ i230_1 → i230_1 < (M 85 4) → ((M 85 ((15 + (3 * i230_1)) + 2)) = x1) → 0 ≤ i230_1 ∧ i230_1 < 6 := by intros; omega) (k : Q [uI (v230 M x1)] M) :
    bB 230 0 [uR 11 84, uI x1, uX 0, uX 0] [] M Q := by
  unfold v230 at k
  refine b_iconst (d230 (j := 0) rfl) (by decide) ?_
  refine b_istore_n [uR 11 84, uI x1, uI 0, uX 0] (d230 (j := 1) rfl) (by decide) rfl ?_
  refine b_iconst (d230 (j := 2) rfl) (by decide) ?_
  refine b_istore_n [uR 11 84, uI x1, uI 0, uI 0] (d230 (j := 3) rfl) (by decide) rfl ?_
  refine b_for (fun (i230_1 : Int) (a230_1 : Int) => [uR 11 84, uI x1, uI a230_1, uI i230_1]) (fun (i230_1 : Int) (a230_1 : Int) => (if (M 85 ((15 + (3 * i230_1)) + 2)) = x1 then (dsw ((a230_1 + (M 96 i230_1)))) else (dsw ((a230_1 + 0))))) 0 (M 85 4) 0 (fun i230_1 a230_1 h230_1l h230_1r hk230_1 => ?_) (fun i230_1 h230_1l h230_1r => ?_)
  ·
    refine b_iload_n (d230 (j := 4) rfl) rfl ?_
    refine b_aload_n (d230 (j := 5) rfl) rfl ?_
    refine b_callV (d230 (j := 6) rfl) rfl rfl (Or.inl rfl) rfl (bCk_mk (n := 1) (k := 1) (by decide +kernel) rfl rfl) (pu185  ?_)
    refine b_stk [uI (M 85 4), uI i230_1] rfl ?_
    refine b_icmp_ge (d230 (j := 7) rfl) (fun c1 => ?_) (fun c1 => ?_)
    · exfalso; omega
    ·
      refine b_iload_n (d230 (j := 8) rfl) rfl ?_
      refine b_aload_n (d230 (j := 9) rfl) rfl ?_
      refine b_iload_n (d230 (j := 10) rfl) rfl ?_
      refine b_callV (d230 (j := 11) rfl) rfl rfl (Or.inl rfl) rfl (bCk_mk (n := 1) (k := 2) (by decide +kernel) rfl rfl) (pu193 (s1 i230_1 a230_1 h230_1l h230_1r) ?_)
      refine b_stk [uI (M 85 ((15 + (3 * i230_1)) + 2)), uI a230_1] rfl ?_
      refine b_iload_n (d230 (j := 12) rfl) rfl ?_
      refine b_icmp_ne (d230 (j := 13) rfl) (fun c2 => ?_) (fun c2 => ?_)
      ·
        rw [if_neg c2] at hk230_1
        refine b_iconst (d230 (j := 19) rfl) (by decide) ?_
        refine b_iadd (d230 (j := 20) rfl) rfl rfl ?_
        refine b_istore_n [uR 11 84, uI x1, uI (dsw ((a230_1 + 0))), uI i230_1] (d230 (j := 21) rfl) (by decide) rfl ?_
        refine b_iinc [uR 11 84, uI x1, uI (dsw ((a230_1 + 0))), uI (i230_1 + 1)] (d230 (j := 22) rfl) rfl (by decide) (s2 i230_1 a230_1 h230_1l h230_1r) rfl ?_
        refine b_goto (d230 (j := 23) rfl) ?_
        exact hk230_1
      ·
        rw [if_pos c2] at hk230_1
        refine b_aload_n (d230 (j := 14) rfl) rfl ?_
        refine b_getR (d230 (j := 15) rfl) rfl rfl rfl rfl ?_
        refine b_stk [uR 21 96, uI a230_1] rfl ?_
        refine b_iload_n (d230 (j := 16) rfl) rfl ?_
        refine b_iaload (d230 (j := 17) rfl) rfl (s3 i230_1 a230_1 h230_1l h230_1r c2) ?_
        refine b_goto (d230 (j := 18) rfl) ?_
        refine b_iadd (d230 (j := 20) rfl) rfl rfl ?_
        refine b_istore_n [uR 11 84, uI x1, uI (dsw ((a230_1 + (M 96 i230_1)))), uI i230_1] (d230 (j := 21) rfl) (by decide) rfl ?_
        refine b_iinc [uR 11 84, uI x1, uI (dsw ((a230_1 + (M 96 i230_1)))), uI (i230_1 + 1)] (d230 (j := 22) rfl) rfl (by decide) (s2 i230_1 a230_1 h230_1l h230_1r) rfl ?_
        refine b_goto (d230 (j := 23) rfl) ?_
        exact hk230_1
  ·
    refine b_iload_n (d230 (j := 4) rfl) rfl ?_
    refine b_aload_n (d230 (j := 5) rfl) rfl ?_
    refine b_callV (d230 (j := 6) rfl) rfl rfl (Or.inl rfl) rfl (bCk_mk (n := 1) (k := 1) (by decide +kernel) rfl rfl) (pu185  ?_)
    refine b_stk [uI (M 85 4), uI i230_1] rfl ?_
    refine b_icmp_ge (d230 (j := 7) rfl) (fun c3 => ?_) (fun c3 => ?_)
    rotate_left
    · exfalso; omega
    ·
      refine b_iload_n (d230 (j := 24) rfl) rfl ?_
      exact b_iret (d230 (j := 25) rfl) rfl k
def L266 : List (Nat × Instr × Nat × Nat) := [(0, .iconst 0, 1, 0), (1, .istore_n 3, 2, 0), (2, .iconst 0, 3, 0), (3, .istore 4, 5, 0), (5, .iload 4, 7, 0), (7, .aload_n 0, 8, 0), (8, .invokevirtual 116, 11, 0), (11, .if_icmp .ge 33, 14, 44), (14, .iload_n 3, 15, 0), (15, .aload_n 0, 16, 0), (16, .iload 4, 18, 0), (18, .invokevirtual 271, 21, 0), (21, .iload_n 1, 22, 0), (22, .if_icmp .ne 13, 25, 35), (25, .aload_n 0, 26, 0), (26, .iload 4, 28, 0), (28, .iload_n 2, 29, 0), (29, .invokevirtual 373, 32, 0), (32, .goto 4, 35, 36), (35, .iconst 0, 36, 0), (36, .iadd, 37, 0), (37, .istore_n 3, 38, 0), (38, .iinc 4 1, 41, 0), (41, .goto (-36), 44, 5), (44, .iload_n 3, 45, 0), (45, .ireturn, 46, 0)]
set_option maxRecDepth 100000 in
theorem L266_ok : L266.all (dck 266) = true := by decide +kernel
theorem d266 {j pc nx tg : Nat} {ins : Instr} (hj : L266[j]? = some (pc, ins, nx, tg)) : dcd 266 pc ins nx tg := dcl_ok L266_ok hj
def v266 (M : dsMem) (x1 x2 : Int) : Int := (dsIter (fun (i266_1 : Int) (a266_1 : Int) => (if (M 85 ((15 + (3 * i266_1)) + 2)) = x1 then (dsw ((a266_1 + (M 102 ((6 * x2) + i266_1))))) else (dsw ((a266_1 + 0))))) 0 (M 85 4) 0)
set_option maxRecDepth 100000 in
set_option maxHeartbeats 4000000 in
theorem fx266 {x1 x2 : Int} {M : dsMem} {Q : bQT} (s1 : ∀ i266_1 : Int, ∀ a266_1 : Int, 0 ≤ i266_1 → i266_1 < (M 85 4) → 0 ≤ ((15 + (3 * i266_1)) + 2) ∧ ((15 + (3 * i266_1)) + 2) < 105 := by intros; omega) (s2 : ∀ i266_1 : Int, ∀ a266_1 : Int, 0 ≤ i266_1 → i266_1 < (M 85 4) → -2147483648 ≤ i266_1 + 1 ∧ i266_1 + 1 < 2147483648 := by intros; omega) (s3 : ∀ i266_1 : Int, ∀ a266_1 : Int, 0 ≤ i266_1 → i266_1 < (M 85 4) → ((M 85 ((15 + (3 * i266_1)) + 2)) = x1) → 0 ≤ ((6 * x2) + i266_1) ∧ ((6 * x2) + i266_1) < 78 := by intros; omega) (k : Q [uI (v266 M x1 x2)] M) :
    bB 266 0 [uR 11 84, uI x1, uI x2, uX 0, uX 0] [] M Q := by
  unfold v266 at k
  refine b_iconst (d266 (j := 0) rfl) (by decide) ?_
  refine b_istore_n [uR 11 84, uI x1, uI x2, uI 0, uX 0] (d266 (j := 1) rfl) (by decide) rfl ?_
  refine b_iconst (d266 (j := 2) rfl) (by decide) ?_
  refine b_istore [uR 11 84, uI x1, uI x2, uI 0, uI 0] (d266 (j := 3) rfl) (by decide) rfl ?_
  refine b_for (fun (i266_1 : Int) (a266_1 : Int) => [uR 11 84, uI x1, uI x2, uI a266_1, uI i266_1]) (fun (i266_1 : Int) (a266_1 : Int) => (if (M 85 ((15 + (3 * i266_1)) + 2)) = x1 then (dsw ((a266_1 + (M 102 ((6 * x2) + i266_1))))) else (dsw ((a266_1 + 0))))) 0 (M 85 4) 0 (fun i266_1 a266_1 h266_1l h266_1r hk266_1 => ?_) (fun i266_1 h266_1l h266_1r => ?_)
  ·
    refine b_iload (d266 (j := 4) rfl) rfl ?_
    refine b_aload_n (d266 (j := 5) rfl) rfl ?_
    refine b_callV (d266 (j := 6) rfl) rfl rfl (Or.inl rfl) rfl (bCk_mk (n := 1) (k := 1) (by decide +kernel) rfl rfl) (pu185  ?_)
    refine b_stk [uI (M 85 4), uI i266_1] rfl ?_
    refine b_icmp_ge (d266 (j := 7) rfl) (fun c1 => ?_) (fun c1 => ?_)
    · exfalso; omega
    ·
      refine b_iload_n (d266 (j := 8) rfl) rfl ?_
      refine b_aload_n (d266 (j := 9) rfl) rfl ?_
      refine b_iload (d266 (j := 10) rfl) rfl ?_
      refine b_callV (d266 (j := 11) rfl) rfl rfl (Or.inl rfl) rfl (bCk_mk (n := 1) (k := 2) (by decide +kernel) rfl rfl) (pu193 (s1 i266_1 a266_1 h266_1l h266_1r) ?_)
      refine b_stk [uI (M 85 ((15 + (3 * i266_1)) + 2)), uI a266_1] rfl ?_
      refine b_iload_n (d266 (j := 12) rfl) rfl ?_
      refine b_icmp_ne (d266 (j := 13) rfl) (fun c2 => ?_) (fun c2 => ?_)
      ·
        rw [if_neg c2] at hk266_1
        refine b_iconst (d266 (j := 19) rfl) (by decide) ?_
        refine b_iadd (d266 (j := 20) rfl) rfl rfl ?_
        refine b_istore_n [uR 11 84, uI x1, uI x2, uI (dsw ((a266_1 + 0))), uI i266_1] (d266 (j := 21) rfl) (by decide) rfl ?_
        refine b_iinc [uR 11 84, uI x1, uI x2, uI (dsw ((a266_1 + 0))), uI (i266_1 + 1)] (d266 (j := 22) rfl) rfl (by decide) (s2 i266_1 a266_1 h266_1l h266_1r) rfl ?_
        refine b_goto (d266 (j := 23) rfl) ?_
        exact hk266_1
      ·
        rw [if_pos c2] at hk266_1
        refine b_aload_n (d266 (j := 14) rfl) rfl ?_
        refine b_iload (d266 (j := 15) rfl) rfl ?_
        refine b_iload_n (d266 (j := 16) rfl) rfl ?_
        refine b_callV (d266 (j := 17) rfl) rfl rfl (Or.inl rfl) rfl (bCk_mk (n := 1) (k := 3) (by decide +kernel) rfl rfl) (pu240 (s3 i266_1 a266_1 h266_1l h266_1r c2) ?_)
        refine b_stk [uI (M 102 ((6 * x2) + i266_1)), uI a266_1] rfl ?_
        refine b_goto (d266 (j := 18) rfl) ?_
        refine b_iadd (d266 (j := 20) rfl) rfl rfl ?_
        refine b_istore_n [uR 11 84, uI x1, uI x2, uI (dsw ((a266_1 + (M 102 ((6 * x2) + i266_1))))), uI i266_1] (d266 (j := 21) rfl) (by decide) rfl ?_
        refine b_iinc [uR 11 84, uI x1, uI x2, uI (dsw ((a266_1 + (M 102 ((6 * x2) + i266_1))))), uI (i266_1 + 1)] (d266 (j := 22) rfl) rfl (by decide) (s2 i266_1 a266_1 h266_1l h266_1r) rfl ?_
        refine b_goto (d266 (j := 23) rfl) ?_
        exact hk266_1
  ·
    refine b_iload (d266 (j := 4) rfl) rfl ?_
    refine b_aload_n (d266 (j := 5) rfl) rfl ?_
    refine b_callV (d266 (j := 6) rfl) rfl rfl (Or.inl rfl) rfl (bCk_mk (n := 1) (k := 1) (by decide +kernel) rfl rfl) (pu185  ?_)
    refine b_stk [uI (M 85 4), uI i266_1] rfl ?_
    refine b_icmp_ge (d266 (j := 7) rfl) (fun c3 => ?_) (fun c3 => ?_)
    rotate_left
    · exfalso; omega
    ·
      refine b_iload_n (d266 (j := 24) rfl) rfl ?_
      exact b_iret (d266 (j := 25) rfl) rfl k
def L242 : List (Nat × Instr × Nat × Nat) := [(0, .iconst 0, 1, 0), (1, .istore_n 2, 2, 0), (2, .iconst 0, 3, 0), (3, .istore_n 3, 4, 0), (4, .iload_n 3, 5, 0), (5, .aload_n 0, 6, 0), (6, .invokevirtual 116, 9, 0), (9, .if_icmp .ge 18, 12, 27), (12, .iload_n 2, 13, 0), (13, .aload_n 0, 14, 0), (14, .iload_n 3, 15, 0), (15, .iload_n 1, 16, 0), (16, .invokevirtual 373, 19, 0), (19, .iadd, 20, 0), (20, .istore_n 2, 21, 0), (21, .iinc 3 1, 24, 0), (24, .goto (-20), 27, 4), (27, .iload_n 2, 28, 0), (28, .ireturn, 29, 0)]
set_option maxRecDepth 100000 in
theorem L242_ok : L242.all (dck 242) = true := by decide +kernel
theorem d242 {j pc nx tg : Nat} {ins : Instr} (hj : L242[j]? = some (pc, ins, nx, tg)) : dcd 242 pc ins nx tg := dcl_ok L242_ok hj
def v242 (M : dsMem) (x1 : Int) : Int := (dsIter (fun (i242_1 : Int) (a242_1 : Int) => (dsw ((a242_1 + (M 102 ((6 * x1) + i242_1)))))) 0 (M 85 4) 0)
set_option maxRecDepth 100000 in
set_option maxHeartbeats 4000000 in
theorem fx242 {x1 : Int} {M : dsMem} {Q : bQT} (s1 : ∀ i242_1 : Int, ∀ a242_1 : Int, 0 ≤ i242_1 → i242_1 < (M 85 4) → 0 ≤ ((6 * x1) + i242_1) ∧ ((6 * x1) + i242_1) < 78 := by intros; omega) (s2 : ∀ i242_1 : Int, ∀ a242_1 : Int, 0 ≤ i242_1 → i242_1 < (M 85 4) → -2147483648 ≤ i242_1 + 1 ∧ i242_1 + 1 < 2147483648 := by intros; omega) (k : Q [uI (v242 M x1)] M) :
    bB 242 0 [uR 11 84, uI x1, uX 0, uX 0] [] M Q := by
  unfold v242 at k
  refine b_iconst (d242 (j := 0) rfl) (by decide) ?_
  refine b_istore_n [uR 11 84, uI x1, uI 0, uX 0] (d242 (j := 1) rfl) (by decide) rfl ?_
  refine b_iconst (d242 (j := 2) rfl) (by decide) ?_
  refine b_istore_n [uR 11 84, uI x1, uI 0, uI 0] (d242 (j := 3) rfl) (by decide) rfl ?_
  refine b_for (fun (i242_1 : Int) (a242_1 : Int) => [uR 11 84, uI x1, uI a242_1, uI i242_1]) (fun (i242_1 : Int) (a242_1 : Int) => (dsw ((a242_1 + (M 102 ((6 * x1) + i242_1)))))) 0 (M 85 4) 0 (fun i242_1 a242_1 h242_1l h242_1r hk242_1 => ?_) (fun i242_1 h242_1l h242_1r => ?_)
  ·
    refine b_iload_n (d242 (j := 4) rfl) rfl ?_
    refine b_aload_n (d242 (j := 5) rfl) rfl ?_
    refine b_callV (d242 (j := 6) rfl) rfl rfl (Or.inl rfl) rfl (bCk_mk (n := 1) (k := 1) (by decide +kernel) rfl rfl) (pu185  ?_)
    refine b_stk [uI (M 85 4), uI i242_1] rfl ?_
    refine b_icmp_ge (d242 (j := 7) rfl) (fun c1 => ?_) (fun c1 => ?_)
    · exfalso; omega
    ·
      refine b_iload_n (d242 (j := 8) rfl) rfl ?_
      refine b_aload_n (d242 (j := 9) rfl) rfl ?_
      refine b_iload_n (d242 (j := 10) rfl) rfl ?_
      refine b_iload_n (d242 (j := 11) rfl) rfl ?_
      refine b_callV (d242 (j := 12) rfl) rfl rfl (Or.inl rfl) rfl (bCk_mk (n := 1) (k := 3) (by decide +kernel) rfl rfl) (pu240 (s1 i242_1 a242_1 h242_1l h242_1r) ?_)
      refine b_stk [uI (M 102 ((6 * x1) + i242_1)), uI a242_1] rfl ?_
      refine b_iadd (d242 (j := 13) rfl) rfl rfl ?_
      refine b_istore_n [uR 11 84, uI x1, uI (dsw ((a242_1 + (M 102 ((6 * x1) + i242_1))))), uI i242_1] (d242 (j := 14) rfl) (by decide) rfl ?_
      refine b_iinc [uR 11 84, uI x1, uI (dsw ((a242_1 + (M 102 ((6 * x1) + i242_1))))), uI (i242_1 + 1)] (d242 (j := 15) rfl) rfl (by decide) (s2 i242_1 a242_1 h242_1l h242_1r) rfl ?_
      refine b_goto (d242 (j := 16) rfl) ?_
      exact hk242_1
  ·
    refine b_iload_n (d242 (j := 4) rfl) rfl ?_
    refine b_aload_n (d242 (j := 5) rfl) rfl ?_
    refine b_callV (d242 (j := 6) rfl) rfl rfl (Or.inl rfl) rfl (bCk_mk (n := 1) (k := 1) (by decide +kernel) rfl rfl) (pu185  ?_)
    refine b_stk [uI (M 85 4), uI i242_1] rfl ?_
    refine b_icmp_ge (d242 (j := 7) rfl) (fun c2 => ?_) (fun c2 => ?_)
    rotate_left
    · exfalso; omega
    ·
      refine b_iload_n (d242 (j := 17) rfl) rfl ?_
      exact b_iret (d242 (j := 18) rfl) rfl k
def L243 : List (Nat × Instr × Nat × Nat) := [(0, .aload_n 0, 1, 0), (1, .aload_n 0, 2, 0), (2, .invokevirtual 124, 5, 0), (5, .invokevirtual 376, 8, 0), (8, .ireturn, 9, 0)]
set_option maxRecDepth 100000 in
theorem L243_ok : L243.all (dck 243) = true := by decide +kernel
theorem d243 {j pc nx tg : Nat} {ins : Instr} (hj : L243[j]? = some (pc, ins, nx, tg)) : dcd 243 pc ins nx tg := dcl_ok L243_ok hj
def v243 (M : dsMem) : Int := (v242 M (M 85 0))
set_option maxRecDepth 100000 in
set_option maxHeartbeats 4000000 in
theorem fx243 {M : dsMem} {Q : bQT} (s1 : ∀ i242_1 : Int, ∀ a242_1 : Int, 0 ≤ i242_1 → i242_1 < (M 85 4) → 0 ≤ ((6 * (M 85 0)) + i242_1) ∧ ((6 * (M 85 0)) + i242_1) < 78 := by intros; omega) (s2 : ∀ i242_1 : Int, ∀ a242_1 : Int, 0 ≤ i242_1 → i242_1 < (M 85 4) → -2147483648 ≤ i242_1 + 1 ∧ i242_1 + 1 < 2147483648 := by intros; omega) (k : Q [uI (v243 M)] M) :
    bB 243 0 [uR 11 84] [] M Q := by
  unfold v243 at k
  refine b_aload_n (d243 (j := 0) rfl) rfl ?_
  refine b_aload_n (d243 (j := 1) rfl) rfl ?_
  refine b_callV (d243 (j := 2) rfl) rfl rfl (Or.inl rfl) rfl (bCk_mk (n := 1) (k := 1) (by decide +kernel) rfl rfl) (pu183  ?_)
  refine b_stk [uI (M 85 0), uR 11 84] rfl ?_
  refine b_callV (d243 (j := 3) rfl) rfl rfl (Or.inl rfl) rfl (bCk_mk (n := 0) (k := 2) (by decide +kernel) rfl rfl) (fx242 s1 s2 ?_)
  refine b_stk [uI (v242 M (M 85 0))] rfl ?_
  exact b_iret (d243 (j := 4) rfl) rfl k
def L244 : List (Nat × Instr × Nat × Nat) := [(0, .aload_n 0, 1, 0), (1, .getfield 82, 4, 0), (4, .aload_n 0, 5, 0), (5, .invokevirtual 124, 8, 0), (8, .iaload, 9, 0), (9, .invokestatic 379, 12, 0), (12, .ireturn, 13, 0)]
set_option maxRecDepth 100000 in
theorem L244_ok : L244.all (dck 244) = true := by decide +kernel
theorem d244 {j pc nx tg : Nat} {ins : Instr} (hj : L244[j]? = some (pc, ins, nx, tg)) : dcd 244 pc ins nx tg := dcl_ok L244_ok hj
def v244 (M : dsMem) : Int := (v178 M (M 107 (M 85 0)))
set_option maxRecDepth 100000 in
set_option maxHeartbeats 4000000 in
theorem fx244 {M : dsMem} {Q : bQT} (s1 : 0 ≤ (M 85 0) ∧ (M 85 0) < 13 := by intros; omega) (s2 : ∀ i178_1 : Int, ∀ a178_1 : Int, 0 ≤ i178_1 → i178_1 < 16 → -2147483648 ≤ i178_1 + 1 ∧ i178_1 + 1 < 2147483648 := by intros; omega) (k : Q [uI (v244 M)] M) :
    bB 244 0 [uR 11 84] [] M Q := by
  unfold v244 at k
  refine b_aload_n (d244 (j := 0) rfl) rfl ?_
  refine b_getR (d244 (j := 1) rfl) rfl rfl rfl rfl ?_
  refine b_stk [uR 27 107] rfl ?_
  refine b_aload_n (d244 (j := 2) rfl) rfl ?_
  refine b_callV (d244 (j := 3) rfl) rfl rfl (Or.inl rfl) rfl (bCk_mk (n := 1) (k := 1) (by decide +kernel) rfl rfl) (pu183  ?_)
  refine b_stk [uI (M 85 0), uR 27 107] rfl ?_
  refine b_iaload (d244 (j := 4) rfl) rfl s1 ?_
  refine b_callS (d244 (j := 5) rfl) (Or.inl rfl) rfl (bCk_mk (n := 0) (k := 1) (by decide +kernel) rfl rfl) (fx178 s2 ?_)
  refine b_stk [uI (v178 M (M 107 (M 85 0)))] rfl ?_
  exact b_iret (d244 (j := 6) rfl) rfl k
def L248 : List (Nat × Instr × Nat × Nat) := [(0, .bipush 6, 2, 0), (2, .iload_n 2, 3, 0), (3, .imul, 4, 0), (4, .iload_n 1, 5, 0), (5, .iadd, 6, 0), (6, .istore 4, 8, 0), (8, .iconst 0, 9, 0), (9, .istore 5, 11, 0), (11, .iconst 0, 12, 0), (12, .istore 6, 14, 0), (14, .iload 6, 16, 0), (16, .aload_n 0, 17, 0), (17, .getfield 70, 20, 0), (20, .iload 4, 22, 0), (22, .iaload, 23, 0), (23, .if_icmp .ge 48, 26, 71), (26, .iload 5, 28, 0), (28, .aload_n 0, 29, 0), (29, .getfield 73, 32, 0), (32, .bipush 60, 34, 0), (34, .iload 4, 36, 0), (36, .imul, 37, 0), (37, .iload 6, 39, 0), (39, .iadd, 40, 0), (40, .iaload, 41, 0), (41, .iload_n 3, 42, 0), (42, .if_icmp .ne 19, 45, 61), (45, .aload_n 0, 46, 0), (46, .getfield 76, 49, 0), (49, .bipush 60, 51, 0), (51, .iload 4, 53, 0), (53, .imul, 54, 0), (54, .iload 6, 56, 0), (56, .iadd, 57, 0), (57, .iaload, 58, 0), (58, .goto 4, 61, 62), (61, .iconst 0, 62, 0), (62, .iadd, 63, 0), (63, .istore 5, 65, 0), (65, .iinc 6 1, 68, 0), (68, .goto (-54), 71, 14), (71, .iload 5, 73, 0), (73, .ireturn, 74, 0)]
set_option maxRecDepth 100000 in
theorem L248_ok : L248.all (dck 248) = true := by decide +kernel
theorem d248 {j pc nx tg : Nat} {ins : Instr} (hj : L248[j]? = some (pc, ins, nx, tg)) : dcd 248 pc ins nx tg := dcl_ok L248_ok hj
def v248 (M : dsMem) (x1 x2 x3 : Int) : Int := (dsIter (fun (i248_1 : Int) (a248_1 : Int) => (if (M 104 ((60 * ((6 * x2) + x1)) + i248_1)) = x3 then (dsw ((a248_1 + (M 105 ((60 * ((6 * x2) + x1)) + i248_1))))) else (dsw ((a248_1 + 0))))) 0 (M 103 ((6 * x2) + x1)) 0)
set_option maxRecDepth 100000 in
set_option maxHeartbeats 4000000 in
theorem fx248 {x1 x2 x3 : Int} {M : dsMem} {Q : bQT} (s1 : -2147483648 ≤ ((6 * x2) + x1) ∧ ((6 * x2) + x1) < 2147483648 := by intros; omega) (s2 : ∀ i248_1 : Int, ∀ a248_1 : Int, 0 ≤ i248_1 → i248_1 < (M 103 ((6 * x2) + x1)) → 0 ≤ ((6 * x2) + x1) ∧ ((6 * x2) + x1) < 78 := by intros; omega) (s3 : ∀ i248_1 : Int, ∀ a248_1 : Int, 0 ≤ i248_1 → i248_1 < (M 103 ((6 * x2) + x1)) → 0 ≤ ((60 * ((6 * x2) + x1)) + i248_1) ∧ ((60 * ((6 * x2) + x1)) + i248_1) < 4680 := by intros; omega) (s4 : ∀ i248_1 : Int, ∀ a248_1 : Int, 0 ≤ i248_1 → i248_1 < (M 103 ((6 * x2) + x1)) → -2147483648 ≤ i248_1 + 1 ∧ i248_1 + 1 < 2147483648 := by intros; omega) (s5 : 0 ≤ ((6 * x2) + x1) ∧ ((6 * x2) + x1) < 78 := by intros; omega) (k : Q [uI (v248 M x1 x2 x3)] M) :
    bB 248 0 [uR 11 84, uI x1, uI x2, uI x3, uX 0, uX 0, uX 0] [] M Q := by
  unfold v248 at k
  refine b_bipush (d248 (j := 0) rfl) (by decide) ?_
  refine b_iload_n (d248 (j := 1) rfl) rfl ?_
  refine b_imul (d248 (j := 2) rfl) rfl rfl ?_
  refine b_iload_n (d248 (j := 3) rfl) rfl ?_
  refine b_iadd (d248 (j := 4) rfl) (dsw_dsw _) rfl ?_
  refine b_stk [uI ((6 * x2) + x1)] (by rw [dsw_r s1]) ?_
  refine b_istore [uR 11 84, uI x1, uI x2, uI x3, uI ((6 * x2) + x1), uX 0, uX 0] (d248 (j := 5) rfl) (by decide) rfl ?_
  refine b_iconst (d248 (j := 6) rfl) (by decide) ?_
  refine b_istore [uR 11 84, uI x1, uI x2, uI x3, uI ((6 * x2) + x1), uI 0, uX 0] (d248 (j := 7) rfl) (by decide) rfl ?_
  refine b_iconst (d248 (j := 8) rfl) (by decide) ?_
  refine b_istore [uR 11 84, uI x1, uI x2, uI x3, uI ((6 * x2) + x1), uI 0, uI 0] (d248 (j := 9) rfl) (by decide) rfl ?_
  refine bB_le _ (bLe_s (bLe_x (bLe_x (bLe_s (bLe_s (bLe_s (bLe_s bLe_nil))))))) ?_
  refine b_for (fun (i248_1 : Int) (a248_1 : Int) => [uR 11 84, uX 0, uX 0, uI x3, uI ((6 * x2) + x1), uI a248_1, uI i248_1]) (fun (i248_1 : Int) (a248_1 : Int) => (if (M 104 ((60 * ((6 * x2) + x1)) + i248_1)) = x3 then (dsw ((a248_1 + (M 105 ((60 * ((6 * x2) + x1)) + i248_1))))) else (dsw ((a248_1 + 0))))) 0 (M 103 ((6 * x2) + x1)) 0 (fun i248_1 a248_1 h248_1l h248_1r hk248_1 => ?_) (fun i248_1 h248_1l h248_1r => ?_)
  ·
    refine b_iload (d248 (j := 10) rfl) rfl ?_
    refine b_aload_n (d248 (j := 11) rfl) rfl ?_
    refine b_getR (d248 (j := 12) rfl) rfl rfl rfl rfl ?_
    refine b_stk [uR 25 103, uI i248_1] rfl ?_
    refine b_iload (d248 (j := 13) rfl) rfl ?_
    refine b_iaload (d248 (j := 14) rfl) rfl (s2 i248_1 a248_1 h248_1l h248_1r) ?_
    refine b_icmp_ge (d248 (j := 15) rfl) (fun c1 => ?_) (fun c1 => ?_)
    · exfalso; omega
    ·
      refine b_iload (d248 (j := 16) rfl) rfl ?_
      refine b_aload_n (d248 (j := 17) rfl) rfl ?_
      refine b_getR (d248 (j := 18) rfl) rfl rfl rfl rfl ?_
      refine b_stk [uR 24 104, uI a248_1] rfl ?_
      refine b_bipush (d248 (j := 19) rfl) (by decide) ?_
      refine b_iload (d248 (j := 20) rfl) rfl ?_
      refine b_imul (d248 (j := 21) rfl) rfl rfl ?_
      refine b_iload (d248 (j := 22) rfl) rfl ?_
      refine b_iadd (d248 (j := 23) rfl) (dsw_dsw _) rfl ?_
      refine b_stk [uI ((60 * ((6 * x2) + x1)) + i248_1), uR 24 104, uI a248_1] (by rw [dsw_b (s3 i248_1 a248_1 h248_1l h248_1r) (by decide)]) ?_
      refine b_iaload (d248 (j := 24) rfl) rfl (s3 i248_1 a248_1 h248_1l h248_1r) ?_
      refine b_iload_n (d248 (j := 25) rfl) rfl ?_
      refine b_icmp_ne (d248 (j := 26) rfl) (fun c2 => ?_) (fun c2 => ?_)
      ·
        rw [if_neg c2] at hk248_1
        refine b_iconst (d248 (j := 36) rfl) (by decide) ?_
        refine b_iadd (d248 (j := 37) rfl) rfl rfl ?_
        refine b_istore [uR 11 84, uX 0, uX 0, uI x3, uI ((6 * x2) + x1), uI (dsw ((a248_1 + 0))), uI i248_1] (d248 (j := 38) rfl) (by decide) rfl ?_
        refine b_iinc [uR 11 84, uX 0, uX 0, uI x3, uI ((6 * x2) + x1), uI (dsw ((a248_1 + 0))), uI (i248_1 + 1)] (d248 (j := 39) rfl) rfl (by decide) (s4 i248_1 a248_1 h248_1l h248_1r) rfl ?_
        refine b_goto (d248 (j := 40) rfl) ?_
        exact hk248_1
      ·
        rw [if_pos c2] at hk248_1
        refine b_aload_n (d248 (j := 27) rfl) rfl ?_
        refine b_getR (d248 (j := 28) rfl) rfl rfl rfl rfl ?_
        refine b_stk [uR 24 105, uI a248_1] rfl ?_
        refine b_bipush (d248 (j := 29) rfl) (by decide) ?_
        refine b_iload (d248 (j := 30) rfl) rfl ?_
        refine b_imul (d248 (j := 31) rfl) rfl rfl ?_
        refine b_iload (d248 (j := 32) rfl) rfl ?_
        refine b_iadd (d248 (j := 33) rfl) (dsw_dsw _) rfl ?_
        refine b_stk [uI ((60 * ((6 * x2) + x1)) + i248_1), uR 24 105, uI a248_1] (by rw [dsw_b (s3 i248_1 a248_1 h248_1l h248_1r) (by decide)]) ?_
        refine b_iaload (d248 (j := 34) rfl) rfl (s3 i248_1 a248_1 h248_1l h248_1r) ?_
        refine b_goto (d248 (j := 35) rfl) ?_
        refine b_iadd (d248 (j := 37) rfl) rfl rfl ?_
        refine b_istore [uR 11 84, uX 0, uX 0, uI x3, uI ((6 * x2) + x1), uI (dsw ((a248_1 + (M 105 ((60 * ((6 * x2) + x1)) + i248_1))))), uI i248_1] (d248 (j := 38) rfl) (by decide) rfl ?_
        refine b_iinc [uR 11 84, uX 0, uX 0, uI x3, uI ((6 * x2) + x1), uI (dsw ((a248_1 + (M 105 ((60 * ((6 * x2) + x1)) + i248_1))))), uI (i248_1 + 1)] (d248 (j := 39) rfl) rfl (by decide) (s4 i248_1 a248_1 h248_1l h248_1r) rfl ?_
        refine b_goto (d248 (j := 40) rfl) ?_
        exact hk248_1
  ·
    refine b_iload (d248 (j := 10) rfl) rfl ?_
    refine b_aload_n (d248 (j := 11) rfl) rfl ?_
    refine b_getR (d248 (j := 12) rfl) rfl rfl rfl rfl ?_
    refine b_stk [uR 25 103, uI i248_1] rfl ?_
    refine b_iload (d248 (j := 13) rfl) rfl ?_
    refine b_iaload (d248 (j := 14) rfl) rfl s5 ?_
    refine b_icmp_ge (d248 (j := 15) rfl) (fun c3 => ?_) (fun c3 => ?_)
    rotate_left
    · exfalso; omega
    ·
      refine b_iload (d248 (j := 41) rfl) rfl ?_
      exact b_iret (d248 (j := 42) rfl) rfl k
def L306 : List (Nat × Instr × Nat × Nat) := [(0, .iconst 1, 1, 0), (1, .istore_n 1, 2, 0), (2, .iconst 2, 3, 0), (3, .istore_n 2, 4, 0), (4, .iload_n 2, 5, 0), (5, .iload_n 0, 6, 0), (6, .if_icmp .gt 13, 9, 19), (9, .iload_n 1, 10, 0), (10, .iload_n 2, 11, 0), (11, .imul, 12, 0), (12, .istore_n 1, 13, 0), (13, .iinc 2 1, 16, 0), (16, .goto (-12), 19, 4), (19, .iload_n 1, 20, 0), (20, .ireturn, 21, 0)]
set_option maxRecDepth 100000 in
theorem L306_ok : L306.all (dck 306) = true := by decide +kernel
theorem d306 {j pc nx tg : Nat} {ins : Instr} (hj : L306[j]? = some (pc, ins, nx, tg)) : dcd 306 pc ins nx tg := dcl_ok L306_ok hj
def v306 (M : dsMem) (x0 : Int) : Int := (dsIter (fun (i306_1 : Int) (a306_1 : Int) => (dsw ((a306_1 * i306_1)))) 2 (x0 + 1) 1)
set_option maxRecDepth 100000 in
set_option maxHeartbeats 4000000 in
theorem fx306 {x0 : Int} {M : dsMem} {Q : bQT} (s1 : ∀ i306_1 : Int, ∀ a306_1 : Int, 2 ≤ i306_1 → i306_1 < (x0 + 1) → -2147483648 ≤ i306_1 + 1 ∧ i306_1 + 1 < 2147483648 := by intros; omega) (k : Q [uI (v306 M x0)] M) :
    bB 306 0 [uI x0, uX 0, uX 0] [] M Q := by
  unfold v306 at k
  refine b_iconst (d306 (j := 0) rfl) (by decide) ?_
  refine b_istore_n [uI x0, uI 1, uX 0] (d306 (j := 1) rfl) (by decide) rfl ?_
  refine b_iconst (d306 (j := 2) rfl) (by decide) ?_
  refine b_istore_n [uI x0, uI 1, uI 2] (d306 (j := 3) rfl) (by decide) rfl ?_
  refine b_for (fun (i306_1 : Int) (a306_1 : Int) => [uI x0, uI a306_1, uI i306_1]) (fun (i306_1 : Int) (a306_1 : Int) => (dsw ((a306_1 * i306_1)))) 2 (x0 + 1) 1 (fun i306_1 a306_1 h306_1l h306_1r hk306_1 => ?_) (fun i306_1 h306_1l h306_1r => ?_)
  ·
    refine b_iload_n (d306 (j := 4) rfl) rfl ?_
    refine b_iload_n (d306 (j := 5) rfl) rfl ?_
    refine b_icmp_gt (d306 (j := 6) rfl) (fun c1 => ?_) (fun c1 => ?_)
    · exfalso; omega
    ·
      refine b_iload_n (d306 (j := 7) rfl) rfl ?_
      refine b_iload_n (d306 (j := 8) rfl) rfl ?_
      refine b_imul (d306 (j := 9) rfl) rfl rfl ?_
      refine b_istore_n [uI x0, uI (dsw ((a306_1 * i306_1))), uI i306_1] (d306 (j := 10) rfl) (by decide) rfl ?_
      refine b_iinc [uI x0, uI (dsw ((a306_1 * i306_1))), uI (i306_1 + 1)] (d306 (j := 11) rfl) rfl (by decide) (s1 i306_1 a306_1 h306_1l h306_1r) rfl ?_
      refine b_goto (d306 (j := 12) rfl) ?_
      exact hk306_1
  ·
    refine b_iload_n (d306 (j := 4) rfl) rfl ?_
    refine b_iload_n (d306 (j := 5) rfl) rfl ?_
    refine b_icmp_gt (d306 (j := 6) rfl) (fun c2 => ?_) (fun c2 => ?_)
    rotate_left
    · exfalso; omega
    ·
      refine b_iload_n (d306 (j := 13) rfl) rfl ?_
      exact b_iret (d306 (j := 14) rfl) rfl k
def L196 : List (Nat × Instr × Nat × Nat) := [(0, .iload_n 1, 1, 0), (1, .aload_n 0, 2, 0), (2, .getfield 139, 5, 0), (5, .if_icmp .ge 16, 8, 21), (8, .aload_n 0, 9, 0), (9, .getfield 20, 12, 0), (12, .iload_n 1, 13, 0), (13, .baload, 14, 0), (14, .sipush 255, 17, 0), (17, .iand, 18, 0), (18, .goto 4, 21, 22), (21, .iconst (-1), 22, 0), (22, .ireturn, 23, 0)]
set_option maxRecDepth 100000 in
theorem L196_ok : L196.all (dck 196) = true := by decide +kernel
theorem d196 {j pc nx tg : Nat} {ins : Instr} (hj : L196[j]? = some (pc, ins, nx, tg)) : dcd 196 pc ins nx tg := dcl_ok L196_ok hj
def v196 (M : dsMem) (x1 : Int) : Int := (if (M 84 7) ≤ x1 then -1 else (dsAnd (M 88 x1) 255))
set_option maxRecDepth 100000 in
set_option maxHeartbeats 4000000 in
theorem fx196 {x1 : Int} {M : dsMem} {Q : bQT} (s1 : (¬ (M 84 7) ≤ x1) → 0 ≤ x1 ∧ x1 < 600 := by intros; omega) (k : Q [uI (v196 M x1)] M) :
    bB 196 0 [uR 11 84, uI x1] [] M Q := by
  unfold v196 at k
  refine b_iload_n (d196 (j := 0) rfl) rfl ?_
  refine b_aload_n (d196 (j := 1) rfl) rfl ?_
  refine b_getI (d196 (j := 2) rfl) rfl rfl rfl rfl (Or.inl rfl) ?_
  refine b_stk [uI (M 84 7), uI x1] rfl ?_
  refine b_icmp_ge (d196 (j := 3) rfl) (fun c1 => ?_) (fun c1 => ?_)
  ·
    rw [if_pos c1] at k
    refine b_iconst (d196 (j := 11) rfl) (by decide) ?_
    exact b_iret (d196 (j := 12) rfl) rfl k
  ·
    rw [if_neg c1] at k
    refine b_aload_n (d196 (j := 4) rfl) rfl ?_
    refine b_getR (d196 (j := 5) rfl) rfl rfl rfl rfl ?_
    refine b_stk [uR 29 88] rfl ?_
    refine b_iload_n (d196 (j := 6) rfl) rfl ?_
    refine b_baload (d196 (j := 7) rfl) (Or.inl rfl) (s1 c1) ?_
    refine b_sipush (d196 (j := 8) rfl) (by decide) ?_
    refine b_iand (d196 (j := 9) rfl) ?_
    refine b_goto (d196 (j := 10) rfl) ?_
    exact b_iret (d196 (j := 12) rfl) rfl k
def L329 : List (Nat × Instr × Nat × Nat) := [(0, .bipush 64, 2, 0), (2, .bipush 8, 4, 0), (4, .iload_n 2, 5, 0), (5, .ishl, 6, 0), (6, .isub, 7, 0), (7, .istore_n 3, 8, 0), (8, .lload_n 0, 9, 0), (9, .iload_n 3, 10, 0), (10, .lshl, 11, 0), (11, .iload_n 3, 12, 0), (12, .lshr, 13, 0), (13, .lreturn, 14, 0)]
set_option maxRecDepth 100000 in
theorem L329_ok : L329.all (dck 329) = true := by decide +kernel
theorem d329 {j pc nx tg : Nat} {ins : Instr} (hj : L329[j]? = some (pc, ins, nx, tg)) : dcd 329 pc ins nx tg := dcl_ok L329_ok hj
def v329 (M : dsMem) (x0 x2 : Int) : Int := (dsLsr (dsLsl x0 (64 - (dsShl 8 x2))) (64 - (dsShl 8 x2)))
set_option maxRecDepth 100000 in
set_option maxHeartbeats 4000000 in
theorem fx329 {x0 x2 : Int} {M : dsMem} {Q : bQT} (s1 : -2147483648 ≤ (64 - (dsShl 8 x2)) ∧ (64 - (dsShl 8 x2)) < 2147483648 := by intros; omega) (k : Q [uJ (v329 M x0 x2)] M) :
    bB 329 0 [uJ x0, uX 0, uI x2, uX 0] [] M Q := by
  unfold v329 at k
  refine b_bipush (d329 (j := 0) rfl) (by decide) ?_
  refine b_bipush (d329 (j := 1) rfl) (by decide) ?_
  refine b_iload_n (d329 (j := 2) rfl) rfl ?_
  refine b_ishl (d329 (j := 3) rfl) ?_
  refine b_isub (d329 (j := 4) rfl) rfl rfl ?_
  refine b_stk [uI (64 - (dsShl 8 x2))] (by rw [dsw_r s1]) ?_
  refine b_istore_n [uJ x0, uX 0, uI x2, uI (64 - (dsShl 8 x2))] (d329 (j := 5) rfl) (by decide) rfl ?_
  refine b_lload_n (d329 (j := 6) rfl) rfl ?_
  refine b_iload_n (d329 (j := 7) rfl) rfl ?_
  refine b_lshl (d329 (j := 8) rfl) ?_
  refine b_iload_n (d329 (j := 9) rfl) rfl ?_
  refine b_lshr (d329 (j := 10) rfl) ?_
  exact b_lret (d329 (j := 11) rfl) rfl k
def L296 : List (Nat × Instr × Nat × Nat) := [(0, .iconst 0, 1, 0), (1, .istore_n 2, 2, 0), (2, .iconst 0, 3, 0), (3, .istore_n 3, 4, 0), (4, .iload_n 3, 5, 0), (5, .bipush 60, 7, 0), (7, .if_icmp .gt 63, 10, 70), (10, .iconst 0, 11, 0), (11, .istore 4, 13, 0), (13, .iconst 0, 14, 0), (14, .istore 5, 16, 0), (16, .iload 5, 18, 0), (18, .aload_n 0, 19, 0), (19, .getfield 429, 22, 0), (22, .if_icmp .ge 35, 25, 57), (25, .iload 4, 27, 0), (27, .aload_n 0, 28, 0), (28, .getfield 88, 31, 0), (31, .bipush 13, 33, 0), (33, .iload 5, 35, 0), (35, .imul, 36, 0), (36, .iload_n 1, 37, 0), (37, .iadd, 38, 0), (38, .iaload, 39, 0), (39, .iload_n 3, 40, 0), (40, .if_icmp .ne 7, 43, 47), (43, .iconst 1, 44, 0), (44, .goto 4, 47, 48), (47, .iconst 0, 48, 0), (48, .iadd, 49, 0), (49, .istore 4, 51, 0), (51, .iinc 5 1, 54, 0), (54, .goto (-38), 57, 16), (57, .iload_n 2, 58, 0), (58, .iload 4, 60, 0), (60, .invokestatic 313, 63, 0), (63, .istore_n 2, 64, 0), (64, .iinc 3 1, 67, 0), (67, .goto (-63), 70, 4), (70, .iload_n 2, 71, 0), (71, .ireturn, 72, 0)]
set_option maxRecDepth 100000 in
theorem L296_ok : L296.all (dck 296) = true := by decide +kernel
theorem d296 {j pc nx tg : Nat} {ins : Instr} (hj : L296[j]? = some (pc, ins, nx, tg)) : dcd 296 pc ins nx tg := dcl_ok L296_ok hj
def v296 (M : dsMem) (x1 : Int) : Int := (dsIter (fun (i296_1 : Int) (a296_1 : Int) => (if a296_1 < (dsIter (fun (i296_2 : Int) (a296_2 : Int) => (if (M 109 ((13 * i296_2) + x1)) = i296_1 then (dsw ((a296_2 + 1))) else (dsw ((a296_2 + 0))))) 0 (M 84 43) 0) then (dsIter (fun (i296_2 : Int) (a296_2 : Int) => (if (M 109 ((13 * i296_2) + x1)) = i296_1 then (dsw ((a296_2 + 1))) else (dsw ((a296_2 + 0))))) 0 (M 84 43) 0) else a296_1)) 0 (60 + 1) 0)
set_option maxRecDepth 100000 in
set_option maxHeartbeats 4000000 in
theorem fx296 {x1 : Int} {M : dsMem} {Q : bQT} (s1 : ∀ i296_1 : Int, ∀ a296_1 : Int, 0 ≤ i296_1 → i296_1 < (60 + 1) → ∀ i296_2 : Int, ∀ a296_2 : Int, 0 ≤ i296_2 → i296_2 < (M 84 43) → 0 ≤ ((13 * i296_2) + x1) ∧ ((13 * i296_2) + x1) < 780 := by intros; omega) (s2 : ∀ i296_1 : Int, ∀ a296_1 : Int, 0 ≤ i296_1 → i296_1 < (60 + 1) → ∀ i296_2 : Int, ∀ a296_2 : Int, 0 ≤ i296_2 → i296_2 < (M 84 43) → -2147483648 ≤ i296_2 + 1 ∧ i296_2 + 1 < 2147483648 := by intros; omega) (s3 : ∀ i296_1 : Int, ∀ a296_1 : Int, 0 ≤ i296_1 → i296_1 < (60 + 1) → -2147483648 ≤ i296_1 + 1 ∧ i296_1 + 1 < 2147483648 := by intros; omega) (k : Q [uI (v296 M x1)] M) :
    bB 296 0 [uR 11 84, uI x1, uX 0, uX 0, uX 0, uX 0] [] M Q := by
  unfold v296 at k
  refine b_iconst (d296 (j := 0) rfl) (by decide) ?_
  refine b_istore_n [uR 11 84, uI x1, uI 0, uX 0, uX 0, uX 0] (d296 (j := 1) rfl) (by decide) rfl ?_
  refine b_iconst (d296 (j := 2) rfl) (by decide) ?_
  refine b_istore_n [uR 11 84, uI x1, uI 0, uI 0, uX 0, uX 0] (d296 (j := 3) rfl) (by decide) rfl ?_
  refine b_for (fun (i296_1 : Int) (a296_1 : Int) => [uR 11 84, uI x1, uI a296_1, uI i296_1, uX 0, uX 0]) (fun (i296_1 : Int) (a296_1 : Int) => (if a296_1 < (dsIter (fun (i296_2 : Int) (a296_2 : Int) => (if (M 109 ((13 * i296_2) + x1)) = i296_1 then (dsw ((a296_2 + 1))) else (dsw ((a296_2 + 0))))) 0 (M 84 43) 0) then (dsIter (fun (i296_2 : Int) (a296_2 : Int) => (if (M 109 ((13 * i296_2) + x1)) = i296_1 then (dsw ((a296_2 + 1))) else (dsw ((a296_2 + 0))))) 0 (M 84 43) 0) else a296_1)) 0 (60 + 1) 0 (fun i296_1 a296_1 h296_1l h296_1r hk296_1 => ?_) (fun i296_1 h296_1l h296_1r => ?_)
  ·
    refine b_iload_n (d296 (j := 4) rfl) rfl ?_
    refine b_bipush (d296 (j := 5) rfl) (by decide) ?_
    refine b_icmp_gt (d296 (j := 6) rfl) (fun c1 => ?_) (fun c1 => ?_)
    · exfalso; omega
    ·
      refine b_iconst (d296 (j := 7) rfl) (by decide) ?_
      refine b_istore [uR 11 84, uI x1, uI a296_1, uI i296_1, uI 0, uX 0] (d296 (j := 8) rfl) (by decide) rfl ?_
      refine b_iconst (d296 (j := 9) rfl) (by decide) ?_
      refine b_istore [uR 11 84, uI x1, uI a296_1, uI i296_1, uI 0, uI 0] (d296 (j := 10) rfl) (by decide) rfl ?_
      refine b_for (fun (i296_2 : Int) (a296_2 : Int) => [uR 11 84, uI x1, uI a296_1, uI i296_1, uI a296_2, uI i296_2]) (fun (i296_2 : Int) (a296_2 : Int) => (if (M 109 ((13 * i296_2) + x1)) = i296_1 then (dsw ((a296_2 + 1))) else (dsw ((a296_2 + 0))))) 0 (M 84 43) 0 (fun i296_2 a296_2 h296_2l h296_2r hk296_2 => ?_) (fun i296_2 h296_2l h296_2r => ?_)
      ·
        refine b_iload (d296 (j := 11) rfl) rfl ?_
        refine b_aload_n (d296 (j := 12) rfl) rfl ?_
        refine b_getI (d296 (j := 13) rfl) rfl rfl rfl rfl (Or.inl rfl) ?_
        refine b_stk [uI (M 84 43), uI i296_2] rfl ?_
        refine b_icmp_ge (d296 (j := 14) rfl) (fun c2 => ?_) (fun c2 => ?_)
        · exfalso; omega
        ·
          refine b_iload (d296 (j := 15) rfl) rfl ?_
          refine b_aload_n (d296 (j := 16) rfl) rfl ?_
          refine b_getR (d296 (j := 17) rfl) rfl rfl rfl rfl ?_
          refine b_stk [uR 31 109, uI a296_2] rfl ?_
          refine b_bipush (d296 (j := 18) rfl) (by decide) ?_
          refine b_iload (d296 (j := 19) rfl) rfl ?_
          refine b_imul (d296 (j := 20) rfl) rfl rfl ?_
          refine b_iload_n (d296 (j := 21) rfl) rfl ?_
          refine b_iadd (d296 (j := 22) rfl) (dsw_dsw _) rfl ?_
          refine b_stk [uI ((13 * i296_2) + x1), uR 31 109, uI a296_2] (by rw [dsw_b (s1 i296_1 a296_1 h296_1l h296_1r i296_2 a296_2 h296_2l h296_2r) (by decide)]) ?_
          refine b_iaload (d296 (j := 23) rfl) rfl (s1 i296_1 a296_1 h296_1l h296_1r i296_2 a296_2 h296_2l h296_2r) ?_
          refine b_iload_n (d296 (j := 24) rfl) rfl ?_
          refine b_icmp_ne (d296 (j := 25) rfl) (fun c3 => ?_) (fun c3 => ?_)
          ·
            rw [if_neg c3] at hk296_2
            refine b_iconst (d296 (j := 28) rfl) (by decide) ?_
            refine b_iadd (d296 (j := 29) rfl) rfl rfl ?_
            refine b_istore [uR 11 84, uI x1, uI a296_1, uI i296_1, uI (dsw ((a296_2 + 0))), uI i296_2] (d296 (j := 30) rfl) (by decide) rfl ?_
            refine b_iinc [uR 11 84, uI x1, uI a296_1, uI i296_1, uI (dsw ((a296_2 + 0))), uI (i296_2 + 1)] (d296 (j := 31) rfl) rfl (by decide) (s2 i296_1 a296_1 h296_1l h296_1r i296_2 a296_2 h296_2l h296_2r) rfl ?_
            refine b_goto (d296 (j := 32) rfl) ?_
            exact hk296_2
          ·
            rw [if_pos c3] at hk296_2
            refine b_iconst (d296 (j := 26) rfl) (by decide) ?_
            refine b_goto (d296 (j := 27) rfl) ?_
            refine b_iadd (d296 (j := 29) rfl) rfl rfl ?_
            refine b_istore [uR 11 84, uI x1, uI a296_1, uI i296_1, uI (dsw ((a296_2 + 1))), uI i296_2] (d296 (j := 30) rfl) (by decide) rfl ?_
            refine b_iinc [uR 11 84, uI x1, uI a296_1, uI i296_1, uI (dsw ((a296_2 + 1))), uI (i296_2 + 1)] (d296 (j := 31) rfl) rfl (by decide) (s2 i296_1 a296_1 h296_1l h296_1r i296_2 a296_2 h296_2l h296_2r) rfl ?_
            refine b_goto (d296 (j := 32) rfl) ?_
            exact hk296_2
      ·
        refine b_iload (d296 (j := 11) rfl) rfl ?_
        refine b_aload_n (d296 (j := 12) rfl) rfl ?_
        refine b_getI (d296 (j := 13) rfl) rfl rfl rfl rfl (Or.inl rfl) ?_
        refine b_stk [uI (M 84 43), uI i296_2] rfl ?_
        refine b_icmp_ge (d296 (j := 14) rfl) (fun c4 => ?_) (fun c4 => ?_)
        rotate_left
        · exfalso; omega
        ·
          refine b_iload_n (d296 (j := 33) rfl) rfl ?_
          refine b_iload (d296 (j := 34) rfl) rfl ?_
          refine b_max (d296 (j := 35) rfl) rfl ⟨by decide, Nat.le_of_ble_eq_true rfl⟩ ?_
          refine b_istore_n [uR 11 84, uI x1, uI (if a296_1 < (dsIter (fun (i296_2 : Int) (a296_2 : Int) => (if (M 109 ((13 * i296_2) + x1)) = i296_1 then (dsw ((a296_2 + 1))) else (dsw ((a296_2 + 0))))) 0 (M 84 43) 0) then (dsIter (fun (i296_2 : Int) (a296_2 : Int) => (if (M 109 ((13 * i296_2) + x1)) = i296_1 then (dsw ((a296_2 + 1))) else (dsw ((a296_2 + 0))))) 0 (M 84 43) 0) else a296_1), uI i296_1, uI (dsIter (fun (i296_2 : Int) (a296_2 : Int) => (if (M 109 ((13 * i296_2) + x1)) = i296_1 then (dsw ((a296_2 + 1))) else (dsw ((a296_2 + 0))))) 0 (M 84 43) 0), uI i296_2] (d296 (j := 36) rfl) (by decide) rfl ?_
          refine b_iinc [uR 11 84, uI x1, uI (if a296_1 < (dsIter (fun (i296_2 : Int) (a296_2 : Int) => (if (M 109 ((13 * i296_2) + x1)) = i296_1 then (dsw ((a296_2 + 1))) else (dsw ((a296_2 + 0))))) 0 (M 84 43) 0) then (dsIter (fun (i296_2 : Int) (a296_2 : Int) => (if (M 109 ((13 * i296_2) + x1)) = i296_1 then (dsw ((a296_2 + 1))) else (dsw ((a296_2 + 0))))) 0 (M 84 43) 0) else a296_1), uI (i296_1 + 1), uI (dsIter (fun (i296_2 : Int) (a296_2 : Int) => (if (M 109 ((13 * i296_2) + x1)) = i296_1 then (dsw ((a296_2 + 1))) else (dsw ((a296_2 + 0))))) 0 (M 84 43) 0), uI i296_2] (d296 (j := 37) rfl) rfl (by decide) (s3 i296_1 a296_1 h296_1l h296_1r) rfl ?_
          refine b_goto (d296 (j := 38) rfl) ?_
          exact bB_le _ (bLe_s (bLe_s (bLe_s (bLe_s (bLe_x (bLe_x bLe_nil)))))) hk296_1
  ·
    refine b_iload_n (d296 (j := 4) rfl) rfl ?_
    refine b_bipush (d296 (j := 5) rfl) (by decide) ?_
    refine b_icmp_gt (d296 (j := 6) rfl) (fun c5 => ?_) (fun c5 => ?_)
    rotate_left
    · exfalso; omega
    ·
      refine b_iload_n (d296 (j := 39) rfl) rfl ?_
      exact b_iret (d296 (j := 40) rfl) rfl k
def L174 : List (Nat × Instr × Nat × Nat) := [(0, .iload_n 1, 1, 0), (1, .i2l, 2, 0), (2, .lstore_n 2, 3, 0), (3, .iconst 0, 4, 0), (4, .istore 4, 6, 0), (6, .iconst 0, 7, 0), (7, .istore 5, 9, 0), (9, .iload 5, 11, 0), (11, .aload_n 0, 12, 0), (12, .getfield 23, 15, 0), (15, .getfield 126, 18, 0), (18, .getfield 130, 21, 0), (21, .if_icmp .ge 53, 24, 74), (24, .ldc2_w 454, 27, 0), (27, .lload_n 2, 28, 0), (28, .lmul, 29, 0), (29, .ldc2_w 456, 32, 0), (32, .ladd, 33, 0), (33, .ldc2_w 458, 36, 0), (36, .lrem, 37, 0), (37, .lstore_n 2, 38, 0), (38, .lload_n 2, 39, 0), (39, .ldc2_w 460, 42, 0), (42, .ldiv, 43, 0), (43, .ldc2_w 445, 46, 0), (46, .lrem, 47, 0), (47, .aload_n 0, 48, 0), (48, .getfield 23, 51, 0), (51, .getfield 365, 54, 0), (54, .i2l, 55, 0), (55, .lcmp, 56, 0), (56, .ifCond .ge 12, 59, 68), (59, .iload 4, 61, 0), (61, .iconst 1, 62, 0), (62, .iload 5, 64, 0), (64, .ishl, 65, 0), (65, .ior, 66, 0), (66, .istore 4, 68, 0), (68, .iinc 5 1, 71, 0), (71, .goto (-62), 74, 9), (74, .iload 4, 76, 0), (76, .ireturn, 77, 0)]
set_option maxRecDepth 100000 in
theorem L174_ok : L174.all (dck 174) = true := by decide +kernel
theorem d174 {j pc nx tg : Nat} {ins : Instr} (hj : L174[j]? = some (pc, ins, nx, tg)) : dcd 174 pc ins nx tg := dcl_ok L174_ok hj
def v174 (M : dsMem) (x1 : Int) : Int := (dsIter (fun (i174_1 : Int) (a174_1 : Int × Int) => (if (M 24 3) ≤ ((((dsw64 (((1103515245 * (a174_1.1)) + 12345))) % 2147483648) / 65536) % 10) then (((dsw64 (((1103515245 * (a174_1.1)) + 12345))) % 2147483648), a174_1.2) else (((dsw64 (((1103515245 * (a174_1.1)) + 12345))) % 2147483648), (dsOr (a174_1.2) (dsShl 1 i174_1))))) 0 (M 30 0) (x1, 0)).2
set_option maxRecDepth 100000 in
set_option maxHeartbeats 4000000 in
theorem fx174 {x1 : Int} {M : dsMem} {Q : bQT} (s1 : ∀ i174_1 : Int, ∀ a174_1 : Int × Int, 0 ≤ i174_1 → i174_1 < (M 30 0) → 0 ≤ (dsw64 (((1103515245 * (a174_1.1)) + 12345))) ∧ (0 : Int) < 2147483648 := by intros; omega) (s2 : ∀ i174_1 : Int, ∀ a174_1 : Int × Int, 0 ≤ i174_1 → i174_1 < (M 30 0) → (0 ≤ ((dsw64 (((1103515245 * (a174_1.1)) + 12345))) % 2147483648) ∧ ((dsw64 (((1103515245 * (a174_1.1)) + 12345))) % 2147483648) < 9223372036854775808) ∧ (0 : Int) < 65536 := by intros; omega) (s3 : ∀ i174_1 : Int, ∀ a174_1 : Int × Int, 0 ≤ i174_1 → i174_1 < (M 30 0) → 0 ≤ (((dsw64 (((1103515245 * (a174_1.1)) + 12345))) % 2147483648) / 65536) ∧ (0 : Int) < 10 := by intros; omega) (s4 : ∀ i174_1 : Int, ∀ a174_1 : Int × Int, 0 ≤ i174_1 → i174_1 < (M 30 0) → -2147483648 ≤ i174_1 + 1 ∧ i174_1 + 1 < 2147483648 := by intros; omega) (k : Q [uI (v174 M x1)] M) :
    bB 174 0 [uR 10 0, uI x1, uX 0, uX 0, uX 0, uX 0] [] M Q := by
  unfold v174 at k
  refine b_iload_n (d174 (j := 0) rfl) rfl ?_
  refine b_i2l (d174 (j := 1) rfl) ?_
  refine b_lstore_n [uR 10 0, uI x1, uJ x1, uX 0, uX 0, uX 0] (d174 (j := 2) rfl) (by decide) rfl ?_
  refine b_iconst (d174 (j := 3) rfl) (by decide) ?_
  refine b_istore [uR 10 0, uI x1, uJ x1, uX 0, uI 0, uX 0] (d174 (j := 4) rfl) (by decide) rfl ?_
  refine b_iconst (d174 (j := 5) rfl) (by decide) ?_
  refine b_istore [uR 10 0, uI x1, uJ x1, uX 0, uI 0, uI 0] (d174 (j := 6) rfl) (by decide) rfl ?_
  refine bB_le _ (bLe_s (bLe_x (bLe_s (bLe_s (bLe_s (bLe_s bLe_nil)))))) ?_
  refine b_for (fun (i174_1 : Int) (a174_1 : Int × Int) => [uR 10 0, uX 0, uJ (a174_1.1), uX 0, uI (a174_1.2), uI i174_1]) (fun (i174_1 : Int) (a174_1 : Int × Int) => (if (M 24 3) ≤ ((((dsw64 (((1103515245 * (a174_1.1)) + 12345))) % 2147483648) / 65536) % 10) then (((dsw64 (((1103515245 * (a174_1.1)) + 12345))) % 2147483648), a174_1.2) else (((dsw64 (((1103515245 * (a174_1.1)) + 12345))) % 2147483648), (dsOr (a174_1.2) (dsShl 1 i174_1))))) 0 (M 30 0) (x1, 0) (fun i174_1 a174_1 h174_1l h174_1r hk174_1 => ?_) (fun i174_1 h174_1l h174_1r => ?_)
  ·
    refine b_iload (d174 (j := 7) rfl) rfl ?_
    refine b_aload_n (d174 (j := 8) rfl) rfl ?_
    refine b_getR (d174 (j := 9) rfl) rfl rfl rfl rfl ?_
    refine b_stk [uR 4 24, uI i174_1] rfl ?_
    refine b_getR (d174 (j := 10) rfl) rfl rfl rfl rfl ?_
    refine b_stk [uR 1 30, uI i174_1] rfl ?_
    refine b_getI (d174 (j := 11) rfl) rfl rfl rfl rfl (Or.inl rfl) ?_
    refine b_stk [uI (M 30 0), uI i174_1] rfl ?_
    refine b_icmp_ge (d174 (j := 12) rfl) (fun c1 => ?_) (fun c1 => ?_)
    · exfalso; omega
    ·
      refine b_ldc2 (d174 (j := 13) rfl) rfl ?_
      refine b_lload_n (d174 (j := 14) rfl) rfl ?_
      refine b_lmul (d174 (j := 15) rfl) rfl rfl ?_
      refine b_ldc2 (d174 (j := 16) rfl) rfl ?_
      refine b_ladd (d174 (j := 17) rfl) (dsw64_dsw _) rfl ?_
      refine b_ldc2 (d174 (j := 18) rfl) rfl ?_
      refine b_lremP (d174 (j := 19) rfl) (s1 i174_1 a174_1 h174_1l h174_1r) ?_
      refine b_lstore_n [uR 10 0, uX 0, uJ ((dsw64 (((1103515245 * (a174_1.1)) + 12345))) % 2147483648), uX 0, uI (a174_1.2), uI i174_1] (d174 (j := 20) rfl) (by decide) rfl ?_
      refine b_lload_n (d174 (j := 21) rfl) rfl ?_
      refine b_ldc2 (d174 (j := 22) rfl) rfl ?_
      refine b_ldivP (d174 (j := 23) rfl) (s2 i174_1 a174_1 h174_1l h174_1r) ?_
      refine b_ldc2 (d174 (j := 24) rfl) rfl ?_
      refine b_lremP (d174 (j := 25) rfl) (s3 i174_1 a174_1 h174_1l h174_1r) ?_
      refine b_aload_n (d174 (j := 26) rfl) rfl ?_
      refine b_getR (d174 (j := 27) rfl) rfl rfl rfl rfl ?_
      refine b_stk [uR 4 24, uJ ((((dsw64 (((1103515245 * (a174_1.1)) + 12345))) % 2147483648) / 65536) % 10)] rfl ?_
      refine b_getI (d174 (j := 28) rfl) rfl rfl rfl rfl (Or.inl rfl) ?_
      refine b_stk [uI (M 24 3), uJ ((((dsw64 (((1103515245 * (a174_1.1)) + 12345))) % 2147483648) / 65536) % 10)] rfl ?_
      refine b_i2l (d174 (j := 29) rfl) ?_
      refine b_lcmp (d174 (j := 30) rfl) ?_
      refine b_lif_ge (d174 (j := 31) rfl) (fun c2 => ?_) (fun c2 => ?_)
      ·
        rw [if_pos c2] at hk174_1
        refine b_iinc [uR 10 0, uX 0, uJ ((dsw64 (((1103515245 * (a174_1.1)) + 12345))) % 2147483648), uX 0, uI (a174_1.2), uI (i174_1 + 1)] (d174 (j := 38) rfl) rfl (by decide) (s4 i174_1 a174_1 h174_1l h174_1r) rfl ?_
        refine b_goto (d174 (j := 39) rfl) ?_
        exact hk174_1
      ·
        rw [if_neg c2] at hk174_1
        refine b_iload (d174 (j := 32) rfl) rfl ?_
        refine b_iconst (d174 (j := 33) rfl) (by decide) ?_
        refine b_iload (d174 (j := 34) rfl) rfl ?_
        refine b_ishl (d174 (j := 35) rfl) ?_
        refine b_ior (d174 (j := 36) rfl) ?_
        refine b_istore [uR 10 0, uX 0, uJ ((dsw64 (((1103515245 * (a174_1.1)) + 12345))) % 2147483648), uX 0, uI (dsOr (a174_1.2) (dsShl 1 i174_1)), uI i174_1] (d174 (j := 37) rfl) (by decide) rfl ?_
        refine b_iinc [uR 10 0, uX 0, uJ ((dsw64 (((1103515245 * (a174_1.1)) + 12345))) % 2147483648), uX 0, uI (dsOr (a174_1.2) (dsShl 1 i174_1)), uI (i174_1 + 1)] (d174 (j := 38) rfl) rfl (by decide) (s4 i174_1 a174_1 h174_1l h174_1r) rfl ?_
        refine b_goto (d174 (j := 39) rfl) ?_
        exact hk174_1
  ·
    refine b_iload (d174 (j := 7) rfl) rfl ?_
    refine b_aload_n (d174 (j := 8) rfl) rfl ?_
    refine b_getR (d174 (j := 9) rfl) rfl rfl rfl rfl ?_
    refine b_stk [uR 4 24, uI i174_1] rfl ?_
    refine b_getR (d174 (j := 10) rfl) rfl rfl rfl rfl ?_
    refine b_stk [uR 1 30, uI i174_1] rfl ?_
    refine b_getI (d174 (j := 11) rfl) rfl rfl rfl rfl (Or.inl rfl) ?_
    refine b_stk [uI (M 30 0), uI i174_1] rfl ?_
    refine b_icmp_ge (d174 (j := 12) rfl) (fun c3 => ?_) (fun c3 => ?_)
    rotate_left
    · exfalso; omega
    ·
      refine b_iload (d174 (j := 40) rfl) rfl ?_
      exact b_iret (d174 (j := 41) rfl) rfl k
def L15 : List (Nat × Instr × Nat × Nat) := [(0, .aload_n 0, 1, 0), (1, .getfield 58, 4, 0), (4, .iconst 2, 5, 0), (5, .if_icmp .eq 32, 8, 37), (8, .aload_n 0, 9, 0), (9, .getfield 58, 12, 0), (12, .iconst 1, 13, 0), (13, .if_icmp .ne 28, 16, 41), (16, .aload_n 0, 17, 0), (17, .getfield 62, 20, 0), (20, .getfield 168, 23, 0), (23, .iload_n 1, 24, 0), (24, .iaload, 25, 0), (25, .aload_n 0, 26, 0), (26, .getfield 62, 29, 0), (29, .getfield 168, 32, 0), (32, .iload_n 2, 33, 0), (33, .iaload, 34, 0), (34, .if_icmp .ne 7, 37, 41), (37, .iconst 1, 38, 0), (38, .goto 4, 41, 42), (41, .iconst 0, 42, 0), (42, .ireturn, 43, 0)]
set_option maxRecDepth 100000 in
theorem L15_ok : L15.all (dck 15) = true := by decide +kernel
theorem d15 {j pc nx tg : Nat} {ins : Instr} (hj : L15[j]? = some (pc, ins, nx, tg)) : dcd 15 pc ins nx tg := dcl_ok L15_ok hj
set_option maxRecDepth 100000 in
set_option maxHeartbeats 4000000 in
theorem fx15 {x0 x1 x2 : Int} {M : dsMem} {Q : bQT} (s1 : (¬ (M x0 14) = 2) → ((M x0 14) = 1) → 0 ≤ x1 ∧ x1 < 6 := by intros; omega) (s2 : (¬ (M x0 14) = 2) → ((M x0 14) = 1) → 0 ≤ x2 ∧ x2 < 6 := by intros; omega) (k : Q [uI (if (((M x0 14) = 2) ∨ (((M x0 14) = 1) ∧ ((M 29 x1) = (M 29 x2)))) then 1 else 0)] M) :
    bB 15 0 [uR 5 x0, uI x1, uI x2] [] M Q := by
  refine b_aload_n (d15 (j := 0) rfl) rfl ?_
  refine b_getI (d15 (j := 1) rfl) rfl rfl rfl rfl (Or.inl rfl) ?_
  refine b_stk [uI (M x0 14)] rfl ?_
  refine b_iconst (d15 (j := 2) rfl) (by decide) ?_
  refine b_icmp_eq (d15 (j := 3) rfl) (fun c1 => ?_) (fun c1 => ?_)
  ·
    refine b_iconst (d15 (j := 19) rfl) (by decide) ?_
    refine b_goto (d15 (j := 20) rfl) ?_
    exact b_zret (d15 (j := 22) rfl) rfl (by decide) (by rw [if_pos (by omega)] at k; exact k)
  ·
    refine b_aload_n (d15 (j := 4) rfl) rfl ?_
    refine b_getI (d15 (j := 5) rfl) rfl rfl rfl rfl (Or.inl rfl) ?_
    refine b_stk [uI (M x0 14)] rfl ?_
    refine b_iconst (d15 (j := 6) rfl) (by decide) ?_
    refine b_icmp_ne (d15 (j := 7) rfl) (fun c2 => ?_) (fun c2 => ?_)
    ·
      refine b_iconst (d15 (j := 21) rfl) (by decide) ?_
      exact b_zret (d15 (j := 22) rfl) rfl (by decide) (by rw [if_neg (by omega)] at k; exact k)
    ·
      refine b_aload_n (d15 (j := 8) rfl) rfl ?_
      refine b_getRA (d15 (j := 9) rfl) rfl rfl rfl rfl ?_
      refine b_getR (d15 (j := 10) rfl) rfl rfl rfl rfl ?_
      refine b_stk [uR 21 29] rfl ?_
      refine b_iload_n (d15 (j := 11) rfl) rfl ?_
      refine b_iaload (d15 (j := 12) rfl) rfl (s1 c1 c2) ?_
      refine b_aload_n (d15 (j := 13) rfl) rfl ?_
      refine b_getRA (d15 (j := 14) rfl) rfl rfl rfl rfl ?_
      refine b_getR (d15 (j := 15) rfl) rfl rfl rfl rfl ?_
      refine b_stk [uR 21 29, uI (M 29 x1)] rfl ?_
      refine b_iload_n (d15 (j := 16) rfl) rfl ?_
      refine b_iaload (d15 (j := 17) rfl) rfl (s2 c1 c2) ?_
      refine b_icmp_ne (d15 (j := 18) rfl) (fun c3 => ?_) (fun c3 => ?_)
      ·
        refine b_iconst (d15 (j := 21) rfl) (by decide) ?_
        exact b_zret (d15 (j := 22) rfl) rfl (by decide) (by rw [if_neg (by omega)] at k; exact k)
      ·
        refine b_iconst (d15 (j := 19) rfl) (by decide) ?_
        refine b_goto (d15 (j := 20) rfl) ?_
        exact b_zret (d15 (j := 22) rfl) rfl (by decide) (by rw [if_pos (by omega)] at k; exact k)
def L42 : List (Nat × Instr × Nat × Nat) := [(0, .iload_n 1, 1, 0), (1, .ifCond .lt 29, 4, 30), (4, .iload_n 2, 5, 0), (5, .ifCond .lt 25, 8, 30), (8, .iload_n 1, 9, 0), (9, .aload_n 0, 10, 0), (10, .getfield 15, 13, 0), (13, .if_icmp .gt 17, 16, 30), (16, .iload_n 2, 17, 0), (17, .aload_n 0, 18, 0), (18, .getfield 15, 21, 0), (21, .iload_n 1, 22, 0), (22, .isub, 23, 0), (23, .if_icmp .gt 7, 26, 30), (26, .iconst 1, 27, 0), (27, .goto 4, 30, 31), (30, .iconst 0, 31, 0), (31, .ireturn, 32, 0)]
set_option maxRecDepth 100000 in
theorem L42_ok : L42.all (dck 42) = true := by decide +kernel
theorem d42 {j pc nx tg : Nat} {ins : Instr} (hj : L42[j]? = some (pc, ins, nx, tg)) : dcd 42 pc ins nx tg := dcl_ok L42_ok hj
set_option maxRecDepth 100000 in
set_option maxHeartbeats 4000000 in
theorem fx42 {x0 x1 x2 : Int} {M : dsMem} {Q : bQT} (s1 : (¬ x1 < 0) → (¬ x2 < 0) → (¬ (M x0 1) < x1) → -2147483648 ≤ ((M x0 1) - x1) ∧ ((M x0 1) - x1) < 2147483648 := by intros; omega) (k : Q [uI (if ((¬ (x1 < 0)) ∧ ((¬ (x2 < 0)) ∧ ((¬ ((M x0 1) < x1)) ∧ (¬ (((M x0 1) - x1) < x2))))) then 1 else 0)] M) :
    bB 42 0 [uR 9 x0, uI x1, uI x2] [] M Q := by
  refine b_iload_n (d42 (j := 0) rfl) rfl ?_
  refine b_if_lt (d42 (j := 1) rfl) (fun c1 => ?_) (fun c1 => ?_)
  ·
    refine b_iconst (d42 (j := 16) rfl) (by decide) ?_
    exact b_zret (d42 (j := 17) rfl) rfl (by decide) (by rw [if_neg (by omega)] at k; exact k)
  ·
    refine b_iload_n (d42 (j := 2) rfl) rfl ?_
    refine b_if_lt (d42 (j := 3) rfl) (fun c2 => ?_) (fun c2 => ?_)
    ·
      refine b_iconst (d42 (j := 16) rfl) (by decide) ?_
      exact b_zret (d42 (j := 17) rfl) rfl (by decide) (by rw [if_neg (by omega)] at k; exact k)
    ·
      refine b_iload_n (d42 (j := 4) rfl) rfl ?_
      refine b_aload_n (d42 (j := 5) rfl) rfl ?_
      refine b_getI (d42 (j := 6) rfl) rfl rfl rfl rfl (Or.inl rfl) ?_
      refine b_stk [uI (M x0 1), uI x1] rfl ?_
      refine b_icmp_gt (d42 (j := 7) rfl) (fun c3 => ?_) (fun c3 => ?_)
      ·
        refine b_iconst (d42 (j := 16) rfl) (by decide) ?_
        exact b_zret (d42 (j := 17) rfl) rfl (by decide) (by rw [if_neg (by omega)] at k; exact k)
      ·
        refine b_iload_n (d42 (j := 8) rfl) rfl ?_
        refine b_aload_n (d42 (j := 9) rfl) rfl ?_
        refine b_getI (d42 (j := 10) rfl) rfl rfl rfl rfl (Or.inl rfl) ?_
        refine b_stk [uI (M x0 1), uI x2] rfl ?_
        refine b_iload_n (d42 (j := 11) rfl) rfl ?_
        refine b_isub (d42 (j := 12) rfl) rfl rfl ?_
        refine b_stk [uI ((M x0 1) - x1), uI x2] (by rw [dsw_r (s1 c1 c2 c3)]) ?_
        refine b_icmp_gt (d42 (j := 13) rfl) (fun c4 => ?_) (fun c4 => ?_)
        ·
          refine b_iconst (d42 (j := 16) rfl) (by decide) ?_
          exact b_zret (d42 (j := 17) rfl) rfl (by decide) (by rw [if_neg (by omega)] at k; exact k)
        ·
          refine b_iconst (d42 (j := 14) rfl) (by decide) ?_
          refine b_goto (d42 (j := 15) rfl) ?_
          exact b_zret (d42 (j := 17) rfl) rfl (by decide) (by rw [if_pos (by omega)] at k; exact k)
def L169 : List (Nat × Instr × Nat × Nat) := [(0, .lload_n 1, 1, 0), (1, .lconst 0, 2, 0), (2, .lcmp, 3, 0), (3, .ifCond .lt 55, 6, 58), (6, .lload_n 1, 7, 0), (7, .aload_n 0, 8, 0), (8, .getfield 23, 11, 0), (11, .getfield 142, 14, 0), (14, .i2l, 15, 0), (15, .lcmp, 16, 0), (16, .ifCond .ge 42, 19, 58), (19, .lload_n 3, 20, 0), (20, .lconst 0, 21, 0), (21, .lcmp, 22, 0), (22, .ifCond .lt 36, 25, 58), (25, .lload_n 3, 26, 0), (26, .aload_n 0, 27, 0), (27, .getfield 23, 30, 0), (30, .getfield 186, 33, 0), (33, .i2l, 34, 0), (34, .lcmp, 35, 0), (35, .ifCond .gt 23, 38, 58), (38, .lload 5, 40, 0), (40, .lconst 0, 41, 0), (41, .lcmp, 42, 0), (42, .ifCond .lt 16, 45, 58), (45, .lload 5, 47, 0), (47, .ldc2_w 426, 50, 0), (50, .lcmp, 51, 0), (51, .ifCond .gt 7, 54, 58), (54, .iconst 1, 55, 0), (55, .goto 4, 58, 59), (58, .iconst 0, 59, 0), (59, .ireturn, 60, 0)]
set_option maxRecDepth 100000 in
theorem L169_ok : L169.all (dck 169) = true := by decide +kernel
theorem d169 {j pc nx tg : Nat} {ins : Instr} (hj : L169[j]? = some (pc, ins, nx, tg)) : dcd 169 pc ins nx tg := dcl_ok L169_ok hj
set_option maxRecDepth 100000 in
set_option maxHeartbeats 4000000 in
theorem fx169 {x1 x3 x5 : Int} {M : dsMem} {Q : bQT}  (k : Q [uI (if ((¬ (x1 < 0)) ∧ ((¬ ((M 24 5) ≤ x1)) ∧ ((¬ (x3 < 0)) ∧ ((¬ ((M 24 1) < x3)) ∧ ((¬ (x5 < 0)) ∧ (¬ (60 < x5))))))) then 1 else 0)] M) :
    bB 169 0 [uR 10 0, uJ x1, uX 0, uJ x3, uX 0, uJ x5, uX 0] [] M Q := by
  refine b_lload_n (d169 (j := 0) rfl) rfl ?_
  refine b_lconst (d169 (j := 1) rfl) ?_
  refine b_stk [uJ 0, uJ x1] rfl ?_
  refine b_lcmp (d169 (j := 2) rfl) ?_
  refine b_lif_lt (d169 (j := 3) rfl) (fun c1 => ?_) (fun c1 => ?_)
  ·
    refine b_iconst (d169 (j := 32) rfl) (by decide) ?_
    exact b_zret (d169 (j := 33) rfl) rfl (by decide) (by rw [if_neg (by omega)] at k; exact k)
  ·
    refine b_lload_n (d169 (j := 4) rfl) rfl ?_
    refine b_aload_n (d169 (j := 5) rfl) rfl ?_
    refine b_getR (d169 (j := 6) rfl) rfl rfl rfl rfl ?_
    refine b_stk [uR 4 24, uJ x1] rfl ?_
    refine b_getI (d169 (j := 7) rfl) rfl rfl rfl rfl (Or.inl rfl) ?_
    refine b_stk [uI (M 24 5), uJ x1] rfl ?_
    refine b_i2l (d169 (j := 8) rfl) ?_
    refine b_lcmp (d169 (j := 9) rfl) ?_
    refine b_lif_ge (d169 (j := 10) rfl) (fun c2 => ?_) (fun c2 => ?_)
    ·
      refine b_iconst (d169 (j := 32) rfl) (by decide) ?_
      exact b_zret (d169 (j := 33) rfl) rfl (by decide) (by rw [if_neg (by omega)] at k; exact k)
    ·
      refine b_lload_n (d169 (j := 11) rfl) rfl ?_
      refine b_lconst (d169 (j := 12) rfl) ?_
      refine b_stk [uJ 0, uJ x3] rfl ?_
      refine b_lcmp (d169 (j := 13) rfl) ?_
      refine b_lif_lt (d169 (j := 14) rfl) (fun c3 => ?_) (fun c3 => ?_)
      ·
        refine b_iconst (d169 (j := 32) rfl) (by decide) ?_
        exact b_zret (d169 (j := 33) rfl) rfl (by decide) (by rw [if_neg (by omega)] at k; exact k)
      ·
        refine b_lload_n (d169 (j := 15) rfl) rfl ?_
        refine b_aload_n (d169 (j := 16) rfl) rfl ?_
        refine b_getR (d169 (j := 17) rfl) rfl rfl rfl rfl ?_
        refine b_stk [uR 4 24, uJ x3] rfl ?_
        refine b_getI (d169 (j := 18) rfl) rfl rfl rfl rfl (Or.inl rfl) ?_
        refine b_stk [uI (M 24 1), uJ x3] rfl ?_
        refine b_i2l (d169 (j := 19) rfl) ?_
        refine b_lcmp (d169 (j := 20) rfl) ?_
        refine b_lif_gt (d169 (j := 21) rfl) (fun c4 => ?_) (fun c4 => ?_)
        ·
          refine b_iconst (d169 (j := 32) rfl) (by decide) ?_
          exact b_zret (d169 (j := 33) rfl) rfl (by decide) (by rw [if_neg (by omega)] at k; exact k)
        ·
          refine b_lload (d169 (j := 22) rfl) rfl ?_
          refine b_lconst (d169 (j := 23) rfl) ?_
          refine b_stk [uJ 0, uJ x5] rfl ?_
          refine b_lcmp (d169 (j := 24) rfl) ?_
          refine b_lif_lt (d169 (j := 25) rfl) (fun c5 => ?_) (fun c5 => ?_)
          ·
            refine b_iconst (d169 (j := 32) rfl) (by decide) ?_
            exact b_zret (d169 (j := 33) rfl) rfl (by decide) (by rw [if_neg (by omega)] at k; exact k)
          ·
            refine b_lload (d169 (j := 26) rfl) rfl ?_
            refine b_ldc2 (d169 (j := 27) rfl) rfl ?_
            refine b_lcmp (d169 (j := 28) rfl) ?_
            refine b_lif_gt (d169 (j := 29) rfl) (fun c6 => ?_) (fun c6 => ?_)
            ·
              refine b_iconst (d169 (j := 32) rfl) (by decide) ?_
              exact b_zret (d169 (j := 33) rfl) rfl (by decide) (by rw [if_neg (by omega)] at k; exact k)
            ·
              refine b_iconst (d169 (j := 30) rfl) (by decide) ?_
              refine b_goto (d169 (j := 31) rfl) ?_
              exact b_zret (d169 (j := 33) rfl) rfl (by decide) (by rw [if_pos (by omega)] at k; exact k)
