def L3 : List (Nat × Instr × Nat × Nat) := [(0, .aload_n 0, 1, 0), (1, .getfield 7, 4, 0), (4, .aload_n 0, 5, 0), (5, .getfield 19, 8, 0), (8, .arraylength, 9, 0), (9, .if_icmp .lt 7, 12, 16), (12, .iconst 1, 13, 0), (13, .goto 4, 16, 17), (16, .iconst 0, 17, 0), (17, .ireturn, 18, 0)]
set_option maxRecDepth 100000 in
theorem L3_ok : L3.all (dck 3) = true := by decide +kernel
theorem d3 {j pc nx tg : Nat} {ins : Instr} (hj : L3[j]? = some (pc, ins, nx, tg)) : dcd 3 pc ins nx tg := dcl_ok L3_ok hj
set_option maxRecDepth 100000 in
set_option maxHeartbeats 4000000 in
theorem fx3a {x0 : Int} {M : dsMem} {Q : bQT}  (k : Q [uI (if (¬ ((M x0 0) < 8)) then 1 else 0)] M) :
    bB 3 0 [uR 1 x0] [] M Q := by
  refine b_aload_n (d3 (j := 0) rfl) rfl ?_
  refine b_getI (d3 (j := 1) rfl) rfl rfl rfl rfl (Or.inl rfl) ?_
  refine b_stk [uI (M x0 0)] rfl ?_
  refine b_aload_n (d3 (j := 2) rfl) rfl ?_
  refine b_getR (d3 (j := 3) rfl) rfl rfl rfl rfl ?_
  refine b_alen (d3 (j := 4) rfl) rfl ?_
  refine b_stk [uI 8, uI (M x0 0)] rfl ?_
  refine b_icmp_lt (d3 (j := 5) rfl) (fun c1 => ?_) (fun c1 => ?_)
  ·
    refine b_iconst (d3 (j := 8) rfl) (by decide) ?_
    exact b_zret (d3 (j := 9) rfl) rfl (by decide) (by rw [if_neg (by omega)] at k; exact k)
  ·
    refine b_iconst (d3 (j := 6) rfl) (by decide) ?_
    refine b_goto (d3 (j := 7) rfl) ?_
    exact b_zret (d3 (j := 9) rfl) rfl (by decide) (by rw [if_pos (by omega)] at k; exact k)
set_option maxRecDepth 100000 in
set_option maxHeartbeats 4000000 in
theorem fx3b {x0 : Int} {M : dsMem} {Q : bQT}  (k : Q [uI (if (¬ ((M x0 0) < 6)) then 1 else 0)] M) :
    bB 3 0 [uR 2 x0] [] M Q := by
  refine b_aload_n (d3 (j := 0) rfl) rfl ?_
  refine b_getI (d3 (j := 1) rfl) rfl rfl rfl rfl (Or.inl rfl) ?_
  refine b_stk [uI (M x0 0)] rfl ?_
  refine b_aload_n (d3 (j := 2) rfl) rfl ?_
  refine b_getR (d3 (j := 3) rfl) rfl rfl rfl rfl ?_
  refine b_alen (d3 (j := 4) rfl) rfl ?_
  refine b_stk [uI 6, uI (M x0 0)] rfl ?_
  refine b_icmp_lt (d3 (j := 5) rfl) (fun c1 => ?_) (fun c1 => ?_)
  ·
    refine b_iconst (d3 (j := 8) rfl) (by decide) ?_
    exact b_zret (d3 (j := 9) rfl) rfl (by decide) (by rw [if_neg (by omega)] at k; exact k)
  ·
    refine b_iconst (d3 (j := 6) rfl) (by decide) ?_
    refine b_goto (d3 (j := 7) rfl) ?_
    exact b_zret (d3 (j := 9) rfl) rfl (by decide) (by rw [if_pos (by omega)] at k; exact k)
set_option maxRecDepth 100000 in
set_option maxHeartbeats 4000000 in
theorem fx3c {x0 : Int} {M : dsMem} {Q : bQT}  (k : Q [uI (if (¬ ((M x0 0) < 30)) then 1 else 0)] M) :
    bB 3 0 [uR 3 x0] [] M Q := by
  refine b_aload_n (d3 (j := 0) rfl) rfl ?_
  refine b_getI (d3 (j := 1) rfl) rfl rfl rfl rfl (Or.inl rfl) ?_
  refine b_stk [uI (M x0 0)] rfl ?_
  refine b_aload_n (d3 (j := 2) rfl) rfl ?_
  refine b_getR (d3 (j := 3) rfl) rfl rfl rfl rfl ?_
  refine b_alen (d3 (j := 4) rfl) rfl ?_
  refine b_stk [uI 30, uI (M x0 0)] rfl ?_
  refine b_icmp_lt (d3 (j := 5) rfl) (fun c1 => ?_) (fun c1 => ?_)
  ·
    refine b_iconst (d3 (j := 8) rfl) (by decide) ?_
    exact b_zret (d3 (j := 9) rfl) rfl (by decide) (by rw [if_neg (by omega)] at k; exact k)
  ·
    refine b_iconst (d3 (j := 6) rfl) (by decide) ?_
    refine b_goto (d3 (j := 7) rfl) ?_
    exact b_zret (d3 (j := 9) rfl) rfl (by decide) (by rw [if_pos (by omega)] at k; exact k)
def L4 : List (Nat × Instr × Nat × Nat) := [(0, .aload_n 0, 1, 0), (1, .invokevirtual 32, 4, 0), (4, .ifCond .eq 4, 7, 8), (7, .return_, 8, 0), (8, .aload_n 0, 9, 0), (9, .getfield 19, 12, 0), (12, .aload_n 0, 13, 0), (13, .getfield 7, 16, 0), (16, .iload_n 1, 17, 0), (17, .iastore, 18, 0), (18, .aload_n 0, 19, 0), (19, .getfield 23, 22, 0), (22, .aload_n 0, 23, 0), (23, .getfield 7, 26, 0), (26, .iload_n 2, 27, 0), (27, .iastore, 28, 0), (28, .aload_n 0, 29, 0), (29, .getfield 26, 32, 0), (32, .aload_n 0, 33, 0), (33, .getfield 7, 36, 0), (36, .iload_n 3, 37, 0), (37, .iastore, 38, 0), (38, .aload_n 0, 39, 0), (39, .getfield 29, 42, 0), (42, .aload_n 0, 43, 0), (43, .getfield 7, 46, 0), (46, .iload 4, 48, 0), (48, .iastore, 49, 0), (49, .aload_n 0, 50, 0), (50, .dup, 51, 0), (51, .getfield 7, 54, 0), (54, .iconst 1, 55, 0), (55, .iadd, 56, 0), (56, .putfield 7, 59, 0), (59, .return_, 60, 0)]
set_option maxRecDepth 100000 in
theorem L4_ok : L4.all (dck 4) = true := by decide +kernel
theorem d4 {j pc nx tg : Nat} {ins : Instr} (hj : L4[j]? = some (pc, ins, nx, tg)) : dcd 4 pc ins nx tg := dcl_ok L4_ok hj
set_option maxRecDepth 100000 in
set_option maxHeartbeats 4000000 in
theorem r4a_0 {x0 x1 x2 x3 x4 : Int}  {M : dsMem} {Q : bQT} (s1 : (¬ (¬ ((M x0 0) < 8))) → 0 ≤ (M x0 0) ∧ (M x0 0) < 8 := by intros; omega) (s2 : (¬ (¬ ((M x0 0) < 8))) → -2147483648 ≤ ((M x0 0) + 1) ∧ ((M x0 0) + 1) < 2147483648 := by intros; omega) (k1 : (¬ (¬ ((M x0 0) < 8))) → Q [] (dsSet (dsSet (dsSet (dsSet (dsSet M (x0 + 1) (M x0 0) x1) (x0 + 2) (M x0 0) x2) (x0 + 3) (M x0 0) x3) (x0 + 4) (M x0 0) x4) x0 0 ((M x0 0) + 1))) (k2 : ((¬ ((M x0 0) < 8))) → Q [] M) :
    bB 4 0 [uR 1 x0, uI x1, uI x2, uI x3, uI x4] [] M Q := by
  refine b_aload_n (d4 (j := 0) rfl) rfl ?_
  refine b_callV (d4 (j := 1) rfl) rfl rfl (Or.inl rfl) rfl (bCk_mk (n := 0) (k := 1) (by decide +kernel) rfl rfl) (fx3a  ?_)
  refine b_stk [uI (if (¬ ((M x0 0) < 8)) then 1 else 0)] rfl ?_
  refine b_ifeqP (d4 (j := 2) rfl) (fun c1 => ?_) (fun c1 => ?_)
  ·
    refine b_aload_n (d4 (j := 4) rfl) rfl ?_
    refine b_getR (d4 (j := 5) rfl) rfl rfl rfl rfl ?_
    refine b_aload_n (d4 (j := 6) rfl) rfl ?_
    refine b_getI (d4 (j := 7) rfl) rfl rfl rfl rfl (Or.inl rfl) ?_
    refine b_stk [uI (M x0 0), uR 20 (x0 + 1)] rfl ?_
    refine b_iload_n (d4 (j := 8) rfl) rfl ?_
    refine b_iastore (d4 (j := 9) rfl) rfl (s1 c1) ?_
    refine b_aload_n (d4 (j := 10) rfl) rfl ?_
    refine b_getR (d4 (j := 11) rfl) rfl rfl rfl rfl ?_
    refine b_aload_n (d4 (j := 12) rfl) rfl ?_
    refine b_getI (d4 (j := 13) rfl) rfl rfl rfl rfl (Or.inl rfl) ?_
    refine b_stk [uI (M x0 0), uR 20 (x0 + 2)] (by rw [ds_get_ne (by omega)] <;> rfl) ?_
    refine b_iload_n (d4 (j := 14) rfl) rfl ?_
    refine b_iastore (d4 (j := 15) rfl) rfl (s1 c1) ?_
    refine b_aload_n (d4 (j := 16) rfl) rfl ?_
    refine b_getR (d4 (j := 17) rfl) rfl rfl rfl rfl ?_
    refine b_aload_n (d4 (j := 18) rfl) rfl ?_
    refine b_getI (d4 (j := 19) rfl) rfl rfl rfl rfl (Or.inl rfl) ?_
    refine b_stk [uI (M x0 0), uR 20 (x0 + 3)] (by rw [ds_get_ne (by omega), ds_get_ne (by omega)] <;> rfl) ?_
    refine b_iload_n (d4 (j := 20) rfl) rfl ?_
    refine b_iastore (d4 (j := 21) rfl) rfl (s1 c1) ?_
    refine b_aload_n (d4 (j := 22) rfl) rfl ?_
    refine b_getR (d4 (j := 23) rfl) rfl rfl rfl rfl ?_
    refine b_aload_n (d4 (j := 24) rfl) rfl ?_
    refine b_getI (d4 (j := 25) rfl) rfl rfl rfl rfl (Or.inl rfl) ?_
    refine b_stk [uI (M x0 0), uR 20 (x0 + 4)] (by rw [ds_get_ne (by omega), ds_get_ne (by omega), ds_get_ne (by omega)] <;> rfl) ?_
    refine b_iload (d4 (j := 26) rfl) rfl ?_
    refine b_iastore (d4 (j := 27) rfl) rfl (s1 c1) ?_
    refine b_aload_n (d4 (j := 28) rfl) rfl ?_
    refine b_dup (d4 (j := 29) rfl) rfl ?_
    refine b_getI (d4 (j := 30) rfl) rfl rfl rfl rfl (Or.inl rfl) ?_
    refine b_stk [uI (M x0 0), uR 1 x0] (by rw [ds_get_ne (by omega), ds_get_ne (by omega), ds_get_ne (by omega), ds_get_ne (by omega)] <;> rfl) ?_
    refine b_iconst (d4 (j := 31) rfl) (by decide) ?_
    refine b_iadd (d4 (j := 32) rfl) rfl rfl ?_
    refine b_stk [uI ((M x0 0) + 1), uR 1 x0] (by rw [dsw_r (s2 c1)]) ?_
    refine b_putI (d4 (j := 33) rfl) rfl ⟨rfl, rfl⟩ rfl rfl ?_
    exact b_vret (d4 (j := 34) rfl) rfl (k1 c1)
  ·
    exact b_vret (d4 (j := 3) rfl) rfl (k2 c1)
set_option maxRecDepth 100000 in
set_option maxHeartbeats 4000000 in
theorem r4b_0 {x0 x1 x2 x3 x4 : Int}  {M : dsMem} {Q : bQT} (s1 : (¬ (¬ ((M x0 0) < 6))) → 0 ≤ (M x0 0) ∧ (M x0 0) < 6 := by intros; omega) (s2 : (¬ (¬ ((M x0 0) < 6))) → -2147483648 ≤ ((M x0 0) + 1) ∧ ((M x0 0) + 1) < 2147483648 := by intros; omega) (k1 : (¬ (¬ ((M x0 0) < 6))) → Q [] (dsSet (dsSet (dsSet (dsSet (dsSet M (x0 + 1) (M x0 0) x1) (x0 + 2) (M x0 0) x2) (x0 + 3) (M x0 0) x3) (x0 + 4) (M x0 0) x4) x0 0 ((M x0 0) + 1))) (k2 : ((¬ ((M x0 0) < 6))) → Q [] M) :
    bB 4 0 [uR 2 x0, uI x1, uI x2, uI x3, uI x4] [] M Q := by
  refine b_aload_n (d4 (j := 0) rfl) rfl ?_
  refine b_callV (d4 (j := 1) rfl) rfl rfl (Or.inl rfl) rfl (bCk_mk (n := 0) (k := 1) (by decide +kernel) rfl rfl) (fx3b  ?_)
  refine b_stk [uI (if (¬ ((M x0 0) < 6)) then 1 else 0)] rfl ?_
  refine b_ifeqP (d4 (j := 2) rfl) (fun c1 => ?_) (fun c1 => ?_)
  ·
    refine b_aload_n (d4 (j := 4) rfl) rfl ?_
    refine b_getR (d4 (j := 5) rfl) rfl rfl rfl rfl ?_
    refine b_aload_n (d4 (j := 6) rfl) rfl ?_
    refine b_getI (d4 (j := 7) rfl) rfl rfl rfl rfl (Or.inl rfl) ?_
    refine b_stk [uI (M x0 0), uR 21 (x0 + 1)] rfl ?_
    refine b_iload_n (d4 (j := 8) rfl) rfl ?_
    refine b_iastore (d4 (j := 9) rfl) rfl (s1 c1) ?_
    refine b_aload_n (d4 (j := 10) rfl) rfl ?_
    refine b_getR (d4 (j := 11) rfl) rfl rfl rfl rfl ?_
    refine b_aload_n (d4 (j := 12) rfl) rfl ?_
    refine b_getI (d4 (j := 13) rfl) rfl rfl rfl rfl (Or.inl rfl) ?_
    refine b_stk [uI (M x0 0), uR 21 (x0 + 2)] (by rw [ds_get_ne (by omega)] <;> rfl) ?_
    refine b_iload_n (d4 (j := 14) rfl) rfl ?_
    refine b_iastore (d4 (j := 15) rfl) rfl (s1 c1) ?_
    refine b_aload_n (d4 (j := 16) rfl) rfl ?_
    refine b_getR (d4 (j := 17) rfl) rfl rfl rfl rfl ?_
    refine b_aload_n (d4 (j := 18) rfl) rfl ?_
    refine b_getI (d4 (j := 19) rfl) rfl rfl rfl rfl (Or.inl rfl) ?_
    refine b_stk [uI (M x0 0), uR 21 (x0 + 3)] (by rw [ds_get_ne (by omega), ds_get_ne (by omega)] <;> rfl) ?_
    refine b_iload_n (d4 (j := 20) rfl) rfl ?_
    refine b_iastore (d4 (j := 21) rfl) rfl (s1 c1) ?_
    refine b_aload_n (d4 (j := 22) rfl) rfl ?_
    refine b_getR (d4 (j := 23) rfl) rfl rfl rfl rfl ?_
    refine b_aload_n (d4 (j := 24) rfl) rfl ?_
    refine b_getI (d4 (j := 25) rfl) rfl rfl rfl rfl (Or.inl rfl) ?_
    refine b_stk [uI (M x0 0), uR 21 (x0 + 4)] (by rw [ds_get_ne (by omega), ds_get_ne (by omega), ds_get_ne (by omega)] <;> rfl) ?_
    refine b_iload (d4 (j := 26) rfl) rfl ?_
    refine b_iastore (d4 (j := 27) rfl) rfl (s1 c1) ?_
    refine b_aload_n (d4 (j := 28) rfl) rfl ?_
    refine b_dup (d4 (j := 29) rfl) rfl ?_
    refine b_getI (d4 (j := 30) rfl) rfl rfl rfl rfl (Or.inl rfl) ?_
    refine b_stk [uI (M x0 0), uR 2 x0] (by rw [ds_get_ne (by omega), ds_get_ne (by omega), ds_get_ne (by omega), ds_get_ne (by omega)] <;> rfl) ?_
    refine b_iconst (d4 (j := 31) rfl) (by decide) ?_
    refine b_iadd (d4 (j := 32) rfl) rfl rfl ?_
    refine b_stk [uI ((M x0 0) + 1), uR 2 x0] (by rw [dsw_r (s2 c1)]) ?_
    refine b_putI (d4 (j := 33) rfl) rfl ⟨rfl, rfl⟩ rfl rfl ?_
    exact b_vret (d4 (j := 34) rfl) rfl (k1 c1)
  ·
    exact b_vret (d4 (j := 3) rfl) rfl (k2 c1)
set_option maxRecDepth 100000 in
set_option maxHeartbeats 4000000 in
theorem r4c_0 {x0 x1 x2 x3 x4 : Int}  {M : dsMem} {Q : bQT} (s1 : (¬ (¬ ((M x0 0) < 30))) → 0 ≤ (M x0 0) ∧ (M x0 0) < 30 := by intros; omega) (s2 : (¬ (¬ ((M x0 0) < 30))) → -2147483648 ≤ ((M x0 0) + 1) ∧ ((M x0 0) + 1) < 2147483648 := by intros; omega) (k1 : (¬ (¬ ((M x0 0) < 30))) → Q [] (dsSet (dsSet (dsSet (dsSet (dsSet M (x0 + 1) (M x0 0) x1) (x0 + 2) (M x0 0) x2) (x0 + 3) (M x0 0) x3) (x0 + 4) (M x0 0) x4) x0 0 ((M x0 0) + 1))) (k2 : ((¬ ((M x0 0) < 30))) → Q [] M) :
    bB 4 0 [uR 3 x0, uI x1, uI x2, uI x3, uI x4] [] M Q := by
  refine b_aload_n (d4 (j := 0) rfl) rfl ?_
  refine b_callV (d4 (j := 1) rfl) rfl rfl (Or.inl rfl) rfl (bCk_mk (n := 0) (k := 1) (by decide +kernel) rfl rfl) (fx3c  ?_)
  refine b_stk [uI (if (¬ ((M x0 0) < 30)) then 1 else 0)] rfl ?_
  refine b_ifeqP (d4 (j := 2) rfl) (fun c1 => ?_) (fun c1 => ?_)
  ·
    refine b_aload_n (d4 (j := 4) rfl) rfl ?_
    refine b_getR (d4 (j := 5) rfl) rfl rfl rfl rfl ?_
    refine b_aload_n (d4 (j := 6) rfl) rfl ?_
    refine b_getI (d4 (j := 7) rfl) rfl rfl rfl rfl (Or.inl rfl) ?_
    refine b_stk [uI (M x0 0), uR 22 (x0 + 1)] rfl ?_
    refine b_iload_n (d4 (j := 8) rfl) rfl ?_
    refine b_iastore (d4 (j := 9) rfl) rfl (s1 c1) ?_
    refine b_aload_n (d4 (j := 10) rfl) rfl ?_
    refine b_getR (d4 (j := 11) rfl) rfl rfl rfl rfl ?_
    refine b_aload_n (d4 (j := 12) rfl) rfl ?_
    refine b_getI (d4 (j := 13) rfl) rfl rfl rfl rfl (Or.inl rfl) ?_
    refine b_stk [uI (M x0 0), uR 22 (x0 + 2)] (by rw [ds_get_ne (by omega)] <;> rfl) ?_
    refine b_iload_n (d4 (j := 14) rfl) rfl ?_
    refine b_iastore (d4 (j := 15) rfl) rfl (s1 c1) ?_
    refine b_aload_n (d4 (j := 16) rfl) rfl ?_
    refine b_getR (d4 (j := 17) rfl) rfl rfl rfl rfl ?_
    refine b_aload_n (d4 (j := 18) rfl) rfl ?_
    refine b_getI (d4 (j := 19) rfl) rfl rfl rfl rfl (Or.inl rfl) ?_
    refine b_stk [uI (M x0 0), uR 22 (x0 + 3)] (by rw [ds_get_ne (by omega), ds_get_ne (by omega)] <;> rfl) ?_
    refine b_iload_n (d4 (j := 20) rfl) rfl ?_
    refine b_iastore (d4 (j := 21) rfl) rfl (s1 c1) ?_
    refine b_aload_n (d4 (j := 22) rfl) rfl ?_
    refine b_getR (d4 (j := 23) rfl) rfl rfl rfl rfl ?_
    refine b_aload_n (d4 (j := 24) rfl) rfl ?_
    refine b_getI (d4 (j := 25) rfl) rfl rfl rfl rfl (Or.inl rfl) ?_
    refine b_stk [uI (M x0 0), uR 22 (x0 + 4)] (by rw [ds_get_ne (by omega), ds_get_ne (by omega), ds_get_ne (by omega)] <;> rfl) ?_
    refine b_iload (d4 (j := 26) rfl) rfl ?_
    refine b_iastore (d4 (j := 27) rfl) rfl (s1 c1) ?_
    refine b_aload_n (d4 (j := 28) rfl) rfl ?_
    refine b_dup (d4 (j := 29) rfl) rfl ?_
    refine b_getI (d4 (j := 30) rfl) rfl rfl rfl rfl (Or.inl rfl) ?_
    refine b_stk [uI (M x0 0), uR 3 x0] (by rw [ds_get_ne (by omega), ds_get_ne (by omega), ds_get_ne (by omega), ds_get_ne (by omega)] <;> rfl) ?_
    refine b_iconst (d4 (j := 31) rfl) (by decide) ?_
    refine b_iadd (d4 (j := 32) rfl) rfl rfl ?_
    refine b_stk [uI ((M x0 0) + 1), uR 3 x0] (by rw [dsw_r (s2 c1)]) ?_
    refine b_putI (d4 (j := 33) rfl) rfl ⟨rfl, rfl⟩ rfl rfl ?_
    exact b_vret (d4 (j := 34) rfl) rfl (k1 c1)
  ·
    exact b_vret (d4 (j := 3) rfl) rfl (k2 c1)
def L5 : List (Nat × Instr × Nat × Nat) := [(0, .aload_n 0, 1, 0), (1, .iconst 0, 2, 0), (2, .putfield 7, 5, 0), (5, .iconst 0, 6, 0), (6, .istore_n 2, 7, 0), (7, .iload_n 2, 8, 0), (8, .aload_n 1, 9, 0), (9, .getfield 7, 12, 0), (12, .if_icmp .ge 37, 15, 49), (15, .aload_n 0, 16, 0), (16, .aload_n 1, 17, 0), (17, .getfield 19, 20, 0), (20, .iload_n 2, 21, 0), (21, .iaload, 22, 0), (22, .aload_n 1, 23, 0), (23, .getfield 23, 26, 0), (26, .iload_n 2, 27, 0), (27, .iaload, 28, 0), (28, .aload_n 1, 29, 0), (29, .getfield 26, 32, 0), (32, .iload_n 2, 33, 0), (33, .iaload, 34, 0), (34, .aload_n 1, 35, 0), (35, .getfield 29, 38, 0), (38, .iload_n 2, 39, 0), (39, .iaload, 40, 0), (40, .invokevirtual 36, 43, 0), (43, .iinc 2 1, 46, 0), (46, .goto (-39), 49, 7), (49, .return_, 50, 0)]
set_option maxRecDepth 100000 in
theorem L5_ok : L5.all (dck 5) = true := by decide +kernel
theorem d5 {j pc nx tg : Nat} {ins : Instr} (hj : L5[j]? = some (pc, ins, nx, tg)) : dcd 5 pc ins nx tg := dcl_ok L5_ok hj
set_option maxRecDepth 100000 in
set_option maxHeartbeats 4000000 in
theorem r5a_0 {x0 x1 : Int}  {M : dsMem} {Q : bQT} (k1 : bB 5 7 [uR 1 x0, uR 1 x1, uI 0] [] (dsSet M x0 0 0) Q) :
    bB 5 0 [uR 1 x0, uR 1 x1, uX 0] [] M Q := by
  refine b_aload_n (d5 (j := 0) rfl) rfl ?_
  refine b_iconst (d5 (j := 1) rfl) (by decide) ?_
  refine b_putI (d5 (j := 2) rfl) rfl ⟨rfl, rfl⟩ rfl rfl ?_
  refine b_iconst (d5 (j := 3) rfl) (by decide) ?_
  refine b_istore_n [uR 1 x0, uR 1 x1, uI 0] (d5 (j := 4) rfl) (by decide) rfl ?_
  exact k1
set_option maxRecDepth 100000 in
set_option maxHeartbeats 4000000 in
theorem r5a_7 {x0 x1 x2 : Int} {R1 : dsMem → Prop} {M : dsMem} {Q : bQT} (k1 : ((M x1 0) ≤ x2) → Q [] M) (s1 : (¬ (M x1 0) ≤ x2) → 0 ≤ x2 ∧ x2 < 8 := by intros; omega) (hA1 : (¬ (M x1 0) ≤ x2) → bCt 4 [uR 1 x0, uI (M (x1 + 1) x2), uI (M (x1 + 2) x2), uI (M (x1 + 3) x2), uI (M (x1 + 4) x2)] M (fun _ => []) R1) (s2 : (¬ (M x1 0) ≤ x2) → ∀ M1 : dsMem, R1 M1 → -2147483648 ≤ x2 + 1 ∧ x2 + 1 < 2147483648 := by intros; omega) (k2 : (¬ (M x1 0) ≤ x2) → ∀ M1 : dsMem, R1 M1 → bB 5 7 [uR 1 x0, uR 1 x1, uI (x2 + 1)] [] M1 Q) :
    bB 5 7 [uR 1 x0, uR 1 x1, uI x2] [] M Q := by
  refine b_iload_n (d5 (j := 5) rfl) rfl ?_
  refine b_aload_n (d5 (j := 6) rfl) rfl ?_
  refine b_getI (d5 (j := 7) rfl) rfl rfl rfl rfl (Or.inl rfl) ?_
  refine b_stk [uI (M x1 0), uI x2] rfl ?_
  refine b_icmp_ge (d5 (j := 8) rfl) (fun c1 => ?_) (fun c1 => ?_)
  ·
    exact b_vret (d5 (j := 29) rfl) rfl (k1 c1)
  ·
    refine b_aload_n (d5 (j := 9) rfl) rfl ?_
    refine b_aload_n (d5 (j := 10) rfl) rfl ?_
    refine b_getR (d5 (j := 11) rfl) rfl rfl rfl rfl ?_
    refine b_iload_n (d5 (j := 12) rfl) rfl ?_
    refine b_iaload (d5 (j := 13) rfl) rfl (s1 c1) ?_
    refine b_aload_n (d5 (j := 14) rfl) rfl ?_
    refine b_getR (d5 (j := 15) rfl) rfl rfl rfl rfl ?_
    refine b_iload_n (d5 (j := 16) rfl) rfl ?_
    refine b_iaload (d5 (j := 17) rfl) rfl (s1 c1) ?_
    refine b_aload_n (d5 (j := 18) rfl) rfl ?_
    refine b_getR (d5 (j := 19) rfl) rfl rfl rfl rfl ?_
    refine b_iload_n (d5 (j := 20) rfl) rfl ?_
    refine b_iaload (d5 (j := 21) rfl) rfl (s1 c1) ?_
    refine b_aload_n (d5 (j := 22) rfl) rfl ?_
    refine b_getR (d5 (j := 23) rfl) rfl rfl rfl rfl ?_
    refine b_iload_n (d5 (j := 24) rfl) rfl ?_
    refine b_iaload (d5 (j := 25) rfl) rfl (s1 c1) ?_
    refine b_callV (d5 (j := 26) rfl) rfl rfl (Or.inl rfl) rfl (bCk_mk (n := 0) (k := 5) (by decide +kernel) rfl rfl) ((hA1 c1) _ (fun M1 hR1 => ?_))
    refine b_stk [] rfl ?_
    refine b_iinc [uR 1 x0, uR 1 x1, uI (x2 + 1)] (d5 (j := 27) rfl) rfl (by decide) (s2 c1 M1 hR1) rfl ?_
    refine b_goto (d5 (j := 28) rfl) ?_
    exact (k2 c1 M1 hR1)
set_option maxRecDepth 100000 in
set_option maxHeartbeats 4000000 in
theorem r5b_0 {x0 x1 : Int}  {M : dsMem} {Q : bQT} (k1 : bB 5 7 [uR 2 x0, uR 2 x1, uI 0] [] (dsSet M x0 0 0) Q) :
    bB 5 0 [uR 2 x0, uR 2 x1, uX 0] [] M Q := by
  refine b_aload_n (d5 (j := 0) rfl) rfl ?_
  refine b_iconst (d5 (j := 1) rfl) (by decide) ?_
  refine b_putI (d5 (j := 2) rfl) rfl ⟨rfl, rfl⟩ rfl rfl ?_
  refine b_iconst (d5 (j := 3) rfl) (by decide) ?_
  refine b_istore_n [uR 2 x0, uR 2 x1, uI 0] (d5 (j := 4) rfl) (by decide) rfl ?_
  exact k1
set_option maxRecDepth 100000 in
set_option maxHeartbeats 4000000 in
theorem r5b_7 {x0 x1 x2 : Int} {R1 : dsMem → Prop} {M : dsMem} {Q : bQT} (k1 : ((M x1 0) ≤ x2) → Q [] M) (s1 : (¬ (M x1 0) ≤ x2) → 0 ≤ x2 ∧ x2 < 6 := by intros; omega) (hA1 : (¬ (M x1 0) ≤ x2) → bCt 4 [uR 2 x0, uI (M (x1 + 1) x2), uI (M (x1 + 2) x2), uI (M (x1 + 3) x2), uI (M (x1 + 4) x2)] M (fun _ => []) R1) (s2 : (¬ (M x1 0) ≤ x2) → ∀ M1 : dsMem, R1 M1 → -2147483648 ≤ x2 + 1 ∧ x2 + 1 < 2147483648 := by intros; omega) (k2 : (¬ (M x1 0) ≤ x2) → ∀ M1 : dsMem, R1 M1 → bB 5 7 [uR 2 x0, uR 2 x1, uI (x2 + 1)] [] M1 Q) :
    bB 5 7 [uR 2 x0, uR 2 x1, uI x2] [] M Q := by
  refine b_iload_n (d5 (j := 5) rfl) rfl ?_
  refine b_aload_n (d5 (j := 6) rfl) rfl ?_
  refine b_getI (d5 (j := 7) rfl) rfl rfl rfl rfl (Or.inl rfl) ?_
  refine b_stk [uI (M x1 0), uI x2] rfl ?_
  refine b_icmp_ge (d5 (j := 8) rfl) (fun c1 => ?_) (fun c1 => ?_)
  ·
    exact b_vret (d5 (j := 29) rfl) rfl (k1 c1)
  ·
    refine b_aload_n (d5 (j := 9) rfl) rfl ?_
    refine b_aload_n (d5 (j := 10) rfl) rfl ?_
    refine b_getR (d5 (j := 11) rfl) rfl rfl rfl rfl ?_
    refine b_iload_n (d5 (j := 12) rfl) rfl ?_
    refine b_iaload (d5 (j := 13) rfl) rfl (s1 c1) ?_
    refine b_aload_n (d5 (j := 14) rfl) rfl ?_
    refine b_getR (d5 (j := 15) rfl) rfl rfl rfl rfl ?_
    refine b_iload_n (d5 (j := 16) rfl) rfl ?_
    refine b_iaload (d5 (j := 17) rfl) rfl (s1 c1) ?_
    refine b_aload_n (d5 (j := 18) rfl) rfl ?_
    refine b_getR (d5 (j := 19) rfl) rfl rfl rfl rfl ?_
    refine b_iload_n (d5 (j := 20) rfl) rfl ?_
    refine b_iaload (d5 (j := 21) rfl) rfl (s1 c1) ?_
    refine b_aload_n (d5 (j := 22) rfl) rfl ?_
    refine b_getR (d5 (j := 23) rfl) rfl rfl rfl rfl ?_
    refine b_iload_n (d5 (j := 24) rfl) rfl ?_
    refine b_iaload (d5 (j := 25) rfl) rfl (s1 c1) ?_
    refine b_callV (d5 (j := 26) rfl) rfl rfl (Or.inl rfl) rfl (bCk_mk (n := 0) (k := 5) (by decide +kernel) rfl rfl) ((hA1 c1) _ (fun M1 hR1 => ?_))
    refine b_stk [] rfl ?_
    refine b_iinc [uR 2 x0, uR 2 x1, uI (x2 + 1)] (d5 (j := 27) rfl) rfl (by decide) (s2 c1 M1 hR1) rfl ?_
    refine b_goto (d5 (j := 28) rfl) ?_
    exact (k2 c1 M1 hR1)
set_option maxRecDepth 100000 in
set_option maxHeartbeats 4000000 in
theorem r5c_0 {x0 x1 : Int}  {M : dsMem} {Q : bQT} (k1 : bB 5 7 [uR 3 x0, uR 3 x1, uI 0] [] (dsSet M x0 0 0) Q) :
    bB 5 0 [uR 3 x0, uR 3 x1, uX 0] [] M Q := by
  refine b_aload_n (d5 (j := 0) rfl) rfl ?_
  refine b_iconst (d5 (j := 1) rfl) (by decide) ?_
  refine b_putI (d5 (j := 2) rfl) rfl ⟨rfl, rfl⟩ rfl rfl ?_
  refine b_iconst (d5 (j := 3) rfl) (by decide) ?_
  refine b_istore_n [uR 3 x0, uR 3 x1, uI 0] (d5 (j := 4) rfl) (by decide) rfl ?_
  exact k1
set_option maxRecDepth 100000 in
set_option maxHeartbeats 4000000 in
theorem r5c_7 {x0 x1 x2 : Int} {R1 : dsMem → Prop} {M : dsMem} {Q : bQT} (k1 : ((M x1 0) ≤ x2) → Q [] M) (s1 : (¬ (M x1 0) ≤ x2) → 0 ≤ x2 ∧ x2 < 30 := by intros; omega) (hA1 : (¬ (M x1 0) ≤ x2) → bCt 4 [uR 3 x0, uI (M (x1 + 1) x2), uI (M (x1 + 2) x2), uI (M (x1 + 3) x2), uI (M (x1 + 4) x2)] M (fun _ => []) R1) (s2 : (¬ (M x1 0) ≤ x2) → ∀ M1 : dsMem, R1 M1 → -2147483648 ≤ x2 + 1 ∧ x2 + 1 < 2147483648 := by intros; omega) (k2 : (¬ (M x1 0) ≤ x2) → ∀ M1 : dsMem, R1 M1 → bB 5 7 [uR 3 x0, uR 3 x1, uI (x2 + 1)] [] M1 Q) :
    bB 5 7 [uR 3 x0, uR 3 x1, uI x2] [] M Q := by
  refine b_iload_n (d5 (j := 5) rfl) rfl ?_
  refine b_aload_n (d5 (j := 6) rfl) rfl ?_
  refine b_getI (d5 (j := 7) rfl) rfl rfl rfl rfl (Or.inl rfl) ?_
  refine b_stk [uI (M x1 0), uI x2] rfl ?_
  refine b_icmp_ge (d5 (j := 8) rfl) (fun c1 => ?_) (fun c1 => ?_)
  ·
    exact b_vret (d5 (j := 29) rfl) rfl (k1 c1)
  ·
    refine b_aload_n (d5 (j := 9) rfl) rfl ?_
    refine b_aload_n (d5 (j := 10) rfl) rfl ?_
    refine b_getR (d5 (j := 11) rfl) rfl rfl rfl rfl ?_
    refine b_iload_n (d5 (j := 12) rfl) rfl ?_
    refine b_iaload (d5 (j := 13) rfl) rfl (s1 c1) ?_
    refine b_aload_n (d5 (j := 14) rfl) rfl ?_
    refine b_getR (d5 (j := 15) rfl) rfl rfl rfl rfl ?_
    refine b_iload_n (d5 (j := 16) rfl) rfl ?_
    refine b_iaload (d5 (j := 17) rfl) rfl (s1 c1) ?_
    refine b_aload_n (d5 (j := 18) rfl) rfl ?_
    refine b_getR (d5 (j := 19) rfl) rfl rfl rfl rfl ?_
    refine b_iload_n (d5 (j := 20) rfl) rfl ?_
    refine b_iaload (d5 (j := 21) rfl) rfl (s1 c1) ?_
    refine b_aload_n (d5 (j := 22) rfl) rfl ?_
    refine b_getR (d5 (j := 23) rfl) rfl rfl rfl rfl ?_
    refine b_iload_n (d5 (j := 24) rfl) rfl ?_
    refine b_iaload (d5 (j := 25) rfl) rfl (s1 c1) ?_
    refine b_callV (d5 (j := 26) rfl) rfl rfl (Or.inl rfl) rfl (bCk_mk (n := 0) (k := 5) (by decide +kernel) rfl rfl) ((hA1 c1) _ (fun M1 hR1 => ?_))
    refine b_stk [] rfl ?_
    refine b_iinc [uR 3 x0, uR 3 x1, uI (x2 + 1)] (d5 (j := 27) rfl) rfl (by decide) (s2 c1 M1 hR1) rfl ?_
    refine b_goto (d5 (j := 28) rfl) ?_
    exact (k2 c1 M1 hR1)
def L1 : List (Nat × Instr × Nat × Nat) := [(0, .aload_n 0, 1, 0), (1, .iconst (-1), 2, 0), (2, .putfield 9, 5, 0), (5, .aload_n 0, 6, 0), (6, .iconst (-1), 7, 0), (7, .putfield 15, 10, 0), (10, .aload_n 0, 11, 0), (11, .iconst (-1), 12, 0), (12, .putfield 18, 15, 0), (15, .aload_n 0, 16, 0), (16, .iconst 0, 17, 0), (17, .putfield 21, 20, 0), (20, .aload_n 0, 21, 0), (21, .iconst (-1), 22, 0), (22, .putfield 24, 25, 0), (25, .aload_n 0, 26, 0), (26, .iconst (-1), 27, 0), (27, .putfield 27, 30, 0), (30, .aload_n 0, 31, 0), (31, .iconst 0, 32, 0), (32, .putfield 30, 35, 0), (35, .aload_n 0, 36, 0), (36, .iconst (-1), 37, 0), (37, .putfield 33, 40, 0), (40, .aload_n 0, 41, 0), (41, .iconst 0, 42, 0), (42, .putfield 36, 45, 0), (45, .return_, 46, 0)]
set_option maxRecDepth 100000 in
theorem L1_ok : L1.all (dck 1) = true := by decide +kernel
theorem d1 {j pc nx tg : Nat} {ins : Instr} (hj : L1[j]? = some (pc, ins, nx, tg)) : dcd 1 pc ins nx tg := dcl_ok L1_ok hj
set_option maxRecDepth 100000 in
set_option maxHeartbeats 4000000 in
theorem r1_0 {x0 : Int}  {M : dsMem} {Q : bQT} (k1 : Q [] (dsSet (dsSet (dsSet (dsSet (dsSet (dsSet (dsSet (dsSet (dsSet M x0 0 (-1)) x0 1 (-1)) x0 2 (-1)) x0 3 0) x0 4 (-1)) x0 5 (-1)) x0 6 0) x0 7 (-1)) x0 8 0)) :
    bB 1 0 [uR 0 x0] [] M Q := by
  refine b_aload_n (d1 (j := 0) rfl) rfl ?_
  refine b_iconst (d1 (j := 1) rfl) (by decide) ?_
  refine b_putI (d1 (j := 2) rfl) rfl ⟨rfl, rfl⟩ rfl rfl ?_
  refine b_aload_n (d1 (j := 3) rfl) rfl ?_
  refine b_iconst (d1 (j := 4) rfl) (by decide) ?_
  refine b_putI (d1 (j := 5) rfl) rfl ⟨rfl, rfl⟩ rfl rfl ?_
  refine b_aload_n (d1 (j := 6) rfl) rfl ?_
  refine b_iconst (d1 (j := 7) rfl) (by decide) ?_
  refine b_putI (d1 (j := 8) rfl) rfl ⟨rfl, rfl⟩ rfl rfl ?_
  refine b_aload_n (d1 (j := 9) rfl) rfl ?_
  refine b_iconst (d1 (j := 10) rfl) (by decide) ?_
  refine b_putI (d1 (j := 11) rfl) rfl ⟨rfl, rfl⟩ rfl rfl ?_
  refine b_aload_n (d1 (j := 12) rfl) rfl ?_
  refine b_iconst (d1 (j := 13) rfl) (by decide) ?_
  refine b_putI (d1 (j := 14) rfl) rfl ⟨rfl, rfl⟩ rfl rfl ?_
  refine b_aload_n (d1 (j := 15) rfl) rfl ?_
  refine b_iconst (d1 (j := 16) rfl) (by decide) ?_
  refine b_putI (d1 (j := 17) rfl) rfl ⟨rfl, rfl⟩ rfl rfl ?_
  refine b_aload_n (d1 (j := 18) rfl) rfl ?_
  refine b_iconst (d1 (j := 19) rfl) (by decide) ?_
  refine b_putI (d1 (j := 20) rfl) rfl ⟨rfl, rfl⟩ rfl rfl ?_
  refine b_aload_n (d1 (j := 21) rfl) rfl ?_
  refine b_iconst (d1 (j := 22) rfl) (by decide) ?_
  refine b_putI (d1 (j := 23) rfl) rfl ⟨rfl, rfl⟩ rfl rfl ?_
  refine b_aload_n (d1 (j := 24) rfl) rfl ?_
  refine b_iconst (d1 (j := 25) rfl) (by decide) ?_
  refine b_putI (d1 (j := 26) rfl) rfl ⟨rfl, rfl⟩ rfl rfl ?_
  exact b_vret (d1 (j := 27) rfl) rfl k1
def L61 : List (Nat × Instr × Nat × Nat) := [(0, .aload_n 0, 1, 0), (1, .iconst 0, 2, 0), (2, .putfield 9, 5, 0), (5, .aload_n 0, 6, 0), (6, .iconst 0, 7, 0), (7, .putfield 15, 10, 0), (10, .aload_n 0, 11, 0), (11, .iconst 0, 12, 0), (12, .putfield 18, 15, 0), (15, .aload_n 0, 16, 0), (16, .iconst 0, 17, 0), (17, .putfield 21, 20, 0), (20, .aload_n 0, 21, 0), (21, .iconst 0, 22, 0), (22, .putfield 24, 25, 0), (25, .aload_n 0, 26, 0), (26, .iconst 0, 27, 0), (27, .putfield 27, 30, 0), (30, .aload_n 0, 31, 0), (31, .getfield 51, 34, 0), (34, .iconst 0, 35, 0), (35, .putfield 61, 38, 0), (38, .aload_n 0, 39, 0), (39, .getfield 55, 42, 0), (42, .iconst 0, 43, 0), (43, .putfield 61, 46, 0), (46, .aload_n 0, 47, 0), (47, .getfield 58, 50, 0), (50, .iconst 0, 51, 0), (51, .putfield 61, 54, 0), (54, .return_, 55, 0)]
set_option maxRecDepth 100000 in
theorem L61_ok : L61.all (dck 61) = true := by decide +kernel
theorem d61 {j pc nx tg : Nat} {ins : Instr} (hj : L61[j]? = some (pc, ins, nx, tg)) : dcd 61 pc ins nx tg := dcl_ok L61_ok hj
set_option maxRecDepth 100000 in
set_option maxHeartbeats 4000000 in
theorem r61_0 {x0 : Int}  {M : dsMem} {Q : bQT} (k1 : Q [] (dsSet (dsSet (dsSet (dsSet (dsSet (dsSet (dsSet (dsSet (dsSet M x0 0 0) x0 1 0) x0 2 0) x0 3 0) x0 4 0) x0 5 0) (x0 + 6) 0 0) (x0 + 11) 0 0) (x0 + 16) 0 0)) :
    bB 61 0 [uR 4 x0] [] M Q := by
  refine b_aload_n (d61 (j := 0) rfl) rfl ?_
  refine b_iconst (d61 (j := 1) rfl) (by decide) ?_
  refine b_putI (d61 (j := 2) rfl) rfl ⟨rfl, rfl⟩ rfl rfl ?_
  refine b_aload_n (d61 (j := 3) rfl) rfl ?_
  refine b_iconst (d61 (j := 4) rfl) (by decide) ?_
  refine b_putI (d61 (j := 5) rfl) rfl ⟨rfl, rfl⟩ rfl rfl ?_
  refine b_aload_n (d61 (j := 6) rfl) rfl ?_
  refine b_iconst (d61 (j := 7) rfl) (by decide) ?_
  refine b_putI (d61 (j := 8) rfl) rfl ⟨rfl, rfl⟩ rfl rfl ?_
  refine b_aload_n (d61 (j := 9) rfl) rfl ?_
  refine b_iconst (d61 (j := 10) rfl) (by decide) ?_
  refine b_putI (d61 (j := 11) rfl) rfl ⟨rfl, rfl⟩ rfl rfl ?_
  refine b_aload_n (d61 (j := 12) rfl) rfl ?_
  refine b_iconst (d61 (j := 13) rfl) (by decide) ?_
  refine b_putI (d61 (j := 14) rfl) rfl ⟨rfl, rfl⟩ rfl rfl ?_
  refine b_aload_n (d61 (j := 15) rfl) rfl ?_
  refine b_iconst (d61 (j := 16) rfl) (by decide) ?_
  refine b_putI (d61 (j := 17) rfl) rfl ⟨rfl, rfl⟩ rfl rfl ?_
  refine b_aload_n (d61 (j := 18) rfl) rfl ?_
  refine b_getR (d61 (j := 19) rfl) rfl rfl rfl rfl ?_
  refine b_iconst (d61 (j := 20) rfl) (by decide) ?_
  refine b_putI (d61 (j := 21) rfl) rfl ⟨rfl, rfl⟩ rfl rfl ?_
  refine b_aload_n (d61 (j := 22) rfl) rfl ?_
  refine b_getR (d61 (j := 23) rfl) rfl rfl rfl rfl ?_
  refine b_iconst (d61 (j := 24) rfl) (by decide) ?_
  refine b_putI (d61 (j := 25) rfl) rfl ⟨rfl, rfl⟩ rfl rfl ?_
  refine b_aload_n (d61 (j := 26) rfl) rfl ?_
  refine b_getR (d61 (j := 27) rfl) rfl rfl rfl rfl ?_
  refine b_iconst (d61 (j := 28) rfl) (by decide) ?_
  refine b_putI (d61 (j := 29) rfl) rfl ⟨rfl, rfl⟩ rfl rfl ?_
  exact b_vret (d61 (j := 30) rfl) rfl k1
def L62 : List (Nat × Instr × Nat × Nat) := [(0, .aload_n 0, 1, 0), (1, .aload_n 1, 2, 0), (2, .getfield 9, 5, 0), (5, .putfield 9, 8, 0), (8, .aload_n 0, 9, 0), (9, .aload_n 1, 10, 0), (10, .getfield 15, 13, 0), (13, .putfield 15, 16, 0), (16, .aload_n 0, 17, 0), (17, .aload_n 1, 18, 0), (18, .getfield 18, 21, 0), (21, .putfield 18, 24, 0), (24, .aload_n 0, 25, 0), (25, .aload_n 1, 26, 0), (26, .getfield 21, 29, 0), (29, .putfield 21, 32, 0), (32, .aload_n 0, 33, 0), (33, .aload_n 1, 34, 0), (34, .getfield 24, 37, 0), (37, .putfield 24, 40, 0), (40, .aload_n 0, 41, 0), (41, .aload_n 1, 42, 0), (42, .getfield 27, 45, 0), (45, .putfield 27, 48, 0), (48, .aload_n 1, 49, 0), (49, .getfield 30, 52, 0), (52, .iconst 0, 53, 0), (53, .aload_n 0, 54, 0), (54, .getfield 30, 57, 0), (57, .iconst 0, 58, 0), (58, .iconst 3, 59, 0), (59, .invokestatic 64, 62, 0), (62, .aload_n 1, 63, 0), (63, .getfield 34, 66, 0), (66, .iconst 0, 67, 0), (67, .aload_n 0, 68, 0), (68, .getfield 34, 71, 0), (71, .iconst 0, 72, 0), (72, .iconst 3, 73, 0), (73, .invokestatic 64, 76, 0), (76, .aload_n 1, 77, 0), (77, .getfield 37, 80, 0), (80, .iconst 0, 81, 0), (81, .aload_n 0, 82, 0), (82, .getfield 37, 85, 0), (85, .iconst 0, 86, 0), (86, .bipush 6, 88, 0), (88, .invokestatic 64, 91, 0), (91, .aload_n 1, 92, 0), (92, .getfield 40, 95, 0), (95, .iconst 0, 96, 0), (96, .aload_n 0, 97, 0), (97, .getfield 40, 100, 0), (100, .iconst 0, 101, 0), (101, .bipush 6, 103, 0), (103, .invokestatic 64, 106, 0), (106, .aload_n 1, 107, 0), (107, .getfield 43, 110, 0), (110, .iconst 0, 111, 0), (111, .aload_n 0, 112, 0), (112, .getfield 43, 115, 0), (115, .iconst 0, 116, 0), (116, .bipush 6, 118, 0), (118, .invokestatic 64, 121, 0), (121, .aload_n 0, 122, 0), (122, .getfield 51, 125, 0), (125, .aload_n 1, 126, 0), (126, .getfield 51, 129, 0), (129, .invokevirtual 70, 132, 0), (132, .aload_n 0, 133, 0), (133, .getfield 55, 136, 0), (136, .aload_n 1, 137, 0), (137, .getfield 55, 140, 0), (140, .invokevirtual 70, 143, 0), (143, .aload_n 0, 144, 0), (144, .getfield 58, 147, 0), (147, .aload_n 1, 148, 0), (148, .getfield 58, 151, 0), (151, .invokevirtual 70, 154, 0), (154, .return_, 155, 0)]
set_option maxRecDepth 100000 in
theorem L62_ok : L62.all (dck 62) = true := by decide +kernel
theorem d62 {j pc nx tg : Nat} {ins : Instr} (hj : L62[j]? = some (pc, ins, nx, tg)) : dcd 62 pc ins nx tg := dcl_ok L62_ok hj
set_option maxRecDepth 100000 in
set_option maxHeartbeats 4000000 in
theorem r62_0 {x0 x1 : Int} {R1 : dsMem → Prop} {R2 : dsMem → dsMem → Prop} {R3 : dsMem → dsMem → dsMem → Prop} {M : dsMem} {Q : bQT} (hA1 : bCt 5 [uR 1 (x0 + 6), uR 1 (x1 + 6), uX 0] (dsCpy (dsCpy (dsCpy (dsCpy (dsCpy (dsSet (dsSet (dsSet (dsSet (dsSet (dsSet M x0 0 (M x1 0)) x0 1 ((dsSet M x0 0 (M x1 0)) x1 1)) x0 2 ((dsSet (dsSet M x0 0 (M x1 0)) x0 1 ((dsSet M x0 0 (M x1 0)) x1 1)) x1 2)) x0 3 ((dsSet (dsSet (dsSet M x0 0 (M x1 0)) x0 1 ((dsSet M x0 0 (M x1 0)) x1 1)) x0 2 ((dsSet (dsSet M x0 0 (M x1 0)) x0 1 ((dsSet M x0 0 (M x1 0)) x1 1)) x1 2)) x1 3)) x0 4 ((dsSet (dsSet (dsSet (dsSet M x0 0 (M x1 0)) x0 1 ((dsSet M x0 0 (M x1 0)) x1 1)) x0 2 ((dsSet (dsSet M x0 0 (M x1 0)) x0 1 ((dsSet M x0 0 (M x1 0)) x1 1)) x1 2)) x0 3 ((dsSet (dsSet (dsSet M x0 0 (M x1 0)) x0 1 ((dsSet M x0 0 (M x1 0)) x1 1)) x0 2 ((dsSet (dsSet M x0 0 (M x1 0)) x0 1 ((dsSet M x0 0 (M x1 0)) x1 1)) x1 2)) x1 3)) x1 4)) x0 5 ((dsSet (dsSet (dsSet (dsSet (dsSet M x0 0 (M x1 0)) x0 1 ((dsSet M x0 0 (M x1 0)) x1 1)) x0 2 ((dsSet (dsSet M x0 0 (M x1 0)) x0 1 ((dsSet M x0 0 (M x1 0)) x1 1)) x1 2)) x0 3 ((dsSet (dsSet (dsSet M x0 0 (M x1 0)) x0 1 ((dsSet M x0 0 (M x1 0)) x1 1)) x0 2 ((dsSet (dsSet M x0 0 (M x1 0)) x0 1 ((dsSet M x0 0 (M x1 0)) x1 1)) x1 2)) x1 3)) x0 4 ((dsSet (dsSet (dsSet (dsSet M x0 0 (M x1 0)) x0 1 ((dsSet M x0 0 (M x1 0)) x1 1)) x0 2 ((dsSet (dsSet M x0 0 (M x1 0)) x0 1 ((dsSet M x0 0 (M x1 0)) x1 1)) x1 2)) x0 3 ((dsSet (dsSet (dsSet M x0 0 (M x1 0)) x0 1 ((dsSet M x0 0 (M x1 0)) x1 1)) x0 2 ((dsSet (dsSet M x0 0 (M x1 0)) x0 1 ((dsSet M x0 0 (M x1 0)) x1 1)) x1 2)) x1 3)) x1 4)) x1 5)) (x1 + 1) 0 (x0 + 1) 0 3) (x1 + 2) 0 (x0 + 2) 0 3) (x1 + 3) 0 (x0 + 3) 0 6) (x1 + 4) 0 (x0 + 4) 0 6) (x1 + 5) 0 (x0 + 5) 0 6) (fun _ => []) R1) (hA2 : ∀ M1 : dsMem, R1 M1 → bCt 5 [uR 2 (x0 + 11), uR 2 (x1 + 11), uX 0] M1 (fun _ => []) (R2 M1)) (hA3 : ∀ M1 : dsMem, R1 M1 → ∀ M2 : dsMem, R2 M1 M2 → bCt 5 [uR 3 (x0 + 16), uR 3 (x1 + 16), uX 0] M2 (fun _ => []) (R3 M1 M2)) (k1 : ∀ M1 : dsMem, R1 M1 → ∀ M2 : dsMem, R2 M1 M2 → ∀ M3 : dsMem, R3 M1 M2 M3 → Q [] M3) :
    bB 62 0 [uR 4 x0, uR 4 x1] [] M Q := by
  refine b_aload_n (d62 (j := 0) rfl) rfl ?_
  refine b_aload_n (d62 (j := 1) rfl) rfl ?_
  refine b_getI (d62 (j := 2) rfl) rfl rfl rfl rfl (Or.inl rfl) ?_
  refine b_stk [uI (M x1 0), uR 4 x0] rfl ?_
  refine b_putI (d62 (j := 3) rfl) rfl ⟨rfl, rfl⟩ rfl rfl ?_
  refine b_aload_n (d62 (j := 4) rfl) rfl ?_
  refine b_aload_n (d62 (j := 5) rfl) rfl ?_
  refine b_getI (d62 (j := 6) rfl) rfl rfl rfl rfl (Or.inl rfl) ?_
  refine b_stk [uI ((dsSet M x0 0 (M x1 0)) x1 1), uR 4 x0] rfl ?_
  refine b_putI (d62 (j := 7) rfl) rfl ⟨rfl, rfl⟩ rfl rfl ?_
  refine b_aload_n (d62 (j := 8) rfl) rfl ?_
  refine b_aload_n (d62 (j := 9) rfl) rfl ?_
  refine b_getI (d62 (j := 10) rfl) rfl rfl rfl rfl (Or.inl rfl) ?_
  refine b_stk [uI ((dsSet (dsSet M x0 0 (M x1 0)) x0 1 ((dsSet M x0 0 (M x1 0)) x1 1)) x1 2), uR 4 x0] rfl ?_
  refine b_putI (d62 (j := 11) rfl) rfl ⟨rfl, rfl⟩ rfl rfl ?_
  refine b_aload_n (d62 (j := 12) rfl) rfl ?_
  refine b_aload_n (d62 (j := 13) rfl) rfl ?_
  refine b_getI (d62 (j := 14) rfl) rfl rfl rfl rfl (Or.inl rfl) ?_
  refine b_stk [uI ((dsSet (dsSet (dsSet M x0 0 (M x1 0)) x0 1 ((dsSet M x0 0 (M x1 0)) x1 1)) x0 2 ((dsSet (dsSet M x0 0 (M x1 0)) x0 1 ((dsSet M x0 0 (M x1 0)) x1 1)) x1 2)) x1 3), uR 4 x0] rfl ?_
  refine b_putI (d62 (j := 15) rfl) rfl ⟨rfl, rfl⟩ rfl rfl ?_
  refine b_aload_n (d62 (j := 16) rfl) rfl ?_
  refine b_aload_n (d62 (j := 17) rfl) rfl ?_
  refine b_getI (d62 (j := 18) rfl) rfl rfl rfl rfl (Or.inl rfl) ?_
  refine b_stk [uI ((dsSet (dsSet (dsSet (dsSet M x0 0 (M x1 0)) x0 1 ((dsSet M x0 0 (M x1 0)) x1 1)) x0 2 ((dsSet (dsSet M x0 0 (M x1 0)) x0 1 ((dsSet M x0 0 (M x1 0)) x1 1)) x1 2)) x0 3 ((dsSet (dsSet (dsSet M x0 0 (M x1 0)) x0 1 ((dsSet M x0 0 (M x1 0)) x1 1)) x0 2 ((dsSet (dsSet M x0 0 (M x1 0)) x0 1 ((dsSet M x0 0 (M x1 0)) x1 1)) x1 2)) x1 3)) x1 4), uR 4 x0] rfl ?_
  refine b_putI (d62 (j := 19) rfl) rfl ⟨rfl, rfl⟩ rfl rfl ?_
  refine b_aload_n (d62 (j := 20) rfl) rfl ?_
  refine b_aload_n (d62 (j := 21) rfl) rfl ?_
  refine b_getI (d62 (j := 22) rfl) rfl rfl rfl rfl (Or.inl rfl) ?_
  refine b_stk [uI ((dsSet (dsSet (dsSet (dsSet (dsSet M x0 0 (M x1 0)) x0 1 ((dsSet M x0 0 (M x1 0)) x1 1)) x0 2 ((dsSet (dsSet M x0 0 (M x1 0)) x0 1 ((dsSet M x0 0 (M x1 0)) x1 1)) x1 2)) x0 3 ((dsSet (dsSet (dsSet M x0 0 (M x1 0)) x0 1 ((dsSet M x0 0 (M x1 0)) x1 1)) x0 2 ((dsSet (dsSet M x0 0 (M x1 0)) x0 1 ((dsSet M x0 0 (M x1 0)) x1 1)) x1 2)) x1 3)) x0 4 ((dsSet (dsSet (dsSet (dsSet M x0 0 (M x1 0)) x0 1 ((dsSet M x0 0 (M x1 0)) x1 1)) x0 2 ((dsSet (dsSet M x0 0 (M x1 0)) x0 1 ((dsSet M x0 0 (M x1 0)) x1 1)) x1 2)) x0 3 ((dsSet (dsSet (dsSet M x0 0 (M x1 0)) x0 1 ((dsSet M x0 0 (M x1 0)) x1 1)) x0 2 ((dsSet (dsSet M x0 0 (M x1 0)) x0 1 ((dsSet M x0 0 (M x1 0)) x1 1)) x1 2)) x1 3)) x1 4)) x1 5), uR 4 x0] rfl ?_
  refine b_putI (d62 (j := 23) rfl) rfl ⟨rfl, rfl⟩ rfl rfl ?_
  refine b_aload_n (d62 (j := 24) rfl) rfl ?_
  refine b_getR (d62 (j := 25) rfl) rfl rfl rfl rfl ?_
  refine b_iconst (d62 (j := 26) rfl) (by decide) ?_
  refine b_aload_n (d62 (j := 27) rfl) rfl ?_
  refine b_getR (d62 (j := 28) rfl) rfl rfl rfl rfl ?_
  refine b_iconst (d62 (j := 29) rfl) (by decide) ?_
  refine b_iconst (d62 (j := 30) rfl) (by decide) ?_
  refine b_copy (d62 (j := 31) rfl) rfl (by decide) (by decide) ?_
  refine b_aload_n (d62 (j := 32) rfl) rfl ?_
  refine b_getR (d62 (j := 33) rfl) rfl rfl rfl rfl ?_
  refine b_iconst (d62 (j := 34) rfl) (by decide) ?_
  refine b_aload_n (d62 (j := 35) rfl) rfl ?_
  refine b_getR (d62 (j := 36) rfl) rfl rfl rfl rfl ?_
  refine b_iconst (d62 (j := 37) rfl) (by decide) ?_
  refine b_iconst (d62 (j := 38) rfl) (by decide) ?_
  refine b_copy (d62 (j := 39) rfl) rfl (by decide) (by decide) ?_
  refine b_aload_n (d62 (j := 40) rfl) rfl ?_
  refine b_getR (d62 (j := 41) rfl) rfl rfl rfl rfl ?_
  refine b_iconst (d62 (j := 42) rfl) (by decide) ?_
  refine b_aload_n (d62 (j := 43) rfl) rfl ?_
  refine b_getR (d62 (j := 44) rfl) rfl rfl rfl rfl ?_
  refine b_iconst (d62 (j := 45) rfl) (by decide) ?_
  refine b_bipush (d62 (j := 46) rfl) (by decide) ?_
  refine b_copy (d62 (j := 47) rfl) rfl (by decide) (by decide) ?_
  refine b_aload_n (d62 (j := 48) rfl) rfl ?_
  refine b_getR (d62 (j := 49) rfl) rfl rfl rfl rfl ?_
  refine b_iconst (d62 (j := 50) rfl) (by decide) ?_
  refine b_aload_n (d62 (j := 51) rfl) rfl ?_
  refine b_getR (d62 (j := 52) rfl) rfl rfl rfl rfl ?_
  refine b_iconst (d62 (j := 53) rfl) (by decide) ?_
  refine b_bipush (d62 (j := 54) rfl) (by decide) ?_
  refine b_copy (d62 (j := 55) rfl) rfl (by decide) (by decide) ?_
  refine b_aload_n (d62 (j := 56) rfl) rfl ?_
  refine b_getR (d62 (j := 57) rfl) rfl rfl rfl rfl ?_
  refine b_iconst (d62 (j := 58) rfl) (by decide) ?_
  refine b_aload_n (d62 (j := 59) rfl) rfl ?_
  refine b_getR (d62 (j := 60) rfl) rfl rfl rfl rfl ?_
  refine b_iconst (d62 (j := 61) rfl) (by decide) ?_
  refine b_bipush (d62 (j := 62) rfl) (by decide) ?_
  refine b_copy (d62 (j := 63) rfl) rfl (by decide) (by decide) ?_
  refine b_aload_n (d62 (j := 64) rfl) rfl ?_
  refine b_getR (d62 (j := 65) rfl) rfl rfl rfl rfl ?_
  refine b_aload_n (d62 (j := 66) rfl) rfl ?_
  refine b_getR (d62 (j := 67) rfl) rfl rfl rfl rfl ?_
  refine b_callV (d62 (j := 68) rfl) rfl rfl (Or.inl rfl) rfl (bCk_mk (n := 0) (k := 2) (by decide +kernel) rfl rfl) ((hA1) _ (fun M1 hR1 => ?_))
  refine b_stk [] rfl ?_
  refine b_aload_n (d62 (j := 69) rfl) rfl ?_
  refine b_getR (d62 (j := 70) rfl) rfl rfl rfl rfl ?_
  refine b_aload_n (d62 (j := 71) rfl) rfl ?_
  refine b_getR (d62 (j := 72) rfl) rfl rfl rfl rfl ?_
  refine b_callV (d62 (j := 73) rfl) rfl rfl (Or.inl rfl) rfl (bCk_mk (n := 0) (k := 2) (by decide +kernel) rfl rfl) ((hA2 M1 hR1) _ (fun M2 hR2 => ?_))
  refine b_stk [] rfl ?_
  refine b_aload_n (d62 (j := 74) rfl) rfl ?_
  refine b_getR (d62 (j := 75) rfl) rfl rfl rfl rfl ?_
  refine b_aload_n (d62 (j := 76) rfl) rfl ?_
  refine b_getR (d62 (j := 77) rfl) rfl rfl rfl rfl ?_
  refine b_callV (d62 (j := 78) rfl) rfl rfl (Or.inl rfl) rfl (bCk_mk (n := 0) (k := 2) (by decide +kernel) rfl rfl) ((hA3 M1 hR1 M2 hR2) _ (fun M3 hR3 => ?_))
  refine b_stk [] rfl ?_
  exact b_vret (d62 (j := 79) rfl) rfl (k1 M1 hR1 M2 hR2 M3 hR3)
def L66 : List (Nat × Instr × Nat × Nat) := [(0, .aload_n 0, 1, 0), (1, .getfield 24, 4, 0), (4, .iconst 3, 5, 0), (5, .if_icmp .ge 33, 8, 38), (8, .aload_n 0, 9, 0), (9, .getfield 30, 12, 0), (12, .aload_n 0, 13, 0), (13, .getfield 24, 16, 0), (16, .iload_n 1, 17, 0), (17, .iastore, 18, 0), (18, .aload_n 0, 19, 0), (19, .getfield 34, 22, 0), (22, .aload_n 0, 23, 0), (23, .getfield 24, 26, 0), (26, .iload_n 2, 27, 0), (27, .iastore, 28, 0), (28, .aload_n 0, 29, 0), (29, .dup, 30, 0), (30, .getfield 24, 33, 0), (33, .iconst 1, 34, 0), (34, .iadd, 35, 0), (35, .putfield 24, 38, 0), (38, .return_, 39, 0)]
set_option maxRecDepth 100000 in
theorem L66_ok : L66.all (dck 66) = true := by decide +kernel
theorem d66 {j pc nx tg : Nat} {ins : Instr} (hj : L66[j]? = some (pc, ins, nx, tg)) : dcd 66 pc ins nx tg := dcl_ok L66_ok hj
set_option maxRecDepth 100000 in
set_option maxHeartbeats 4000000 in
theorem r66_0 {x0 x1 x2 : Int}  {M : dsMem} {Q : bQT} (k1 : (3 ≤ (M x0 4)) → Q [] M) (s1 : (¬ 3 ≤ (M x0 4)) → 0 ≤ (M x0 4) ∧ (M x0 4) < 3 := by intros; omega) (s2 : (¬ 3 ≤ (M x0 4)) → -2147483648 ≤ ((M x0 4) + 1) ∧ ((M x0 4) + 1) < 2147483648 := by intros; omega) (k2 : (¬ 3 ≤ (M x0 4)) → Q [] (dsSet (dsSet (dsSet M (x0 + 1) (M x0 4) x1) (x0 + 2) (M x0 4) x2) x0 4 ((M x0 4) + 1))) :
    bB 66 0 [uR 4 x0, uI x1, uI x2] [] M Q := by
  refine b_aload_n (d66 (j := 0) rfl) rfl ?_
  refine b_getI (d66 (j := 1) rfl) rfl rfl rfl rfl (Or.inl rfl) ?_
  refine b_stk [uI (M x0 4)] rfl ?_
  refine b_iconst (d66 (j := 2) rfl) (by decide) ?_
  refine b_icmp_ge (d66 (j := 3) rfl) (fun c1 => ?_) (fun c1 => ?_)
  ·
    exact b_vret (d66 (j := 22) rfl) rfl (k1 c1)
  ·
    refine b_aload_n (d66 (j := 4) rfl) rfl ?_
    refine b_getR (d66 (j := 5) rfl) rfl rfl rfl rfl ?_
    refine b_aload_n (d66 (j := 6) rfl) rfl ?_
    refine b_getI (d66 (j := 7) rfl) rfl rfl rfl rfl (Or.inl rfl) ?_
    refine b_stk [uI (M x0 4), uR 23 (x0 + 1)] rfl ?_
    refine b_iload_n (d66 (j := 8) rfl) rfl ?_
    refine b_iastore (d66 (j := 9) rfl) rfl (s1 c1) ?_
    refine b_aload_n (d66 (j := 10) rfl) rfl ?_
    refine b_getR (d66 (j := 11) rfl) rfl rfl rfl rfl ?_
    refine b_aload_n (d66 (j := 12) rfl) rfl ?_
    refine b_getI (d66 (j := 13) rfl) rfl rfl rfl rfl (Or.inl rfl) ?_
    refine b_stk [uI (M x0 4), uR 23 (x0 + 2)] (by rw [ds_get_ne (by omega)] <;> rfl) ?_
    refine b_iload_n (d66 (j := 14) rfl) rfl ?_
    refine b_iastore (d66 (j := 15) rfl) rfl (s1 c1) ?_
    refine b_aload_n (d66 (j := 16) rfl) rfl ?_
    refine b_dup (d66 (j := 17) rfl) rfl ?_
    refine b_getI (d66 (j := 18) rfl) rfl rfl rfl rfl (Or.inl rfl) ?_
    refine b_stk [uI (M x0 4), uR 4 x0] (by rw [ds_get_ne (by omega), ds_get_ne (by omega)] <;> rfl) ?_
    refine b_iconst (d66 (j := 19) rfl) (by decide) ?_
    refine b_iadd (d66 (j := 20) rfl) rfl rfl ?_
    refine b_stk [uI ((M x0 4) + 1), uR 4 x0] (by rw [dsw_r (s2 c1)]) ?_
    refine b_putI (d66 (j := 21) rfl) rfl ⟨rfl, rfl⟩ rfl rfl ?_
    exact b_vret (d66 (j := 22) rfl) rfl (k2 c1)
def L67 : List (Nat × Instr × Nat × Nat) := [(0, .aload_n 0, 1, 0), (1, .getfield 27, 4, 0), (4, .bipush 6, 6, 0), (6, .if_icmp .ge 43, 9, 49), (9, .aload_n 0, 10, 0), (10, .getfield 37, 13, 0), (13, .aload_n 0, 14, 0), (14, .getfield 27, 17, 0), (17, .iload_n 1, 18, 0), (18, .iastore, 19, 0), (19, .aload_n 0, 20, 0), (20, .getfield 40, 23, 0), (23, .aload_n 0, 24, 0), (24, .getfield 27, 27, 0), (27, .iload_n 2, 28, 0), (28, .iastore, 29, 0), (29, .aload_n 0, 30, 0), (30, .getfield 43, 33, 0), (33, .aload_n 0, 34, 0), (34, .getfield 27, 37, 0), (37, .iload_n 3, 38, 0), (38, .iastore, 39, 0), (39, .aload_n 0, 40, 0), (40, .dup, 41, 0), (41, .getfield 27, 44, 0), (44, .iconst 1, 45, 0), (45, .iadd, 46, 0), (46, .putfield 27, 49, 0), (49, .return_, 50, 0)]
set_option maxRecDepth 100000 in
theorem L67_ok : L67.all (dck 67) = true := by decide +kernel
theorem d67 {j pc nx tg : Nat} {ins : Instr} (hj : L67[j]? = some (pc, ins, nx, tg)) : dcd 67 pc ins nx tg := dcl_ok L67_ok hj
set_option maxRecDepth 100000 in
set_option maxHeartbeats 4000000 in
theorem r67_0 {x0 x1 x2 x3 : Int}  {M : dsMem} {Q : bQT} (k1 : (6 ≤ (M x0 5)) → Q [] M) (s1 : (¬ 6 ≤ (M x0 5)) → 0 ≤ (M x0 5) ∧ (M x0 5) < 6 := by intros; omega) (s2 : (¬ 6 ≤ (M x0 5)) → -2147483648 ≤ ((M x0 5) + 1) ∧ ((M x0 5) + 1) < 2147483648 := by intros; omega) (k2 : (¬ 6 ≤ (M x0 5)) → Q [] (dsSet (dsSet (dsSet (dsSet M (x0 + 3) (M x0 5) x1) (x0 + 4) (M x0 5) x2) (x0 + 5) (M x0 5) x3) x0 5 ((M x0 5) + 1))) :
    bB 67 0 [uR 4 x0, uI x1, uI x2, uI x3] [] M Q := by
  refine b_aload_n (d67 (j := 0) rfl) rfl ?_
  refine b_getI (d67 (j := 1) rfl) rfl rfl rfl rfl (Or.inl rfl) ?_
  refine b_stk [uI (M x0 5)] rfl ?_
  refine b_bipush (d67 (j := 2) rfl) (by decide) ?_
  refine b_icmp_ge (d67 (j := 3) rfl) (fun c1 => ?_) (fun c1 => ?_)
  ·
    exact b_vret (d67 (j := 28) rfl) rfl (k1 c1)
  ·
    refine b_aload_n (d67 (j := 4) rfl) rfl ?_
    refine b_getR (d67 (j := 5) rfl) rfl rfl rfl rfl ?_
    refine b_aload_n (d67 (j := 6) rfl) rfl ?_
    refine b_getI (d67 (j := 7) rfl) rfl rfl rfl rfl (Or.inl rfl) ?_
    refine b_stk [uI (M x0 5), uR 21 (x0 + 3)] rfl ?_
    refine b_iload_n (d67 (j := 8) rfl) rfl ?_
    refine b_iastore (d67 (j := 9) rfl) rfl (s1 c1) ?_
    refine b_aload_n (d67 (j := 10) rfl) rfl ?_
    refine b_getR (d67 (j := 11) rfl) rfl rfl rfl rfl ?_
    refine b_aload_n (d67 (j := 12) rfl) rfl ?_
    refine b_getI (d67 (j := 13) rfl) rfl rfl rfl rfl (Or.inl rfl) ?_
    refine b_stk [uI (M x0 5), uR 21 (x0 + 4)] (by rw [ds_get_ne (by omega)] <;> rfl) ?_
    refine b_iload_n (d67 (j := 14) rfl) rfl ?_
    refine b_iastore (d67 (j := 15) rfl) rfl (s1 c1) ?_
    refine b_aload_n (d67 (j := 16) rfl) rfl ?_
    refine b_getR (d67 (j := 17) rfl) rfl rfl rfl rfl ?_
    refine b_aload_n (d67 (j := 18) rfl) rfl ?_
    refine b_getI (d67 (j := 19) rfl) rfl rfl rfl rfl (Or.inl rfl) ?_
    refine b_stk [uI (M x0 5), uR 21 (x0 + 5)] (by rw [ds_get_ne (by omega), ds_get_ne (by omega)] <;> rfl) ?_
    refine b_iload_n (d67 (j := 20) rfl) rfl ?_
    refine b_iastore (d67 (j := 21) rfl) rfl (s1 c1) ?_
    refine b_aload_n (d67 (j := 22) rfl) rfl ?_
    refine b_dup (d67 (j := 23) rfl) rfl ?_
    refine b_getI (d67 (j := 24) rfl) rfl rfl rfl rfl (Or.inl rfl) ?_
    refine b_stk [uI (M x0 5), uR 4 x0] (by rw [ds_get_ne (by omega), ds_get_ne (by omega), ds_get_ne (by omega)] <;> rfl) ?_
    refine b_iconst (d67 (j := 25) rfl) (by decide) ?_
    refine b_iadd (d67 (j := 26) rfl) rfl rfl ?_
    refine b_stk [uI ((M x0 5) + 1), uR 4 x0] (by rw [dsw_r (s2 c1)]) ?_
    refine b_putI (d67 (j := 27) rfl) rfl ⟨rfl, rfl⟩ rfl rfl ?_
    exact b_vret (d67 (j := 28) rfl) rfl (k2 c1)
def L30 : List (Nat × Instr × Nat × Nat) := [(0, .aload_n 0, 1, 0), (1, .iconst 0, 2, 0), (2, .putfield 9, 5, 0), (5, .return_, 6, 0)]
set_option maxRecDepth 100000 in
theorem L30_ok : L30.all (dck 30) = true := by decide +kernel
theorem d30 {j pc nx tg : Nat} {ins : Instr} (hj : L30[j]? = some (pc, ins, nx, tg)) : dcd 30 pc ins nx tg := dcl_ok L30_ok hj
set_option maxRecDepth 100000 in
set_option maxHeartbeats 4000000 in
theorem r30_0   {M : dsMem} {Q : bQT} (k1 : Q [] (dsSet M 77 0 0)) :
    bB 30 0 [uR 7 77] [] M Q := by
  refine b_aload_n (d30 (j := 0) rfl) rfl ?_
  refine b_iconst (d30 (j := 1) rfl) (by decide) ?_
  refine b_putI (d30 (j := 2) rfl) rfl ⟨rfl, rfl⟩ rfl rfl ?_
  exact b_vret (d30 (j := 3) rfl) rfl k1
def L31 : List (Nat × Instr × Nat × Nat) := [(0, .aload_n 0, 1, 0), (1, .getfield 9, 4, 0), (4, .bipush 60, 6, 0), (6, .if_icmp .ge 65, 9, 71), (9, .aload_n 0, 10, 0), (10, .getfield 15, 13, 0), (13, .aload_n 0, 14, 0), (14, .getfield 9, 17, 0), (17, .iload_n 1, 18, 0), (18, .iastore, 19, 0), (19, .iconst 0, 20, 0), (20, .istore 4, 22, 0), (22, .iload 4, 24, 0), (24, .bipush 12, 26, 0), (26, .if_icmp .gt 35, 29, 61), (29, .aload_n 0, 30, 0), (30, .getfield 19, 33, 0), (33, .aload_n 0, 34, 0), (34, .getfield 9, 37, 0), (37, .bipush 13, 39, 0), (39, .imul, 40, 0), (40, .iload 4, 42, 0), (42, .iadd, 43, 0), (43, .aload_n 3, 44, 0), (44, .getfield 25, 47, 0), (47, .iload_n 2, 48, 0), (48, .iload 4, 50, 0), (50, .invokestatic 30, 53, 0), (53, .iaload, 54, 0), (54, .iastore, 55, 0), (55, .iinc 4 1, 58, 0), (58, .goto (-36), 61, 22), (61, .aload_n 0, 62, 0), (62, .dup, 63, 0), (63, .getfield 9, 66, 0), (66, .iconst 1, 67, 0), (67, .iadd, 68, 0), (68, .putfield 9, 71, 0), (71, .return_, 72, 0)]
set_option maxRecDepth 100000 in
theorem L31_ok : L31.all (dck 31) = true := by decide +kernel
theorem d31 {j pc nx tg : Nat} {ins : Instr} (hj : L31[j]? = some (pc, ins, nx, tg)) : dcd 31 pc ins nx tg := dcl_ok L31_ok hj
set_option maxRecDepth 100000 in
set_option maxHeartbeats 4000000 in
theorem r31_0 {x1 x2 : Int}  {M : dsMem} {Q : bQT} (k1 : (60 ≤ (M 77 0)) → Q [] M) (s1 : (¬ 60 ≤ (M 77 0)) → 0 ≤ (M 77 0) ∧ (M 77 0) < 60 := by intros; omega) (k2 : (¬ 60 ≤ (M 77 0)) → bB 31 22 [uR 7 77, uX 0, uI x2, uR 5 62, uI 0] [] (dsSet M 78 (M 77 0) x1) Q) :
    bB 31 0 [uR 7 77, uI x1, uI x2, uR 5 62, uX 0] [] M Q := by
  refine b_aload_n (d31 (j := 0) rfl) rfl ?_
  refine b_getI (d31 (j := 1) rfl) rfl rfl rfl rfl (Or.inl rfl) ?_
  refine b_stk [uI (M 77 0)] rfl ?_
  refine b_bipush (d31 (j := 2) rfl) (by decide) ?_
  refine b_icmp_ge (d31 (j := 3) rfl) (fun c1 => ?_) (fun c1 => ?_)
  ·
    exact b_vret (d31 (j := 38) rfl) rfl (k1 c1)
  ·
    refine b_aload_n (d31 (j := 4) rfl) rfl ?_
    refine b_getR (d31 (j := 5) rfl) rfl rfl rfl rfl ?_
    refine b_stk [uR 30 78] rfl ?_
    refine b_aload_n (d31 (j := 6) rfl) rfl ?_
    refine b_getI (d31 (j := 7) rfl) rfl rfl rfl rfl (Or.inl rfl) ?_
    refine b_stk [uI (M 77 0), uR 30 78] rfl ?_
    refine b_iload_n (d31 (j := 8) rfl) rfl ?_
    refine b_iastore (d31 (j := 9) rfl) rfl (s1 c1) ?_
    refine b_iconst (d31 (j := 10) rfl) (by decide) ?_
    refine b_istore [uR 7 77, uI x1, uI x2, uR 5 62, uI 0] (d31 (j := 11) rfl) (by decide) rfl ?_
    exact bB_le _ (bLe_s (bLe_x (bLe_s (bLe_s (bLe_s bLe_nil))))) (k2 c1)
set_option maxRecDepth 100000 in
set_option maxHeartbeats 4000000 in
theorem r31_22 {x2 x4 : Int}  {M : dsMem} {Q : bQT} (s1 : (12 < x4) → -2147483648 ≤ ((M 77 0) + 1) ∧ ((M 77 0) + 1) < 2147483648 := by intros; omega) (k1 : (12 < x4) → Q [] (dsSet M 77 0 ((M 77 0) + 1))) (s2 : (¬ 12 < x4) → -2147483648 ≤ ((x4 * 6) + x2) ∧ ((x4 * 6) + x2) < 2147483648 := by intros; omega) (s3 : (¬ 12 < x4) → 0 ≤ ((x4 * 6) + x2) ∧ ((x4 * 6) + x2) < 78 := by intros; omega) (s4 : (¬ 12 < x4) → 0 ≤ (((M 77 0) * 13) + x4) ∧ (((M 77 0) * 13) + x4) < 780 := by intros; omega) (s5 : (¬ 12 < x4) → -2147483648 ≤ x4 + 1 ∧ x4 + 1 < 2147483648 := by intros; omega) (k2 : (¬ 12 < x4) → bB 31 22 [uR 7 77, uX 0, uI x2, uR 5 62, uI (x4 + 1)] [] (dsSet M 79 (((M 77 0) * 13) + x4) (M 67 ((x4 * 6) + x2))) Q) :
    bB 31 22 [uR 7 77, uX 0, uI x2, uR 5 62, uI x4] [] M Q := by
  refine b_iload (d31 (j := 12) rfl) rfl ?_
  refine b_bipush (d31 (j := 13) rfl) (by decide) ?_
  refine b_icmp_gt (d31 (j := 14) rfl) (fun c1 => ?_) (fun c1 => ?_)
  ·
    refine b_aload_n (d31 (j := 32) rfl) rfl ?_
    refine b_dup (d31 (j := 33) rfl) rfl ?_
    refine b_getI (d31 (j := 34) rfl) rfl rfl rfl rfl (Or.inl rfl) ?_
    refine b_stk [uI (M 77 0), uR 7 77] rfl ?_
    refine b_iconst (d31 (j := 35) rfl) (by decide) ?_
    refine b_iadd (d31 (j := 36) rfl) rfl rfl ?_
    refine b_stk [uI ((M 77 0) + 1), uR 7 77] (by rw [dsw_r (s1 c1)]) ?_
    refine b_putI (d31 (j := 37) rfl) rfl ⟨rfl, rfl⟩ rfl rfl ?_
    exact b_vret (d31 (j := 38) rfl) rfl (k1 c1)
  ·
    refine b_aload_n (d31 (j := 15) rfl) rfl ?_
    refine b_getR (d31 (j := 16) rfl) rfl rfl rfl rfl ?_
    refine b_stk [uR 31 79] rfl ?_
    refine b_aload_n (d31 (j := 17) rfl) rfl ?_
    refine b_getI (d31 (j := 18) rfl) rfl rfl rfl rfl (Or.inl rfl) ?_
    refine b_stk [uI (M 77 0), uR 31 79] rfl ?_
    refine b_bipush (d31 (j := 19) rfl) (by decide) ?_
    refine b_imul (d31 (j := 20) rfl) rfl rfl ?_
    refine b_iload (d31 (j := 21) rfl) rfl ?_
    refine b_iadd (d31 (j := 22) rfl) (dsw_dsw _) rfl ?_
    refine b_aload_n (d31 (j := 23) rfl) rfl ?_
    refine b_getR (d31 (j := 24) rfl) rfl rfl rfl rfl ?_
    refine b_stk [uR 25 67, uI (dsw ((((M 77 0) * 13) + x4))), uR 31 79] rfl ?_
    refine b_iload_n (d31 (j := 25) rfl) rfl ?_
    refine b_iload (d31 (j := 26) rfl) rfl ?_
    refine b_callS (d31 (j := 27) rfl) (Or.inr rfl) rfl (bCk_mk (n := 3) (k := 2) (by decide +kernel) rfl rfl) (pu146 (s2 c1) ?_)
    refine b_stk [uI ((x4 * 6) + x2), uR 25 67, uI (dsw ((((M 77 0) * 13) + x4))), uR 31 79] rfl ?_
    refine b_iaload (d31 (j := 28) rfl) rfl (s3 c1) ?_
    refine b_stk [uI (M 67 ((x4 * 6) + x2)), uI (((M 77 0) * 13) + x4), uR 31 79] (by rw [dsw_b (s4 c1) (by decide)]) ?_
    refine b_iastore (d31 (j := 29) rfl) rfl (s4 c1) ?_
    refine b_iinc [uR 7 77, uX 0, uI x2, uR 5 62, uI (x4 + 1)] (d31 (j := 30) rfl) rfl (by decide) (s5 c1) rfl ?_
    refine b_goto (d31 (j := 31) rfl) ?_
    exact (k2 c1)
def L34 : List (Nat × Instr × Nat × Nat) := [(0, .iconst 0, 1, 0), (1, .istore_n 2, 2, 0), (2, .iload_n 2, 3, 0), (3, .bipush 60, 5, 0), (5, .if_icmp .gt 16, 8, 21), (8, .aload_n 0, 9, 0), (9, .getfield 22, 12, 0), (12, .iload_n 2, 13, 0), (13, .iconst 0, 14, 0), (14, .iastore, 15, 0), (15, .iinc 2 1, 18, 0), (18, .goto (-16), 21, 2), (21, .iconst 0, 22, 0), (22, .istore_n 2, 23, 0), (23, .iconst 0, 24, 0), (24, .istore_n 3, 25, 0), (25, .iload_n 3, 26, 0), (26, .aload_n 0, 27, 0), (27, .getfield 9, 30, 0), (30, .if_icmp .ge 45, 33, 75), (33, .aload_n 0, 34, 0), (34, .getfield 19, 37, 0), (37, .iload_n 3, 38, 0), (38, .bipush 13, 40, 0), (40, .imul, 41, 0), (41, .iload_n 1, 42, 0), (42, .iadd, 43, 0), (43, .iaload, 44, 0), (44, .istore 4, 46, 0), (46, .aload_n 0, 47, 0), (47, .getfield 22, 50, 0), (50, .iload 4, 52, 0), (52, .dup2, 53, 0), (53, .iaload, 54, 0), (54, .iconst 1, 55, 0), (55, .iadd, 56, 0), (56, .iastore, 57, 0), (57, .iload_n 2, 58, 0), (58, .aload_n 0, 59, 0), (59, .getfield 22, 62, 0), (62, .iload 4, 64, 0), (64, .iaload, 65, 0), (65, .invokestatic 34, 68, 0), (68, .istore_n 2, 69, 0), (69, .iinc 3 1, 72, 0), (72, .goto (-47), 75, 25), (75, .iload_n 2, 76, 0), (76, .ireturn, 77, 0)]
set_option maxRecDepth 100000 in
theorem L34_ok : L34.all (dck 34) = true := by decide +kernel
theorem d34 {j pc nx tg : Nat} {ins : Instr} (hj : L34[j]? = some (pc, ins, nx, tg)) : dcd 34 pc ins nx tg := dcl_ok L34_ok hj
set_option maxRecDepth 100000 in
set_option maxHeartbeats 4000000 in
theorem r34_0 {x1 : Int}  {M : dsMem} {Q : bQT} (k1 : bB 34 2 [uR 7 77, uI x1, uI 0, uX 0, uX 0] [] M Q) :
    bB 34 0 [uR 7 77, uI x1, uX 0, uX 0, uX 0] [] M Q := by
  refine b_iconst (d34 (j := 0) rfl) (by decide) ?_
  refine b_istore_n [uR 7 77, uI x1, uI 0, uX 0, uX 0] (d34 (j := 1) rfl) (by decide) rfl ?_
  exact k1
set_option maxRecDepth 100000 in
set_option maxHeartbeats 4000000 in
theorem r34_2 {x1 x2 : Int}  {M : dsMem} {Q : bQT} (k1 : (60 < x2) → bB 34 25 [uR 7 77, uI x1, uI 0, uI 0, uX 0] [] M Q) (s1 : (¬ 60 < x2) → 0 ≤ x2 ∧ x2 < 61 := by intros; omega) (s2 : (¬ 60 < x2) → -2147483648 ≤ x2 + 1 ∧ x2 + 1 < 2147483648 := by intros; omega) (k2 : (¬ 60 < x2) → bB 34 2 [uR 7 77, uI x1, uI (x2 + 1), uX 0, uX 0] [] (dsSet M 80 x2 0) Q) :
    bB 34 2 [uR 7 77, uI x1, uI x2, uX 0, uX 0] [] M Q := by
  refine b_iload_n (d34 (j := 2) rfl) rfl ?_
  refine b_bipush (d34 (j := 3) rfl) (by decide) ?_
  refine b_icmp_gt (d34 (j := 4) rfl) (fun c1 => ?_) (fun c1 => ?_)
  ·
    refine b_iconst (d34 (j := 12) rfl) (by decide) ?_
    refine b_istore_n [uR 7 77, uI x1, uI 0, uX 0, uX 0] (d34 (j := 13) rfl) (by decide) rfl ?_
    refine b_iconst (d34 (j := 14) rfl) (by decide) ?_
    refine b_istore_n [uR 7 77, uI x1, uI 0, uI 0, uX 0] (d34 (j := 15) rfl) (by decide) rfl ?_
    exact (k1 c1)
  ·
    refine b_aload_n (d34 (j := 5) rfl) rfl ?_
    refine b_getR (d34 (j := 6) rfl) rfl rfl rfl rfl ?_
    refine b_stk [uR 32 80] rfl ?_
    refine b_iload_n (d34 (j := 7) rfl) rfl ?_
    refine b_iconst (d34 (j := 8) rfl) (by decide) ?_
    refine b_iastore (d34 (j := 9) rfl) rfl (s1 c1) ?_
    refine b_iinc [uR 7 77, uI x1, uI (x2 + 1), uX 0, uX 0] (d34 (j := 10) rfl) rfl (by decide) (s2 c1) rfl ?_
    refine b_goto (d34 (j := 11) rfl) ?_
    exact (k2 c1)
set_option maxRecDepth 100000 in
set_option maxHeartbeats 4000000 in
theorem r34_25 {x1 x2 x3 : Int}  {M : dsMem} {Q : bQT} (k1 : ((M 77 0) ≤ x3) → Q [uI x2] M) (s1 : (¬ (M 77 0) ≤ x3) → 0 ≤ ((x3 * 13) + x1) ∧ ((x3 * 13) + x1) < 780 := by intros; omega) (s2 : (¬ (M 77 0) ≤ x3) → 0 ≤ (M 79 ((x3 * 13) + x1)) ∧ (M 79 ((x3 * 13) + x1)) < 61 := by intros; omega) (s3 : (¬ (M 77 0) ≤ x3) → -2147483648 ≤ ((M 80 (M 79 ((x3 * 13) + x1))) + 1) ∧ ((M 80 (M 79 ((x3 * 13) + x1))) + 1) < 2147483648 := by intros; omega) (s4 : (¬ (M 77 0) ≤ x3) → -2147483648 ≤ x3 + 1 ∧ x3 + 1 < 2147483648 := by intros; omega) (k2 : (¬ (M 77 0) ≤ x3) → bB 34 25 [uR 7 77, uI x1, uI (if x2 < ((M 80 (M 79 ((x3 * 13) + x1))) + 1) then ((M 80 (M 79 ((x3 * 13) + x1))) + 1) else x2), uI (x3 + 1), uX 0] [] (dsSet M 80 (M 79 ((x3 * 13) + x1)) ((M 80 (M 79 ((x3 * 13) + x1))) + 1)) Q) :
    bB 34 25 [uR 7 77, uI x1, uI x2, uI x3, uX 0] [] M Q := by
  refine b_iload_n (d34 (j := 16) rfl) rfl ?_
  refine b_aload_n (d34 (j := 17) rfl) rfl ?_
  refine b_getI (d34 (j := 18) rfl) rfl rfl rfl rfl (Or.inl rfl) ?_
  refine b_stk [uI (M 77 0), uI x3] rfl ?_
  refine b_icmp_ge (d34 (j := 19) rfl) (fun c1 => ?_) (fun c1 => ?_)
  ·
    refine b_iload_n (d34 (j := 46) rfl) rfl ?_
    exact b_iret (d34 (j := 47) rfl) rfl (k1 c1)
  ·
    refine b_aload_n (d34 (j := 20) rfl) rfl ?_
    refine b_getR (d34 (j := 21) rfl) rfl rfl rfl rfl ?_
    refine b_stk [uR 31 79] rfl ?_
    refine b_iload_n (d34 (j := 22) rfl) rfl ?_
    refine b_bipush (d34 (j := 23) rfl) (by decide) ?_
    refine b_imul (d34 (j := 24) rfl) rfl rfl ?_
    refine b_iload_n (d34 (j := 25) rfl) rfl ?_
    refine b_iadd (d34 (j := 26) rfl) (dsw_dsw _) rfl ?_
    refine b_stk [uI ((x3 * 13) + x1), uR 31 79] (by rw [dsw_b (s1 c1) (by decide)]) ?_
    refine b_iaload (d34 (j := 27) rfl) rfl (s1 c1) ?_
    refine b_istore [uR 7 77, uI x1, uI x2, uI x3, uI (M 79 ((x3 * 13) + x1))] (d34 (j := 28) rfl) (by decide) rfl ?_
    refine b_aload_n (d34 (j := 29) rfl) rfl ?_
    refine b_getR (d34 (j := 30) rfl) rfl rfl rfl rfl ?_
    refine b_stk [uR 32 80] rfl ?_
    refine b_iload (d34 (j := 31) rfl) rfl ?_
    refine b_dup2 (d34 (j := 32) rfl) ?_
    refine b_iaload (d34 (j := 33) rfl) rfl (s2 c1) ?_
    refine b_iconst (d34 (j := 34) rfl) (by decide) ?_
    refine b_iadd (d34 (j := 35) rfl) rfl rfl ?_
    refine b_stk [uI ((M 80 (M 79 ((x3 * 13) + x1))) + 1), uI (M 79 ((x3 * 13) + x1)), uR 32 80] (by rw [dsw_r (s3 c1)]) ?_
    refine b_iastore (d34 (j := 36) rfl) rfl (s2 c1) ?_
    refine b_iload_n (d34 (j := 37) rfl) rfl ?_
    refine b_aload_n (d34 (j := 38) rfl) rfl ?_
    refine b_getR (d34 (j := 39) rfl) rfl rfl rfl rfl ?_
    refine b_stk [uR 32 80, uI x2] rfl ?_
    refine b_iload (d34 (j := 40) rfl) rfl ?_
    refine b_iaload (d34 (j := 41) rfl) rfl (s2 c1) ?_
    refine b_stk [uI ((M 80 (M 79 ((x3 * 13) + x1))) + 1), uI x2] (by rw [ds_get_eq] <;> rfl) ?_
    refine b_max (d34 (j := 42) rfl) rfl ⟨by decide, Nat.le_of_ble_eq_true rfl⟩ ?_
    refine b_istore_n [uR 7 77, uI x1, uI (if x2 < ((M 80 (M 79 ((x3 * 13) + x1))) + 1) then ((M 80 (M 79 ((x3 * 13) + x1))) + 1) else x2), uI x3, uI (M 79 ((x3 * 13) + x1))] (d34 (j := 43) rfl) (by decide) rfl ?_
    refine b_iinc [uR 7 77, uI x1, uI (if x2 < ((M 80 (M 79 ((x3 * 13) + x1))) + 1) then ((M 80 (M 79 ((x3 * 13) + x1))) + 1) else x2), uI (x3 + 1), uI (M 79 ((x3 * 13) + x1))] (d34 (j := 44) rfl) rfl (by decide) (s4 c1) rfl ?_
    refine b_goto (d34 (j := 45) rfl) ?_
    exact bB_le _ (bLe_s (bLe_s (bLe_s (bLe_s (bLe_x bLe_nil))))) (k2 c1)
def L35 : List (Nat × Instr × Nat × Nat) := [(0, .iconst (-1), 1, 0), (1, .istore_n 2, 2, 0), (2, .aload_n 0, 3, 0), (3, .getfield 9, 6, 0), (6, .istore_n 3, 7, 0), (7, .iconst 0, 8, 0), (8, .istore 4, 10, 0), (10, .iload 4, 12, 0), (12, .iload_n 1, 13, 0), (13, .if_icmp .gt 29, 16, 42), (16, .aload_n 0, 17, 0), (17, .iload 4, 19, 0), (19, .invokevirtual 39, 22, 0), (22, .istore 5, 24, 0), (24, .iload 5, 26, 0), (26, .iload_n 3, 27, 0), (27, .if_icmp .ge 9, 30, 36), (30, .iload 4, 32, 0), (32, .istore_n 2, 33, 0), (33, .iload 5, 35, 0), (35, .istore_n 3, 36, 0), (36, .iinc 4 1, 39, 0), (39, .goto (-29), 42, 10), (42, .iload_n 2, 43, 0), (43, .ireturn, 44, 0)]
set_option maxRecDepth 100000 in
theorem L35_ok : L35.all (dck 35) = true := by decide +kernel
theorem d35 {j pc nx tg : Nat} {ins : Instr} (hj : L35[j]? = some (pc, ins, nx, tg)) : dcd 35 pc ins nx tg := dcl_ok L35_ok hj
set_option maxRecDepth 100000 in
set_option maxHeartbeats 4000000 in
theorem r35_0 {x1 : Int}  {M : dsMem} {Q : bQT} (k1 : bB 35 10 [uR 7 77, uI x1, uI (-1), uI (M 77 0), uI 0, uX 0] [] M Q) :
    bB 35 0 [uR 7 77, uI x1, uX 0, uX 0, uX 0, uX 0] [] M Q := by
  refine b_iconst (d35 (j := 0) rfl) (by decide) ?_
  refine b_istore_n [uR 7 77, uI x1, uI (-1), uX 0, uX 0, uX 0] (d35 (j := 1) rfl) (by decide) rfl ?_
  refine b_aload_n (d35 (j := 2) rfl) rfl ?_
  refine b_getI (d35 (j := 3) rfl) rfl rfl rfl rfl (Or.inl rfl) ?_
  refine b_stk [uI (M 77 0)] rfl ?_
  refine b_istore_n [uR 7 77, uI x1, uI (-1), uI (M 77 0), uX 0, uX 0] (d35 (j := 4) rfl) (by decide) rfl ?_
  refine b_iconst (d35 (j := 5) rfl) (by decide) ?_
  refine b_istore [uR 7 77, uI x1, uI (-1), uI (M 77 0), uI 0, uX 0] (d35 (j := 6) rfl) (by decide) rfl ?_
  exact k1
set_option maxRecDepth 100000 in
set_option maxHeartbeats 4000000 in
theorem r35_10 {x1 x2 x3 x4 : Int} {R1 : dsMem → Prop} {g1 : dsMem → Int} {M : dsMem} {Q : bQT} (k1 : (x1 < x4) → Q [uI x2] M) (hA1 : (¬ x1 < x4) → bCt 34 [uR 7 77, uI x4, uX 0, uX 0, uX 0] M (fun M1 => [uI (g1 M1)]) R1) (s1 : (¬ x1 < x4) → ∀ M1 : dsMem, R1 M1 → (x3 ≤ (g1 M1)) → -2147483648 ≤ x4 + 1 ∧ x4 + 1 < 2147483648 := by intros; omega) (k2 : (¬ x1 < x4) → ∀ M1 : dsMem, R1 M1 → (x3 ≤ (g1 M1)) → bB 35 10 [uR 7 77, uI x1, uI x2, uI x3, uI (x4 + 1), uX 0] [] M1 Q) (s2 : (¬ x1 < x4) → ∀ M1 : dsMem, R1 M1 → (¬ x3 ≤ (g1 M1)) → -2147483648 ≤ x4 + 1 ∧ x4 + 1 < 2147483648 := by intros; omega) (k3 : (¬ x1 < x4) → ∀ M1 : dsMem, R1 M1 → (¬ x3 ≤ (g1 M1)) → bB 35 10 [uR 7 77, uI x1, uI x4, uI (g1 M1), uI (x4 + 1), uX 0] [] M1 Q) :
    bB 35 10 [uR 7 77, uI x1, uI x2, uI x3, uI x4, uX 0] [] M Q := by
  refine b_iload (d35 (j := 7) rfl) rfl ?_
  refine b_iload_n (d35 (j := 8) rfl) rfl ?_
  refine b_icmp_gt (d35 (j := 9) rfl) (fun c1 => ?_) (fun c1 => ?_)
  ·
    refine b_iload_n (d35 (j := 23) rfl) rfl ?_
    exact b_iret (d35 (j := 24) rfl) rfl (k1 c1)
  ·
    refine b_aload_n (d35 (j := 10) rfl) rfl ?_
    refine b_iload (d35 (j := 11) rfl) rfl ?_
    refine b_callV (d35 (j := 12) rfl) rfl rfl (Or.inl rfl) rfl (bCk_mk (n := 0) (k := 2) (by decide +kernel) rfl rfl) ((hA1 c1) _ (fun M1 hR1 => ?_))
    refine b_stk [uI (g1 M1)] rfl ?_
    refine b_istore [uR 7 77, uI x1, uI x2, uI x3, uI x4, uI (g1 M1)] (d35 (j := 13) rfl) (by decide) rfl ?_
    refine b_iload (d35 (j := 14) rfl) rfl ?_
    refine b_iload_n (d35 (j := 15) rfl) rfl ?_
    refine b_icmp_ge (d35 (j := 16) rfl) (fun c2 => ?_) (fun c2 => ?_)
    ·
      refine b_iinc [uR 7 77, uI x1, uI x2, uI x3, uI (x4 + 1), uI (g1 M1)] (d35 (j := 21) rfl) rfl (by decide) (s1 c1 M1 hR1 c2) rfl ?_
      refine b_goto (d35 (j := 22) rfl) ?_
      exact bB_le _ (bLe_s (bLe_s (bLe_s (bLe_s (bLe_s (bLe_x bLe_nil)))))) (k2 c1 M1 hR1 c2)
    ·
      refine b_iload (d35 (j := 17) rfl) rfl ?_
      refine b_istore_n [uR 7 77, uI x1, uI x4, uI x3, uI x4, uI (g1 M1)] (d35 (j := 18) rfl) (by decide) rfl ?_
      refine b_iload (d35 (j := 19) rfl) rfl ?_
      refine b_istore_n [uR 7 77, uI x1, uI x4, uI (g1 M1), uI x4, uI (g1 M1)] (d35 (j := 20) rfl) (by decide) rfl ?_
      refine b_iinc [uR 7 77, uI x1, uI x4, uI (g1 M1), uI (x4 + 1), uI (g1 M1)] (d35 (j := 21) rfl) rfl (by decide) (s2 c1 M1 hR1 c2) rfl ?_
      refine b_goto (d35 (j := 22) rfl) ?_
      exact bB_le _ (bLe_s (bLe_s (bLe_s (bLe_s (bLe_s (bLe_x bLe_nil)))))) (k3 c1 M1 hR1 c2)
def L37 : List (Nat × Instr × Nat × Nat) := [(0, .aload_n 0, 1, 0), (1, .lconst 1, 2, 0), (2, .putfield 15, 5, 0), (5, .aload_n 0, 6, 0), (6, .lconst 0, 7, 0), (7, .putfield 19, 10, 0), (10, .iconst 0, 11, 0), (11, .istore_n 1, 12, 0), (12, .iload_n 1, 13, 0), (13, .iconst 3, 14, 0), (14, .if_icmp .ge 16, 17, 30), (17, .aload_n 0, 18, 0), (18, .getfield 22, 21, 0), (21, .iload_n 1, 22, 0), (22, .lconst 0, 23, 0), (23, .lastore, 24, 0), (24, .iinc 1 1, 27, 0), (27, .goto (-15), 30, 12), (30, .return_, 31, 0)]
set_option maxRecDepth 100000 in
theorem L37_ok : L37.all (dck 37) = true := by decide +kernel
theorem d37 {j pc nx tg : Nat} {ins : Instr} (hj : L37[j]? = some (pc, ins, nx, tg)) : dcd 37 pc ins nx tg := dcl_ok L37_ok hj
set_option maxRecDepth 100000 in
set_option maxHeartbeats 4000000 in
theorem r37_0   {M : dsMem} {Q : bQT} (k1 : bB 37 12 [uR 8 81, uI 0] [] (dsSet (dsSet M 81 1 1) 81 2 0) Q) :
    bB 37 0 [uR 8 81, uX 0] [] M Q := by
  refine b_aload_n (d37 (j := 0) rfl) rfl ?_
  refine b_lconst (d37 (j := 1) rfl) ?_
  refine b_stk [uJ 1, uR 8 81] rfl ?_
  refine b_putJ (d37 (j := 2) rfl) rfl ⟨rfl, rfl⟩ rfl rfl ?_
  refine b_aload_n (d37 (j := 3) rfl) rfl ?_
  refine b_lconst (d37 (j := 4) rfl) ?_
  refine b_stk [uJ 0, uR 8 81] rfl ?_
  refine b_putJ (d37 (j := 5) rfl) rfl ⟨rfl, rfl⟩ rfl rfl ?_
  refine b_iconst (d37 (j := 6) rfl) (by decide) ?_
  refine b_istore_n [uR 8 81, uI 0] (d37 (j := 7) rfl) (by decide) rfl ?_
  exact k1
set_option maxRecDepth 100000 in
set_option maxHeartbeats 4000000 in
theorem r37_12 {x1 : Int}  {M : dsMem} {Q : bQT} (k1 : (3 ≤ x1) → Q [] M) (s1 : (¬ 3 ≤ x1) → 0 ≤ x1 ∧ x1 < 3 := by intros; omega) (s2 : (¬ 3 ≤ x1) → -2147483648 ≤ x1 + 1 ∧ x1 + 1 < 2147483648 := by intros; omega) (k2 : (¬ 3 ≤ x1) → bB 37 12 [uR 8 81, uI (x1 + 1)] [] (dsSet M 82 x1 0) Q) :
    bB 37 12 [uR 8 81, uI x1] [] M Q := by
  refine b_iload_n (d37 (j := 8) rfl) rfl ?_
  refine b_iconst (d37 (j := 9) rfl) (by decide) ?_
  refine b_icmp_ge (d37 (j := 10) rfl) (fun c1 => ?_) (fun c1 => ?_)
  ·
    exact b_vret (d37 (j := 18) rfl) rfl (k1 c1)
  ·
    refine b_aload_n (d37 (j := 11) rfl) rfl ?_
    refine b_getR (d37 (j := 12) rfl) rfl rfl rfl rfl ?_
    refine b_stk [uR 33 82] rfl ?_
    refine b_iload_n (d37 (j := 13) rfl) rfl ?_
    refine b_lconst (d37 (j := 14) rfl) ?_
    refine b_stk [uJ 0, uI x1, uR 33 82] rfl ?_
    refine b_lastore (d37 (j := 15) rfl) rfl (s1 c1) ?_
    refine b_iinc [uR 8 81, uI (x1 + 1)] (d37 (j := 16) rfl) rfl (by decide) (s2 c1) rfl ?_
    refine b_goto (d37 (j := 17) rfl) ?_
    exact (k2 c1)
def L38 : List (Nat × Instr × Nat × Nat) := [(0, .aload_n 0, 1, 0), (1, .dup, 2, 0), (2, .getfield 19, 5, 0), (5, .lload_n 1, 6, 0), (6, .iload 4, 8, 0), (8, .i2l, 9, 0), (9, .lmul, 10, 0), (10, .ladd, 11, 0), (11, .putfield 19, 14, 0), (14, .iconst 0, 15, 0), (15, .istore 5, 17, 0), (17, .iload 5, 19, 0), (19, .iconst 3, 20, 0), (20, .if_icmp .ge 29, 23, 49), (23, .iload_n 3, 24, 0), (24, .iload 5, 26, 0), (26, .invokestatic 26, 29, 0), (29, .ifCond .eq 14, 32, 43), (32, .aload_n 0, 33, 0), (33, .getfield 22, 36, 0), (36, .iload 5, 38, 0), (38, .dup2, 39, 0), (39, .laload, 40, 0), (40, .lload_n 1, 41, 0), (41, .ladd, 42, 0), (42, .lastore, 43, 0), (43, .iinc 5 1, 46, 0), (46, .goto (-29), 49, 17), (49, .return_, 50, 0)]
set_option maxRecDepth 100000 in
theorem L38_ok : L38.all (dck 38) = true := by decide +kernel
theorem d38 {j pc nx tg : Nat} {ins : Instr} (hj : L38[j]? = some (pc, ins, nx, tg)) : dcd 38 pc ins nx tg := dcl_ok L38_ok hj
set_option maxRecDepth 100000 in
set_option maxHeartbeats 4000000 in
theorem r38_0 {x1 x3 x4 : Int}  {M : dsMem} {Q : bQT} (k1 : bB 38 17 [uR 8 81, uJ x1, uX 0, uI x3, uX 0, uI 0] [] (dsSet M 81 2 (dsw64 (((M 81 2) + (x1 * x4))))) Q) :
    bB 38 0 [uR 8 81, uJ x1, uX 0, uI x3, uI x4, uX 0] [] M Q := by
  refine b_aload_n (d38 (j := 0) rfl) rfl ?_
  refine b_dup (d38 (j := 1) rfl) rfl ?_
  refine b_getJ (d38 (j := 2) rfl) rfl rfl rfl rfl rfl ?_
  refine b_stk [uJ (M 81 2), uR 8 81] rfl ?_
  refine b_lload_n (d38 (j := 3) rfl) rfl ?_
  refine b_iload (d38 (j := 4) rfl) rfl ?_
  refine b_i2l (d38 (j := 5) rfl) ?_
  refine b_lmul (d38 (j := 6) rfl) rfl rfl ?_
  refine b_ladd (d38 (j := 7) rfl) rfl (dsw64_dsw _) ?_
  refine b_putJ (d38 (j := 8) rfl) rfl ⟨rfl, rfl⟩ rfl rfl ?_
  refine b_iconst (d38 (j := 9) rfl) (by decide) ?_
  refine b_istore [uR 8 81, uJ x1, uX 0, uI x3, uI x4, uI 0] (d38 (j := 10) rfl) (by decide) rfl ?_
  exact bB_le _ (bLe_s (bLe_s (bLe_s (bLe_s (bLe_x (bLe_s bLe_nil)))))) k1
set_option maxRecDepth 100000 in
set_option maxHeartbeats 4000000 in
theorem r38_17 {x1 x3 x5 : Int}  {M : dsMem} {Q : bQT} (k1 : (3 ≤ x5) → Q [] M) (s1 : (¬ 3 ≤ x5) → (¬ (dsAnd (dsShr x3 x5) 1 = 1)) → -2147483648 ≤ x5 + 1 ∧ x5 + 1 < 2147483648 := by intros; omega) (k2 : (¬ 3 ≤ x5) → (¬ (dsAnd (dsShr x3 x5) 1 = 1)) → bB 38 17 [uR 8 81, uJ x1, uX 0, uI x3, uX 0, uI (x5 + 1)] [] M Q) (s2 : (¬ 3 ≤ x5) → ((dsAnd (dsShr x3 x5) 1 = 1)) → 0 ≤ x5 ∧ x5 < 3 := by intros; omega) (s3 : (¬ 3 ≤ x5) → ((dsAnd (dsShr x3 x5) 1 = 1)) → -9223372036854775808 ≤ ((M 82 x5) + x1) ∧ ((M 82 x5) + x1) < 9223372036854775808 := by intros; omega) (s4 : (¬ 3 ≤ x5) → ((dsAnd (dsShr x3 x5) 1 = 1)) → -2147483648 ≤ x5 + 1 ∧ x5 + 1 < 2147483648 := by intros; omega) (k3 : (¬ 3 ≤ x5) → ((dsAnd (dsShr x3 x5) 1 = 1)) → bB 38 17 [uR 8 81, uJ x1, uX 0, uI x3, uX 0, uI (x5 + 1)] [] (dsSet M 82 x5 ((M 82 x5) + x1)) Q) :
    bB 38 17 [uR 8 81, uJ x1, uX 0, uI x3, uX 0, uI x5] [] M Q := by
  refine b_iload (d38 (j := 11) rfl) rfl ?_
  refine b_iconst (d38 (j := 12) rfl) (by decide) ?_
  refine b_icmp_ge (d38 (j := 13) rfl) (fun c1 => ?_) (fun c1 => ?_)
  ·
    exact b_vret (d38 (j := 28) rfl) rfl (k1 c1)
  ·
    refine b_iload_n (d38 (j := 14) rfl) rfl ?_
    refine b_iload (d38 (j := 15) rfl) rfl ?_
    refine b_callS (d38 (j := 16) rfl) (Or.inr rfl) rfl (bCk_mk (n := 0) (k := 2) (by decide +kernel) rfl rfl) (pu145 ?_)
    refine b_stk [uI (if (dsAnd (dsShr x3 x5) 1 = 1) then 1 else 0)] rfl ?_
    refine b_ifeqP (d38 (j := 17) rfl) (fun c2 => ?_) (fun c2 => ?_)
    ·
      refine b_iinc [uR 8 81, uJ x1, uX 0, uI x3, uX 0, uI (x5 + 1)] (d38 (j := 26) rfl) rfl (by decide) (s1 c1 c2) rfl ?_
      refine b_goto (d38 (j := 27) rfl) ?_
      exact (k2 c1 c2)
    ·
      refine b_aload_n (d38 (j := 18) rfl) rfl ?_
      refine b_getR (d38 (j := 19) rfl) rfl rfl rfl rfl ?_
      refine b_stk [uR 33 82] rfl ?_
      refine b_iload (d38 (j := 20) rfl) rfl ?_
      refine b_dup2 (d38 (j := 21) rfl) ?_
      refine b_laload (d38 (j := 22) rfl) rfl (s2 c1 c2) ?_
      refine b_lload_n (d38 (j := 23) rfl) rfl ?_
      refine b_ladd (d38 (j := 24) rfl) rfl rfl ?_
      refine b_stk [uJ ((M 82 x5) + x1), uI x5, uR 33 82] (by rw [dsw64_r (s3 c1 c2)]) ?_
      refine b_lastore (d38 (j := 25) rfl) rfl (s2 c1 c2) ?_
      refine b_iinc [uR 8 81, uJ x1, uX 0, uI x3, uX 0, uI (x5 + 1)] (d38 (j := 26) rfl) rfl (by decide) (s4 c1 c2) rfl ?_
      refine b_goto (d38 (j := 27) rfl) ?_
      exact (k3 c1 c2)
def L40 : List (Nat × Instr × Nat × Nat) := [(0, .aload_n 0, 1, 0), (1, .iload_n 1, 2, 0), (2, .putfield 9, 5, 0), (5, .aload_n 0, 6, 0), (6, .iload_n 2, 7, 0), (7, .putfield 15, 10, 0), (10, .iconst 0, 11, 0), (11, .istore_n 3, 12, 0), (12, .iload_n 3, 13, 0), (13, .bipush 60, 15, 0), (15, .if_icmp .ge 16, 18, 31), (18, .aload_n 0, 19, 0), (19, .getfield 18, 22, 0), (22, .iload_n 3, 23, 0), (23, .lconst 0, 24, 0), (24, .lastore, 25, 0), (25, .iinc 3 1, 28, 0), (28, .goto (-16), 31, 12), (31, .return_, 32, 0)]
set_option maxRecDepth 100000 in
theorem L40_ok : L40.all (dck 40) = true := by decide +kernel
theorem d40 {j pc nx tg : Nat} {ins : Instr} (hj : L40[j]? = some (pc, ins, nx, tg)) : dcd 40 pc ins nx tg := dcl_ok L40_ok hj
set_option maxRecDepth 100000 in
set_option maxHeartbeats 4000000 in
theorem r40_0 {x0 x1 x2 : Int}  {M : dsMem} {Q : bQT} (k1 : bB 40 12 [uR 9 x0, uX 0, uX 0, uI 0] [] (dsSet (dsSet M x0 0 x1) x0 1 x2) Q) :
    bB 40 0 [uR 9 x0, uI x1, uI x2, uX 0] [] M Q := by
  refine b_aload_n (d40 (j := 0) rfl) rfl ?_
  refine b_iload_n (d40 (j := 1) rfl) rfl ?_
  refine b_putI (d40 (j := 2) rfl) rfl ⟨rfl, rfl⟩ rfl rfl ?_
  refine b_aload_n (d40 (j := 3) rfl) rfl ?_
  refine b_iload_n (d40 (j := 4) rfl) rfl ?_
  refine b_putI (d40 (j := 5) rfl) rfl ⟨rfl, rfl⟩ rfl rfl ?_
  refine b_iconst (d40 (j := 6) rfl) (by decide) ?_
  refine b_istore_n [uR 9 x0, uI x1, uI x2, uI 0] (d40 (j := 7) rfl) (by decide) rfl ?_
  exact bB_le _ (bLe_s (bLe_x (bLe_x (bLe_s bLe_nil)))) k1
set_option maxRecDepth 100000 in
set_option maxHeartbeats 4000000 in
theorem r40_12 {x0 x3 : Int}  {M : dsMem} {Q : bQT} (k1 : (60 ≤ x3) → Q [] M) (s1 : (¬ 60 ≤ x3) → 0 ≤ x3 ∧ x3 < 60 := by intros; omega) (s2 : (¬ 60 ≤ x3) → -2147483648 ≤ x3 + 1 ∧ x3 + 1 < 2147483648 := by intros; omega) (k2 : (¬ 60 ≤ x3) → bB 40 12 [uR 9 x0, uX 0, uX 0, uI (x3 + 1)] [] (dsSet M (x0 + 1) x3 0) Q) :
    bB 40 12 [uR 9 x0, uX 0, uX 0, uI x3] [] M Q := by
  refine b_iload_n (d40 (j := 8) rfl) rfl ?_
  refine b_bipush (d40 (j := 9) rfl) (by decide) ?_
  refine b_icmp_ge (d40 (j := 10) rfl) (fun c1 => ?_) (fun c1 => ?_)
  ·
    exact b_vret (d40 (j := 18) rfl) rfl (k1 c1)
  ·
    refine b_aload_n (d40 (j := 11) rfl) rfl ?_
    refine b_getR (d40 (j := 12) rfl) rfl rfl rfl rfl ?_
    refine b_iload_n (d40 (j := 13) rfl) rfl ?_
    refine b_lconst (d40 (j := 14) rfl) ?_
    refine b_stk [uJ 0, uI x3, uR 34 (x0 + 1)] rfl ?_
    refine b_lastore (d40 (j := 15) rfl) rfl (s1 c1) ?_
    refine b_iinc [uR 9 x0, uX 0, uX 0, uI (x3 + 1)] (d40 (j := 16) rfl) rfl (by decide) (s2 c1) rfl ?_
    refine b_goto (d40 (j := 17) rfl) ?_
    exact (k2 c1)
