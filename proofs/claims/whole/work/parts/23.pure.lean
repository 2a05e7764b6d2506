def L144 : List (Nat × Instr × Nat × Nat) := [(0, .iload_n 0, 1, 0), (1, .iload_n 1, 2, 0), (2, .if_icmp .lt 12, 5, 14), (5, .iload_n 0, 6, 0), (6, .iload_n 2, 7, 0), (7, .if_icmp .gt 7, 10, 14), (10, .iconst 1, 11, 0), (11, .goto 4, 14, 15), (14, .iconst 0, 15, 0), (15, .ireturn, 16, 0)]
set_option maxRecDepth 100000 in
theorem L144_ok : L144.all (dck 144) = true := by decide +kernel
theorem d144 {j pc nx tg : Nat} {ins : Instr} (hj : L144[j]? = some (pc, ins, nx, tg)) : dcd 144 pc ins nx tg := dcl_ok L144_ok hj
set_option maxRecDepth 100000 in
set_option maxHeartbeats 4000000 in
theorem r144_0 {x0 x1 x2 : Int} {M : dsMem} {Q : bQT} (k1 : (x0 < x1) → Q [uI 0] M) (k2 : (¬ x0 < x1) → (x2 < x0) → Q [uI 0] M) (k3 : (¬ x0 < x1) → (¬ x2 < x0) → Q [uI 1] M) :
    bB 144 0 [uI x0, uI x1, uI x2] [] M Q := by
  refine b_iload_n (d144 (j := 0) rfl) rfl ?_
  refine b_iload_n (d144 (j := 1) rfl) rfl ?_
  refine b_icmp_lt (d144 (j := 2) rfl) (fun c1 => ?_) (fun c1 => ?_)
  ·
    refine b_iconst (d144 (j := 8) rfl) (by decide) ?_
    exact b_zret (d144 (j := 9) rfl) rfl (by decide) (k1 c1)
  ·
    refine b_iload_n (d144 (j := 3) rfl) rfl ?_
    refine b_iload_n (d144 (j := 4) rfl) rfl ?_
    refine b_icmp_gt (d144 (j := 5) rfl) (fun c2 => ?_) (fun c2 => ?_)
    ·
      refine b_iconst (d144 (j := 8) rfl) (by decide) ?_
      exact b_zret (d144 (j := 9) rfl) rfl (by decide) (k2 c1 c2)
    ·
      refine b_iconst (d144 (j := 6) rfl) (by decide) ?_
      refine b_goto (d144 (j := 7) rfl) ?_
      exact b_zret (d144 (j := 9) rfl) rfl (by decide) (k3 c1 c2)
theorem pu144 {x0 x1 x2 : Int} {M : dsMem} {Q : bQT}  (k : Q [uI (if (x1 ≤ x0 ∧ x0 ≤ x2) then 1 else 0)] M) : bB 144 0 [uI x0, uI x1, uI x2] [] M Q := by
  refine r144_0 (k1 := ?_) (k2 := ?_) (k3 := ?_) <;> intros <;> first | omega | (rw [if_pos (by omega)] at k; exact k) | (rw [if_neg (by omega)] at k; exact k)
def L145 : List (Nat × Instr × Nat × Nat) := [(0, .iload_n 0, 1, 0), (1, .iload_n 1, 2, 0), (2, .ishr, 3, 0), (3, .iconst 1, 4, 0), (4, .iand, 5, 0), (5, .iconst 1, 6, 0), (6, .if_icmp .ne 7, 9, 13), (9, .iconst 1, 10, 0), (10, .goto 4, 13, 14), (13, .iconst 0, 14, 0), (14, .ireturn, 15, 0)]
set_option maxRecDepth 100000 in
theorem L145_ok : L145.all (dck 145) = true := by decide +kernel
theorem d145 {j pc nx tg : Nat} {ins : Instr} (hj : L145[j]? = some (pc, ins, nx, tg)) : dcd 145 pc ins nx tg := dcl_ok L145_ok hj
set_option maxRecDepth 100000 in
set_option maxHeartbeats 4000000 in
theorem r145_0 {x0 x1 : Int} {M : dsMem} {Q : bQT} (k1 : (¬ (dsAnd (dsShr x0 x1) 1) = 1) → Q [uI 0] M) (k2 : ((dsAnd (dsShr x0 x1) 1) = 1) → Q [uI 1] M) :
    bB 145 0 [uI x0, uI x1] [] M Q := by
  refine b_iload_n (d145 (j := 0) rfl) rfl ?_
  refine b_iload_n (d145 (j := 1) rfl) rfl ?_
  refine b_ishr (d145 (j := 2) rfl) ?_
  refine b_iconst (d145 (j := 3) rfl) (by decide) ?_
  refine b_iand (d145 (j := 4) rfl) ?_
  refine b_iconst (d145 (j := 5) rfl) (by decide) ?_
  refine b_icmp_ne (d145 (j := 6) rfl) (fun c1 => ?_) (fun c1 => ?_)
  ·
    refine b_iconst (d145 (j := 9) rfl) (by decide) ?_
    exact b_zret (d145 (j := 10) rfl) rfl (by decide) (k1 c1)
  ·
    refine b_iconst (d145 (j := 7) rfl) (by decide) ?_
    refine b_goto (d145 (j := 8) rfl) ?_
    exact b_zret (d145 (j := 10) rfl) rfl (by decide) (k2 c1)
theorem pu145 {x0 x1 : Int} {M : dsMem} {Q : bQT} (k : Q [uI (if (dsAnd (dsShr x0 x1) 1 = 1) then 1 else 0)] M) : bB 145 0 [uI x0, uI x1] [] M Q := r145_0 (fun c => by rw [if_neg c] at k; exact k) (fun c => by rw [if_pos c] at k; exact k)
def L146 : List (Nat × Instr × Nat × Nat) := [(0, .iload_n 1, 1, 0), (1, .bipush 6, 3, 0), (3, .imul, 4, 0), (4, .iload_n 0, 5, 0), (5, .iadd, 6, 0), (6, .ireturn, 7, 0)]
set_option maxRecDepth 100000 in
theorem L146_ok : L146.all (dck 146) = true := by decide +kernel
theorem d146 {j pc nx tg : Nat} {ins : Instr} (hj : L146[j]? = some (pc, ins, nx, tg)) : dcd 146 pc ins nx tg := dcl_ok L146_ok hj
set_option maxRecDepth 100000 in
set_option maxHeartbeats 4000000 in
theorem r146_0 {x0 x1 : Int} {M : dsMem} {Q : bQT} (s1 : -2147483648 ≤ ((x1 * 6) + x0) ∧ ((x1 * 6) + x0) < 2147483648 := by intros; omega) (k1 : Q [uI ((x1 * 6) + x0)] M) :
    bB 146 0 [uI x0, uI x1] [] M Q := by
  refine b_iload_n (d146 (j := 0) rfl) rfl ?_
  refine b_bipush (d146 (j := 1) rfl) (by decide) ?_
  refine b_imul (d146 (j := 2) rfl) rfl rfl ?_
  refine b_iload_n (d146 (j := 3) rfl) rfl ?_
  refine b_iadd (d146 (j := 4) rfl) (dsw_dsw _) rfl ?_
  refine b_stk [uI ((x1 * 6) + x0)] (by rw [dsw_r s1]) ?_
  exact b_iret (d146 (j := 5) rfl) rfl k1
theorem pu146 {x0 x1 : Int} {M : dsMem} {Q : bQT} (h0 : -2147483648 ≤ ((x1 * 6) + x0) ∧ ((x1 * 6) + x0) < 2147483648) (k : Q [uI (((x1 * 6) + x0))] M) : bB 146 0 [uI x0, uI x1] [] M Q := by
  refine r146_0 (k1 := ?_) <;> intros <;> first | omega | exact k
def L147 : List (Nat × Instr × Nat × Nat) := [(0, .iload_n 0, 1, 0), (1, .iconst 1, 2, 0), (2, .iconst 5, 3, 0), (3, .invokestatic 104, 6, 0), (6, .ireturn, 7, 0)]
set_option maxRecDepth 100000 in
theorem L147_ok : L147.all (dck 147) = true := by decide +kernel
theorem d147 {j pc nx tg : Nat} {ins : Instr} (hj : L147[j]? = some (pc, ins, nx, tg)) : dcd 147 pc ins nx tg := dcl_ok L147_ok hj
set_option maxRecDepth 100000 in
set_option maxHeartbeats 4000000 in
theorem r147_0 {x0 : Int} {M : dsMem} {Q : bQT} (k1 : Q [uI (if (1 ≤ x0 ∧ x0 ≤ 5) then 1 else 0)] M) :
    bB 147 0 [uI x0] [] M Q := by
  refine b_iload_n (d147 (j := 0) rfl) rfl ?_
  refine b_iconst (d147 (j := 1) rfl) (by decide) ?_
  refine b_iconst (d147 (j := 2) rfl) (by decide) ?_
  refine b_callS (d147 (j := 3) rfl) (Or.inl rfl) rfl (bCk_mk (n := 0) (k := 3) (by decide +kernel) rfl rfl) (pu144  ?_)
  refine b_stk [uI (if (1 ≤ x0 ∧ x0 ≤ 5) then 1 else 0)] rfl ?_
  exact b_zret (d147 (j := 4) rfl) rfl (b_01 _) k1
theorem pu147 {x0 : Int} {M : dsMem} {Q : bQT}  (k : Q [uI (if (1 ≤ x0 ∧ x0 ≤ 5) then 1 else 0)] M) : bB 147 0 [uI x0] [] M Q := by
  refine r147_0 (k1 := ?_) <;> intros <;> first | omega | (rw [if_pos (by omega)] at k; exact k) | (rw [if_neg (by omega)] at k; exact k)
def L148 : List (Nat × Instr × Nat × Nat) := [(0, .iload_n 0, 1, 0), (1, .iconst 0, 2, 0), (2, .iconst 3, 3, 0), (3, .invokestatic 104, 6, 0), (6, .ireturn, 7, 0)]
set_option maxRecDepth 100000 in
theorem L148_ok : L148.all (dck 148) = true := by decide +kernel
theorem d148 {j pc nx tg : Nat} {ins : Instr} (hj : L148[j]? = some (pc, ins, nx, tg)) : dcd 148 pc ins nx tg := dcl_ok L148_ok hj
set_option maxRecDepth 100000 in
set_option maxHeartbeats 4000000 in
theorem r148_0 {x0 : Int} {M : dsMem} {Q : bQT} (k1 : Q [uI (if (0 ≤ x0 ∧ x0 ≤ 3) then 1 else 0)] M) :
    bB 148 0 [uI x0] [] M Q := by
  refine b_iload_n (d148 (j := 0) rfl) rfl ?_
  refine b_iconst (d148 (j := 1) rfl) (by decide) ?_
  refine b_iconst (d148 (j := 2) rfl) (by decide) ?_
  refine b_callS (d148 (j := 3) rfl) (Or.inl rfl) rfl (bCk_mk (n := 0) (k := 3) (by decide +kernel) rfl rfl) (pu144  ?_)
  refine b_stk [uI (if (0 ≤ x0 ∧ x0 ≤ 3) then 1 else 0)] rfl ?_
  exact b_zret (d148 (j := 4) rfl) rfl (b_01 _) k1
theorem pu148 {x0 : Int} {M : dsMem} {Q : bQT}  (k : Q [uI (if (0 ≤ x0 ∧ x0 ≤ 3) then 1 else 0)] M) : bB 148 0 [uI x0] [] M Q := by
  refine r148_0 (k1 := ?_) <;> intros <;> first | omega | (rw [if_pos (by omega)] at k; exact k) | (rw [if_neg (by omega)] at k; exact k)
def L149 : List (Nat × Instr × Nat × Nat) := [(0, .aload_n 0, 1, 0), (1, .getfield 23, 4, 0), (4, .getfield 91, 7, 0), (7, .ifCond .le 7, 10, 14), (10, .iconst 1, 11, 0), (11, .goto 4, 14, 15), (14, .iconst 0, 15, 0), (15, .ireturn, 16, 0)]
set_option maxRecDepth 100000 in
theorem L149_ok : L149.all (dck 149) = true := by decide +kernel
theorem d149 {j pc nx tg : Nat} {ins : Instr} (hj : L149[j]? = some (pc, ins, nx, tg)) : dcd 149 pc ins nx tg := dcl_ok L149_ok hj
set_option maxRecDepth 100000 in
set_option maxHeartbeats 4000000 in
theorem r149_0 {x0 : Int} {M : dsMem} {Q : bQT} (k1 : ((M (x0 + 24) 0) ≤ 0) → Q [uI 0] M) (k2 : (¬ (M (x0 + 24) 0) ≤ 0) → Q [uI 1] M) :
    bB 149 0 [uR 10 x0] [] M Q := by
  refine b_aload_n (d149 (j := 0) rfl) rfl ?_
  refine b_getR (d149 (j := 1) rfl) rfl rfl rfl rfl ?_
  refine b_getI (d149 (j := 2) rfl) rfl rfl rfl rfl (Or.inl rfl) ?_
  refine b_stk [uI (M (x0 + 24) 0)] rfl ?_
  refine b_if_le (d149 (j := 3) rfl) (fun c1 => ?_) (fun c1 => ?_)
  ·
    refine b_iconst (d149 (j := 6) rfl) (by decide) ?_
    exact b_zret (d149 (j := 7) rfl) rfl (by decide) (k1 c1)
  ·
    refine b_iconst (d149 (j := 4) rfl) (by decide) ?_
    refine b_goto (d149 (j := 5) rfl) ?_
    exact b_zret (d149 (j := 7) rfl) rfl (by decide) (k2 c1)
theorem pu149 {x0 : Int} {M : dsMem} {Q : bQT}  (k : Q [uI (if (0 < (M (x0 + 24) 0)) then 1 else 0)] M) : bB 149 0 [uR 10 x0] [] M Q := by
  refine r149_0 (k1 := ?_) (k2 := ?_) <;> intros <;> first | omega | (rw [if_pos (by omega)] at k; exact k) | (rw [if_neg (by omega)] at k; exact k)
def L150 : List (Nat × Instr × Nat × Nat) := [(0, .iload_n 1, 1, 0), (1, .iconst 0, 2, 0), (2, .aload_n 0, 3, 0), (3, .getfield 23, 6, 0), (6, .getfield 222, 9, 0), (9, .iconst 1, 10, 0), (10, .isub, 11, 0), (11, .invokestatic 104, 14, 0), (14, .ireturn, 15, 0)]
set_option maxRecDepth 100000 in
theorem L150_ok : L150.all (dck 150) = true := by decide +kernel
theorem d150 {j pc nx tg : Nat} {ins : Instr} (hj : L150[j]? = some (pc, ins, nx, tg)) : dcd 150 pc ins nx tg := dcl_ok L150_ok hj
set_option maxRecDepth 100000 in
set_option maxHeartbeats 4000000 in
theorem r150_0 {x0 x1 : Int} {M : dsMem} {Q : bQT} (s1 : -2147483648 ≤ ((M (x0 + 24) 4) - 1) ∧ ((M (x0 + 24) 4) - 1) < 2147483648 := by intros; omega) (k1 : Q [uI (if (0 ≤ x1 ∧ x1 ≤ ((M (x0 + 24) 4) - 1)) then 1 else 0)] M) :
    bB 150 0 [uR 10 x0, uI x1] [] M Q := by
  refine b_iload_n (d150 (j := 0) rfl) rfl ?_
  refine b_iconst (d150 (j := 1) rfl) (by decide) ?_
  refine b_aload_n (d150 (j := 2) rfl) rfl ?_
  refine b_getR (d150 (j := 3) rfl) rfl rfl rfl rfl ?_
  refine b_getI (d150 (j := 4) rfl) rfl rfl rfl rfl (Or.inl rfl) ?_
  refine b_stk [uI (M (x0 + 24) 4), uI 0, uI x1] rfl ?_
  refine b_iconst (d150 (j := 5) rfl) (by decide) ?_
  refine b_isub (d150 (j := 6) rfl) rfl rfl ?_
  refine b_stk [uI ((M (x0 + 24) 4) - 1), uI 0, uI x1] (by rw [dsw_r s1]) ?_
  refine b_callS (d150 (j := 7) rfl) (Or.inl rfl) rfl (bCk_mk (n := 0) (k := 3) (by decide +kernel) rfl rfl) (pu144  ?_)
  refine b_stk [uI (if (0 ≤ x1 ∧ x1 ≤ ((M (x0 + 24) 4) - 1)) then 1 else 0)] rfl ?_
  exact b_zret (d150 (j := 8) rfl) rfl (b_01 _) k1
theorem pu150 {x0 x1 : Int} {M : dsMem} {Q : bQT} (h0 : -2147483648 ≤ ((M (x0 + 24) 4) - 1) ∧ ((M (x0 + 24) 4) - 1) < 2147483648) (k : Q [uI (if (0 ≤ x1 ∧ x1 ≤ (M (x0 + 24) 4) - 1) then 1 else 0)] M) : bB 150 0 [uR 10 x0, uI x1] [] M Q := by
  refine r150_0 (k1 := ?_) <;> intros <;> first | omega | (rw [if_pos (by omega)] at k; exact k) | (rw [if_neg (by omega)] at k; exact k)
def L151 : List (Nat × Instr × Nat × Nat) := [(0, .iload_n 1, 1, 0), (1, .iconst 0, 2, 0), (2, .aload_n 0, 3, 0), (3, .getfield 23, 6, 0), (6, .getfield 142, 9, 0), (9, .iconst 1, 10, 0), (10, .isub, 11, 0), (11, .invokestatic 104, 14, 0), (14, .ireturn, 15, 0)]
set_option maxRecDepth 100000 in
theorem L151_ok : L151.all (dck 151) = true := by decide +kernel
theorem d151 {j pc nx tg : Nat} {ins : Instr} (hj : L151[j]? = some (pc, ins, nx, tg)) : dcd 151 pc ins nx tg := dcl_ok L151_ok hj
set_option maxRecDepth 100000 in
set_option maxHeartbeats 4000000 in
theorem r151_0 {x0 x1 : Int} {M : dsMem} {Q : bQT} (s1 : -2147483648 ≤ ((M (x0 + 24) 5) - 1) ∧ ((M (x0 + 24) 5) - 1) < 2147483648 := by intros; omega) (k1 : Q [uI (if (0 ≤ x1 ∧ x1 ≤ ((M (x0 + 24) 5) - 1)) then 1 else 0)] M) :
    bB 151 0 [uR 10 x0, uI x1] [] M Q := by
  refine b_iload_n (d151 (j := 0) rfl) rfl ?_
  refine b_iconst (d151 (j := 1) rfl) (by decide) ?_
  refine b_aload_n (d151 (j := 2) rfl) rfl ?_
  refine b_getR (d151 (j := 3) rfl) rfl rfl rfl rfl ?_
  refine b_getI (d151 (j := 4) rfl) rfl rfl rfl rfl (Or.inl rfl) ?_
  refine b_stk [uI (M (x0 + 24) 5), uI 0, uI x1] rfl ?_
  refine b_iconst (d151 (j := 5) rfl) (by decide) ?_
  refine b_isub (d151 (j := 6) rfl) rfl rfl ?_
  refine b_stk [uI ((M (x0 + 24) 5) - 1), uI 0, uI x1] (by rw [dsw_r s1]) ?_
  refine b_callS (d151 (j := 7) rfl) (Or.inl rfl) rfl (bCk_mk (n := 0) (k := 3) (by decide +kernel) rfl rfl) (pu144  ?_)
  refine b_stk [uI (if (0 ≤ x1 ∧ x1 ≤ ((M (x0 + 24) 5) - 1)) then 1 else 0)] rfl ?_
  exact b_zret (d151 (j := 8) rfl) rfl (b_01 _) k1
theorem pu151 {x0 x1 : Int} {M : dsMem} {Q : bQT} (h0 : -2147483648 ≤ ((M (x0 + 24) 5) - 1) ∧ ((M (x0 + 24) 5) - 1) < 2147483648) (k : Q [uI (if (0 ≤ x1 ∧ x1 ≤ (M (x0 + 24) 5) - 1) then 1 else 0)] M) : bB 151 0 [uR 10 x0, uI x1] [] M Q := by
  refine r151_0 (k1 := ?_) <;> intros <;> first | omega | (rw [if_pos (by omega)] at k; exact k) | (rw [if_neg (by omega)] at k; exact k)
def L152 : List (Nat × Instr × Nat × Nat) := [(0, .aload_n 0, 1, 0), (1, .invokevirtual 179, 4, 0), (4, .ifCond .eq 22, 7, 26), (7, .iload_n 1, 8, 0), (8, .iconst 0, 9, 0), (9, .aload_n 0, 10, 0), (10, .getfield 23, 13, 0), (13, .getfield 186, 16, 0), (16, .invokestatic 104, 19, 0), (19, .ifCond .eq 7, 22, 26), (22, .iconst 1, 23, 0), (23, .goto 4, 26, 27), (26, .iconst 0, 27, 0), (27, .ireturn, 28, 0)]
set_option maxRecDepth 100000 in
theorem L152_ok : L152.all (dck 152) = true := by decide +kernel
theorem d152 {j pc nx tg : Nat} {ins : Instr} (hj : L152[j]? = some (pc, ins, nx, tg)) : dcd 152 pc ins nx tg := dcl_ok L152_ok hj
set_option maxRecDepth 100000 in
set_option maxHeartbeats 4000000 in
theorem r152_0 {x0 x1 : Int} {M : dsMem} {Q : bQT} (k1 : (¬ (0 < (M (x0 + 24) 0))) → Q [uI 0] M) (k2 : ((0 < (M (x0 + 24) 0))) → (¬ (0 ≤ x1 ∧ x1 ≤ (M (x0 + 24) 1))) → Q [uI 0] M) (k3 : ((0 < (M (x0 + 24) 0))) → ((0 ≤ x1 ∧ x1 ≤ (M (x0 + 24) 1))) → Q [uI 1] M) :
    bB 152 0 [uR 10 x0, uI x1] [] M Q := by
  refine b_aload_n (d152 (j := 0) rfl) rfl ?_
  refine b_callV (d152 (j := 1) rfl) rfl rfl (Or.inl rfl) rfl (bCk_mk (n := 0) (k := 1) (by decide +kernel) rfl rfl) (pu149  ?_)
  refine b_stk [uI (if (0 < (M (x0 + 24) 0)) then 1 else 0)] rfl ?_
  refine b_ifeqP (d152 (j := 2) rfl) (fun c1 => ?_) (fun c1 => ?_)
  ·
    refine b_iconst (d152 (j := 12) rfl) (by decide) ?_
    exact b_zret (d152 (j := 13) rfl) rfl (by decide) (k1 c1)
  ·
    refine b_iload_n (d152 (j := 3) rfl) rfl ?_
    refine b_iconst (d152 (j := 4) rfl) (by decide) ?_
    refine b_aload_n (d152 (j := 5) rfl) rfl ?_
    refine b_getR (d152 (j := 6) rfl) rfl rfl rfl rfl ?_
    refine b_getI (d152 (j := 7) rfl) rfl rfl rfl rfl (Or.inl rfl) ?_
    refine b_stk [uI (M (x0 + 24) 1), uI 0, uI x1] rfl ?_
    refine b_callS (d152 (j := 8) rfl) (Or.inl rfl) rfl (bCk_mk (n := 0) (k := 3) (by decide +kernel) rfl rfl) (pu144  ?_)
    refine b_stk [uI (if (0 ≤ x1 ∧ x1 ≤ (M (x0 + 24) 1)) then 1 else 0)] rfl ?_
    refine b_ifeqP (d152 (j := 9) rfl) (fun c2 => ?_) (fun c2 => ?_)
    ·
      refine b_iconst (d152 (j := 12) rfl) (by decide) ?_
      exact b_zret (d152 (j := 13) rfl) rfl (by decide) (k2 c1 c2)
    ·
      refine b_iconst (d152 (j := 10) rfl) (by decide) ?_
      refine b_goto (d152 (j := 11) rfl) ?_
      exact b_zret (d152 (j := 13) rfl) rfl (by decide) (k3 c1 c2)
theorem pu152 {x0 x1 : Int} {M : dsMem} {Q : bQT}  (k : Q [uI (if (0 < (M (x0 + 24) 0) ∧ 0 ≤ x1 ∧ x1 ≤ (M (x0 + 24) 1)) then 1 else 0)] M) : bB 152 0 [uR 10 x0, uI x1] [] M Q := by
  refine r152_0 (k1 := ?_) (k2 := ?_) (k3 := ?_) <;> intros <;> first | omega | (rw [if_pos (by omega)] at k; exact k) | (rw [if_neg (by omega)] at k; exact k)
def L153 : List (Nat × Instr × Nat × Nat) := [(0, .aload_n 0, 1, 0), (1, .invokevirtual 179, 4, 0), (4, .ifCond .eq 24, 7, 28), (7, .iload_n 1, 8, 0), (8, .iconst 0, 9, 0), (9, .aload_n 0, 10, 0), (10, .getfield 23, 13, 0), (13, .getfield 186, 16, 0), (16, .iconst 1, 17, 0), (17, .isub, 18, 0), (18, .invokestatic 104, 21, 0), (21, .ifCond .eq 7, 24, 28), (24, .iconst 1, 25, 0), (25, .goto 4, 28, 29), (28, .iconst 0, 29, 0), (29, .ireturn, 30, 0)]
set_option maxRecDepth 100000 in
theorem L153_ok : L153.all (dck 153) = true := by decide +kernel
theorem d153 {j pc nx tg : Nat} {ins : Instr} (hj : L153[j]? = some (pc, ins, nx, tg)) : dcd 153 pc ins nx tg := dcl_ok L153_ok hj
set_option maxRecDepth 100000 in
set_option maxHeartbeats 4000000 in
theorem r153_0 {x0 x1 : Int} {M : dsMem} {Q : bQT} (k1 : (¬ (0 < (M (x0 + 24) 0))) → Q [uI 0] M) (s1 : ((0 < (M (x0 + 24) 0))) → -2147483648 ≤ ((M (x0 + 24) 1) - 1) ∧ ((M (x0 + 24) 1) - 1) < 2147483648 := by intros; omega) (k2 : ((0 < (M (x0 + 24) 0))) → (¬ (0 ≤ x1 ∧ x1 ≤ ((M (x0 + 24) 1) - 1))) → Q [uI 0] M) (k3 : ((0 < (M (x0 + 24) 0))) → ((0 ≤ x1 ∧ x1 ≤ ((M (x0 + 24) 1) - 1))) → Q [uI 1] M) :
    bB 153 0 [uR 10 x0, uI x1] [] M Q := by
  refine b_aload_n (d153 (j := 0) rfl) rfl ?_
  refine b_callV (d153 (j := 1) rfl) rfl rfl (Or.inl rfl) rfl (bCk_mk (n := 0) (k := 1) (by decide +kernel) rfl rfl) (pu149  ?_)
  refine b_stk [uI (if (0 < (M (x0 + 24) 0)) then 1 else 0)] rfl ?_
  refine b_ifeqP (d153 (j := 2) rfl) (fun c1 => ?_) (fun c1 => ?_)
  ·
    refine b_iconst (d153 (j := 14) rfl) (by decide) ?_
    exact b_zret (d153 (j := 15) rfl) rfl (by decide) (k1 c1)
  ·
    refine b_iload_n (d153 (j := 3) rfl) rfl ?_
    refine b_iconst (d153 (j := 4) rfl) (by decide) ?_
    refine b_aload_n (d153 (j := 5) rfl) rfl ?_
    refine b_getR (d153 (j := 6) rfl) rfl rfl rfl rfl ?_
    refine b_getI (d153 (j := 7) rfl) rfl rfl rfl rfl (Or.inl rfl) ?_
    refine b_stk [uI (M (x0 + 24) 1), uI 0, uI x1] rfl ?_
    refine b_iconst (d153 (j := 8) rfl) (by decide) ?_
    refine b_isub (d153 (j := 9) rfl) rfl rfl ?_
    refine b_stk [uI ((M (x0 + 24) 1) - 1), uI 0, uI x1] (by rw [dsw_r (s1 c1)]) ?_
    refine b_callS (d153 (j := 10) rfl) (Or.inl rfl) rfl (bCk_mk (n := 0) (k := 3) (by decide +kernel) rfl rfl) (pu144  ?_)
    refine b_stk [uI (if (0 ≤ x1 ∧ x1 ≤ ((M (x0 + 24) 1) - 1)) then 1 else 0)] rfl ?_
    refine b_ifeqP (d153 (j := 11) rfl) (fun c2 => ?_) (fun c2 => ?_)
    ·
      refine b_iconst (d153 (j := 14) rfl) (by decide) ?_
      exact b_zret (d153 (j := 15) rfl) rfl (by decide) (k2 c1 c2)
    ·
      refine b_iconst (d153 (j := 12) rfl) (by decide) ?_
      refine b_goto (d153 (j := 13) rfl) ?_
      exact b_zret (d153 (j := 15) rfl) rfl (by decide) (k3 c1 c2)
theorem pu153 {x0 x1 : Int} {M : dsMem} {Q : bQT} (h0 : -2147483648 ≤ ((M (x0 + 24) 1) - 1) ∧ ((M (x0 + 24) 1) - 1) < 2147483648) (k : Q [uI (if (0 < (M (x0 + 24) 0) ∧ 0 ≤ x1 ∧ x1 ≤ (M (x0 + 24) 1) - 1) then 1 else 0)] M) : bB 153 0 [uR 10 x0, uI x1] [] M Q := by
  refine r153_0 (k1 := ?_) (k2 := ?_) (k3 := ?_) <;> intros <;> first | omega | (rw [if_pos (by omega)] at k; exact k) | (rw [if_neg (by omega)] at k; exact k)
def L154 : List (Nat × Instr × Nat × Nat) := [(0, .aload_n 0, 1, 0), (1, .iload_n 1, 2, 0), (2, .invokevirtual 114, 5, 0), (5, .ifCond .eq 15, 8, 20), (8, .aload_n 0, 9, 0), (9, .iload_n 2, 10, 0), (10, .invokevirtual 196, 13, 0), (13, .ifCond .eq 7, 16, 20), (16, .iconst 1, 17, 0), (17, .goto 4, 20, 21), (20, .iconst 0, 21, 0), (21, .ireturn, 22, 0)]
set_option maxRecDepth 100000 in
theorem L154_ok : L154.all (dck 154) = true := by decide +kernel
theorem d154 {j pc nx tg : Nat} {ins : Instr} (hj : L154[j]? = some (pc, ins, nx, tg)) : dcd 154 pc ins nx tg := dcl_ok L154_ok hj
set_option maxRecDepth 100000 in
set_option maxHeartbeats 4000000 in
theorem r154_0 {x0 x1 x2 : Int} {M : dsMem} {Q : bQT} (s1 : -2147483648 ≤ ((M (x0 + 24) 5) - 1) ∧ ((M (x0 + 24) 5) - 1) < 2147483648 := by intros; omega) (k1 : (¬ (0 ≤ x1 ∧ x1 ≤ (M (x0 + 24) 5) - 1)) → Q [uI 0] M) (k2 : ((0 ≤ x1 ∧ x1 ≤ (M (x0 + 24) 5) - 1)) → (¬ (0 < (M (x0 + 24) 0) ∧ 0 ≤ x2 ∧ x2 ≤ (M (x0 + 24) 1))) → Q [uI 0] M) (k3 : ((0 ≤ x1 ∧ x1 ≤ (M (x0 + 24) 5) - 1)) → ((0 < (M (x0 + 24) 0) ∧ 0 ≤ x2 ∧ x2 ≤ (M (x0 + 24) 1))) → Q [uI 1] M) :
    bB 154 0 [uR 10 x0, uI x1, uI x2] [] M Q := by
  refine b_aload_n (d154 (j := 0) rfl) rfl ?_
  refine b_iload_n (d154 (j := 1) rfl) rfl ?_
  refine b_callV (d154 (j := 2) rfl) rfl rfl (Or.inl rfl) rfl (bCk_mk (n := 0) (k := 2) (by decide +kernel) rfl rfl) (pu151 s1 ?_)
  refine b_stk [uI (if (0 ≤ x1 ∧ x1 ≤ (M (x0 + 24) 5) - 1) then 1 else 0)] rfl ?_
  refine b_ifeqP (d154 (j := 3) rfl) (fun c1 => ?_) (fun c1 => ?_)
  ·
    refine b_iconst (d154 (j := 10) rfl) (by decide) ?_
    exact b_zret (d154 (j := 11) rfl) rfl (by decide) (k1 c1)
  ·
    refine b_aload_n (d154 (j := 4) rfl) rfl ?_
    refine b_iload_n (d154 (j := 5) rfl) rfl ?_
    refine b_callV (d154 (j := 6) rfl) rfl rfl (Or.inl rfl) rfl (bCk_mk (n := 0) (k := 2) (by decide +kernel) rfl rfl) (pu152  ?_)
    refine b_stk [uI (if (0 < (M (x0 + 24) 0) ∧ 0 ≤ x2 ∧ x2 ≤ (M (x0 + 24) 1)) then 1 else 0)] rfl ?_
    refine b_ifeqP (d154 (j := 7) rfl) (fun c2 => ?_) (fun c2 => ?_)
    ·
      refine b_iconst (d154 (j := 10) rfl) (by decide) ?_
      exact b_zret (d154 (j := 11) rfl) rfl (by decide) (k2 c1 c2)
    ·
      refine b_iconst (d154 (j := 8) rfl) (by decide) ?_
      refine b_goto (d154 (j := 9) rfl) ?_
      exact b_zret (d154 (j := 11) rfl) rfl (by decide) (k3 c1 c2)
theorem pu154 {x0 x1 x2 : Int} {M : dsMem} {Q : bQT} (h0 : -2147483648 ≤ ((M (x0 + 24) 5) - 1) ∧ ((M (x0 + 24) 5) - 1) < 2147483648) (k : Q [uI (if ((0 ≤ x1 ∧ x1 ≤ (M (x0 + 24) 5) - 1) ∧ 0 < (M (x0 + 24) 0) ∧ 0 ≤ x2 ∧ x2 ≤ (M (x0 + 24) 1)) then 1 else 0)] M) : bB 154 0 [uR 10 x0, uI x1, uI x2] [] M Q := by
  refine r154_0 (k1 := ?_) (k2 := ?_) (k3 := ?_) <;> intros <;> first | omega | (rw [if_pos (by omega)] at k; exact k) | (rw [if_neg (by omega)] at k; exact k)
def L63 : List (Nat × Instr × Nat × Nat) := [(0, .iconst 1, 1, 0), (1, .aload_n 0, 2, 0), (2, .getfield 24, 5, 0), (5, .ishl, 6, 0), (6, .iconst 1, 7, 0), (7, .isub, 8, 0), (8, .ireturn, 9, 0)]
set_option maxRecDepth 100000 in
theorem L63_ok : L63.all (dck 63) = true := by decide +kernel
theorem d63 {j pc nx tg : Nat} {ins : Instr} (hj : L63[j]? = some (pc, ins, nx, tg)) : dcd 63 pc ins nx tg := dcl_ok L63_ok hj
set_option maxRecDepth 100000 in
set_option maxHeartbeats 4000000 in
theorem r63_0 {x0 : Int} {M : dsMem} {Q : bQT} (s1 : -2147483648 ≤ ((dsShl 1 (M x0 4)) - 1) ∧ ((dsShl 1 (M x0 4)) - 1) < 2147483648 := by intros; omega) (k1 : Q [uI ((dsShl 1 (M x0 4)) - 1)] M) :
    bB 63 0 [uR 4 x0] [] M Q := by
  refine b_iconst (d63 (j := 0) rfl) (by decide) ?_
  refine b_aload_n (d63 (j := 1) rfl) rfl ?_
  refine b_getI (d63 (j := 2) rfl) rfl rfl rfl rfl (Or.inl rfl) ?_
  refine b_stk [uI (M x0 4), uI 1] rfl ?_
  refine b_ishl (d63 (j := 3) rfl) ?_
  refine b_iconst (d63 (j := 4) rfl) (by decide) ?_
  refine b_isub (d63 (j := 5) rfl) rfl rfl ?_
  refine b_stk [uI ((dsShl 1 (M x0 4)) - 1)] (by rw [dsw_r s1]) ?_
  exact b_iret (d63 (j := 6) rfl) rfl k1
theorem pu63 {x0 : Int} {M : dsMem} {Q : bQT} (h0 : -2147483648 ≤ ((dsShl 1 (M x0 4)) - 1) ∧ ((dsShl 1 (M x0 4)) - 1) < 2147483648) (k : Q [uI (((dsShl 1 (M x0 4)) - 1))] M) : bB 63 0 [uR 4 x0] [] M Q := by
  refine r63_0 (k1 := ?_) <;> intros <;> first | omega | exact k
def L64 : List (Nat × Instr × Nat × Nat) := [(0, .iconst 1, 1, 0), (1, .aload_n 0, 2, 0), (2, .getfield 27, 5, 0), (5, .ishl, 6, 0), (6, .iconst 1, 7, 0), (7, .isub, 8, 0), (8, .ireturn, 9, 0)]
set_option maxRecDepth 100000 in
theorem L64_ok : L64.all (dck 64) = true := by decide +kernel
theorem d64 {j pc nx tg : Nat} {ins : Instr} (hj : L64[j]? = some (pc, ins, nx, tg)) : dcd 64 pc ins nx tg := dcl_ok L64_ok hj
set_option maxRecDepth 100000 in
set_option maxHeartbeats 4000000 in
theorem r64_0 {x0 : Int} {M : dsMem} {Q : bQT} (s1 : -2147483648 ≤ ((dsShl 1 (M x0 5)) - 1) ∧ ((dsShl 1 (M x0 5)) - 1) < 2147483648 := by intros; omega) (k1 : Q [uI ((dsShl 1 (M x0 5)) - 1)] M) :
    bB 64 0 [uR 4 x0] [] M Q := by
  refine b_iconst (d64 (j := 0) rfl) (by decide) ?_
  refine b_aload_n (d64 (j := 1) rfl) rfl ?_
  refine b_getI (d64 (j := 2) rfl) rfl rfl rfl rfl (Or.inl rfl) ?_
  refine b_stk [uI (M x0 5), uI 1] rfl ?_
  refine b_ishl (d64 (j := 3) rfl) ?_
  refine b_iconst (d64 (j := 4) rfl) (by decide) ?_
  refine b_isub (d64 (j := 5) rfl) rfl rfl ?_
  refine b_stk [uI ((dsShl 1 (M x0 5)) - 1)] (by rw [dsw_r s1]) ?_
  exact b_iret (d64 (j := 6) rfl) rfl k1
theorem pu64 {x0 : Int} {M : dsMem} {Q : bQT} (h0 : -2147483648 ≤ ((dsShl 1 (M x0 5)) - 1) ∧ ((dsShl 1 (M x0 5)) - 1) < 2147483648) (k : Q [uI (((dsShl 1 (M x0 5)) - 1))] M) : bB 64 0 [uR 4 x0] [] M Q := by
  refine r64_0 (k1 := ?_) <;> intros <;> first | omega | exact k
def L177 : List (Nat × Instr × Nat × Nat) := [(0, .lload_n 0, 1, 0), (1, .lload_n 2, 2, 0), (2, .lcmp, 3, 0), (3, .ifCond .lt 14, 6, 17), (6, .lload_n 0, 7, 0), (7, .lload 4, 9, 0), (9, .lcmp, 10, 0), (10, .ifCond .gt 7, 13, 17), (13, .iconst 1, 14, 0), (14, .goto 4, 17, 18), (17, .iconst 0, 18, 0), (18, .ireturn, 19, 0)]
set_option maxRecDepth 100000 in
theorem L177_ok : L177.all (dck 177) = true := by decide +kernel
theorem d177 {j pc nx tg : Nat} {ins : Instr} (hj : L177[j]? = some (pc, ins, nx, tg)) : dcd 177 pc ins nx tg := dcl_ok L177_ok hj
set_option maxRecDepth 100000 in
set_option maxHeartbeats 4000000 in
theorem r177_0 {x0 x2 x4 : Int} {M : dsMem} {Q : bQT} (k1 : (x0 < x2) → Q [uI 0] M) (k2 : (¬ x0 < x2) → (x4 < x0) → Q [uI 0] M) (k3 : (¬ x0 < x2) → (¬ x4 < x0) → Q [uI 1] M) :
    bB 177 0 [uJ x0, uX 0, uJ x2, uX 0, uJ x4, uX 0] [] M Q := by
  refine b_lload_n (d177 (j := 0) rfl) rfl ?_
  refine b_lload_n (d177 (j := 1) rfl) rfl ?_
  refine b_lcmp (d177 (j := 2) rfl) ?_
  refine b_lif_lt (d177 (j := 3) rfl) (fun c1 => ?_) (fun c1 => ?_)
  ·
    refine b_iconst (d177 (j := 10) rfl) (by decide) ?_
    exact b_zret (d177 (j := 11) rfl) rfl (by decide) (k1 c1)
  ·
    refine b_lload_n (d177 (j := 4) rfl) rfl ?_
    refine b_lload (d177 (j := 5) rfl) rfl ?_
    refine b_lcmp (d177 (j := 6) rfl) ?_
    refine b_lif_gt (d177 (j := 7) rfl) (fun c2 => ?_) (fun c2 => ?_)
    ·
      refine b_iconst (d177 (j := 10) rfl) (by decide) ?_
      exact b_zret (d177 (j := 11) rfl) rfl (by decide) (k2 c1 c2)
    ·
      refine b_iconst (d177 (j := 8) rfl) (by decide) ?_
      refine b_goto (d177 (j := 9) rfl) ?_
      exact b_zret (d177 (j := 11) rfl) rfl (by decide) (k3 c1 c2)
theorem pu177 {x0 x2 x4 : Int} {M : dsMem} {Q : bQT}  (k : Q [uI (if (x2 ≤ x0 ∧ x0 ≤ x4) then 1 else 0)] M) : bB 177 0 [uJ x0, uX 0, uJ x2, uX 0, uJ x4, uX 0] [] M Q := by
  refine r177_0 (k1 := ?_) (k2 := ?_) (k3 := ?_) <;> intros <;> first | omega | (rw [if_pos (by omega)] at k; exact k) | (rw [if_neg (by omega)] at k; exact k)
def L183 : List (Nat × Instr × Nat × Nat) := [(0, .aload_n 0, 1, 0), (1, .getfield 9, 4, 0), (4, .iconst 0, 5, 0), (5, .iaload, 6, 0), (6, .ireturn, 7, 0)]
set_option maxRecDepth 100000 in
theorem L183_ok : L183.all (dck 183) = true := by decide +kernel
theorem d183 {j pc nx tg : Nat} {ins : Instr} (hj : L183[j]? = some (pc, ins, nx, tg)) : dcd 183 pc ins nx tg := dcl_ok L183_ok hj
set_option maxRecDepth 100000 in
set_option maxHeartbeats 4000000 in
theorem r183_0 {x0 : Int} {M : dsMem} {Q : bQT} (k1 : Q [uI (M (x0 + 1) 0)] M) :
    bB 183 0 [uR 11 x0] [] M Q := by
  refine b_aload_n (d183 (j := 0) rfl) rfl ?_
  refine b_getR (d183 (j := 1) rfl) rfl rfl rfl rfl ?_
  refine b_iconst (d183 (j := 2) rfl) (by decide) ?_
  refine b_iaload (d183 (j := 3) rfl) rfl (by decide) ?_
  exact b_iret (d183 (j := 4) rfl) rfl k1
theorem pu183 {x0 : Int} {M : dsMem} {Q : bQT}  (k : Q [uI ((M (x0 + 1) 0))] M) : bB 183 0 [uR 11 x0] [] M Q := by
  refine r183_0 (k1 := ?_) <;> intros <;> first | omega | exact k
def L184 : List (Nat × Instr × Nat × Nat) := [(0, .aload_n 0, 1, 0), (1, .getfield 9, 4, 0), (4, .iconst 3, 5, 0), (5, .iaload, 6, 0), (6, .ireturn, 7, 0)]
set_option maxRecDepth 100000 in
theorem L184_ok : L184.all (dck 184) = true := by decide +kernel
theorem d184 {j pc nx tg : Nat} {ins : Instr} (hj : L184[j]? = some (pc, ins, nx, tg)) : dcd 184 pc ins nx tg := dcl_ok L184_ok hj
set_option maxRecDepth 100000 in
set_option maxHeartbeats 4000000 in
theorem r184_0 {x0 : Int} {M : dsMem} {Q : bQT} (k1 : Q [uI (M (x0 + 1) 3)] M) :
    bB 184 0 [uR 11 x0] [] M Q := by
  refine b_aload_n (d184 (j := 0) rfl) rfl ?_
  refine b_getR (d184 (j := 1) rfl) rfl rfl rfl rfl ?_
  refine b_iconst (d184 (j := 2) rfl) (by decide) ?_
  refine b_iaload (d184 (j := 3) rfl) rfl (by decide) ?_
  exact b_iret (d184 (j := 4) rfl) rfl k1
theorem pu184 {x0 : Int} {M : dsMem} {Q : bQT}  (k : Q [uI ((M (x0 + 1) 3))] M) : bB 184 0 [uR 11 x0] [] M Q := by
  refine r184_0 (k1 := ?_) <;> intros <;> first | omega | exact k
def L185 : List (Nat × Instr × Nat × Nat) := [(0, .aload_n 0, 1, 0), (1, .getfield 9, 4, 0), (4, .iconst 4, 5, 0), (5, .iaload, 6, 0), (6, .ireturn, 7, 0)]
set_option maxRecDepth 100000 in
theorem L185_ok : L185.all (dck 185) = true := by decide +kernel
theorem d185 {j pc nx tg : Nat} {ins : Instr} (hj : L185[j]? = some (pc, ins, nx, tg)) : dcd 185 pc ins nx tg := dcl_ok L185_ok hj
set_option maxRecDepth 100000 in
set_option maxHeartbeats 4000000 in
theorem r185_0 {x0 : Int} {M : dsMem} {Q : bQT} (k1 : Q [uI (M (x0 + 1) 4)] M) :
    bB 185 0 [uR 11 x0] [] M Q := by
  refine b_aload_n (d185 (j := 0) rfl) rfl ?_
  refine b_getR (d185 (j := 1) rfl) rfl rfl rfl rfl ?_
  refine b_iconst (d185 (j := 2) rfl) (by decide) ?_
  refine b_iaload (d185 (j := 3) rfl) rfl (by decide) ?_
  exact b_iret (d185 (j := 4) rfl) rfl k1
theorem pu185 {x0 : Int} {M : dsMem} {Q : bQT}  (k : Q [uI ((M (x0 + 1) 4))] M) : bB 185 0 [uR 11 x0] [] M Q := by
  refine r185_0 (k1 := ?_) <;> intros <;> first | omega | exact k
def L182 : List (Nat × Instr × Nat × Nat) := [(0, .aload_n 0, 1, 0), (1, .getfield 9, 4, 0), (4, .bipush 8, 6, 0), (6, .iaload, 7, 0), (7, .ifCond .le 7, 10, 14), (10, .iconst 1, 11, 0), (11, .goto 4, 14, 15), (14, .iconst 0, 15, 0), (15, .ireturn, 16, 0)]
set_option maxRecDepth 100000 in
theorem L182_ok : L182.all (dck 182) = true := by decide +kernel
theorem d182 {j pc nx tg : Nat} {ins : Instr} (hj : L182[j]? = some (pc, ins, nx, tg)) : dcd 182 pc ins nx tg := dcl_ok L182_ok hj
set_option maxRecDepth 100000 in
set_option maxHeartbeats 4000000 in
theorem r182_0 {x0 : Int} {M : dsMem} {Q : bQT} (k1 : ((M (x0 + 1) 8) ≤ 0) → Q [uI 0] M) (k2 : (¬ (M (x0 + 1) 8) ≤ 0) → Q [uI 1] M) :
    bB 182 0 [uR 11 x0] [] M Q := by
  refine b_aload_n (d182 (j := 0) rfl) rfl ?_
  refine b_getR (d182 (j := 1) rfl) rfl rfl rfl rfl ?_
  refine b_bipush (d182 (j := 2) rfl) (by decide) ?_
  refine b_iaload (d182 (j := 3) rfl) rfl (by decide) ?_
  refine b_if_le (d182 (j := 4) rfl) (fun c1 => ?_) (fun c1 => ?_)
  ·
    refine b_iconst (d182 (j := 7) rfl) (by decide) ?_
    exact b_zret (d182 (j := 8) rfl) rfl (by decide) (k1 c1)
  ·
    refine b_iconst (d182 (j := 5) rfl) (by decide) ?_
    refine b_goto (d182 (j := 6) rfl) ?_
    exact b_zret (d182 (j := 8) rfl) rfl (by decide) (k2 c1)
theorem pu182 {x0 : Int} {M : dsMem} {Q : bQT}  (k : Q [uI (if (0 < (M (x0 + 1) 8)) then 1 else 0)] M) : bB 182 0 [uR 11 x0] [] M Q := by
  refine r182_0 (k1 := ?_) (k2 := ?_) <;> intros <;> first | omega | (rw [if_pos (by omega)] at k; exact k) | (rw [if_neg (by omega)] at k; exact k)
def L186 : List (Nat × Instr × Nat × Nat) := [(0, .iconst 1, 1, 0), (1, .aload_n 0, 2, 0), (2, .invokevirtual 116, 5, 0), (5, .ishl, 6, 0), (6, .iconst 1, 7, 0), (7, .isub, 8, 0), (8, .ireturn, 9, 0)]
set_option maxRecDepth 100000 in
theorem L186_ok : L186.all (dck 186) = true := by decide +kernel
theorem d186 {j pc nx tg : Nat} {ins : Instr} (hj : L186[j]? = some (pc, ins, nx, tg)) : dcd 186 pc ins nx tg := dcl_ok L186_ok hj
set_option maxRecDepth 100000 in
set_option maxHeartbeats 4000000 in
theorem r186_0 {x0 : Int} {M : dsMem} {Q : bQT} (s1 : -2147483648 ≤ ((dsShl 1 (M (x0 + 1) 4)) - 1) ∧ ((dsShl 1 (M (x0 + 1) 4)) - 1) < 2147483648 := by intros; omega) (k1 : Q [uI ((dsShl 1 (M (x0 + 1) 4)) - 1)] M) :
    bB 186 0 [uR 11 x0] [] M Q := by
  refine b_iconst (d186 (j := 0) rfl) (by decide) ?_
  refine b_aload_n (d186 (j := 1) rfl) rfl ?_
  refine b_callV (d186 (j := 2) rfl) rfl rfl (Or.inl rfl) rfl (bCk_mk (n := 1) (k := 1) (by decide +kernel) rfl rfl) (pu185  ?_)
  refine b_stk [uI (M (x0 + 1) 4), uI 1] rfl ?_
  refine b_ishl (d186 (j := 3) rfl) ?_
  refine b_iconst (d186 (j := 4) rfl) (by decide) ?_
  refine b_isub (d186 (j := 5) rfl) rfl rfl ?_
  refine b_stk [uI ((dsShl 1 (M (x0 + 1) 4)) - 1)] (by rw [dsw_r s1]) ?_
  exact b_iret (d186 (j := 6) rfl) rfl k1
theorem pu186 {x0 : Int} {M : dsMem} {Q : bQT} (h0 : -2147483648 ≤ ((dsShl 1 (M (x0 + 1) 4)) - 1) ∧ ((dsShl 1 (M (x0 + 1) 4)) - 1) < 2147483648) (k : Q [uI (((dsShl 1 (M (x0 + 1) 4)) - 1))] M) : bB 186 0 [uR 11 x0] [] M Q := by
  refine r186_0 (k1 := ?_) <;> intros <;> first | omega | exact k
def L179 : List (Nat × Instr × Nat × Nat) := [(0, .iload_n 0, 1, 0), (1, .iload_n 1, 2, 0), (2, .ishr, 3, 0), (3, .iconst 1, 4, 0), (4, .iand, 5, 0), (5, .ireturn, 6, 0)]
set_option maxRecDepth 100000 in
theorem L179_ok : L179.all (dck 179) = true := by decide +kernel
theorem d179 {j pc nx tg : Nat} {ins : Instr} (hj : L179[j]? = some (pc, ins, nx, tg)) : dcd 179 pc ins nx tg := dcl_ok L179_ok hj
set_option maxRecDepth 100000 in
set_option maxHeartbeats 4000000 in
theorem r179_0 {x0 x1 : Int} {M : dsMem} {Q : bQT} (k1 : Q [uI (dsAnd (dsShr x0 x1) 1)] M) :
    bB 179 0 [uI x0, uI x1] [] M Q := by
  refine b_iload_n (d179 (j := 0) rfl) rfl ?_
  refine b_iload_n (d179 (j := 1) rfl) rfl ?_
  refine b_ishr (d179 (j := 2) rfl) ?_
  refine b_iconst (d179 (j := 3) rfl) (by decide) ?_
  refine b_iand (d179 (j := 4) rfl) ?_
  exact b_iret (d179 (j := 5) rfl) rfl k1
theorem pu179 {x0 x1 : Int} {M : dsMem} {Q : bQT}  (k : Q [uI ((dsAnd (dsShr x0 x1) 1))] M) : bB 179 0 [uI x0, uI x1] [] M Q := by
  refine r179_0 (k1 := ?_) <;> intros <;> first | omega | exact k
def L187 : List (Nat × Instr × Nat × Nat) := [(0, .aload_n 0, 1, 0), (1, .invokevirtual 120, 4, 0), (4, .ifCond .eq 20, 7, 24), (7, .lload_n 1, 8, 0), (8, .lconst 0, 9, 0), (9, .aload_n 0, 10, 0), (10, .invokevirtual 124, 13, 0), (13, .i2l, 14, 0), (14, .invokestatic 112, 17, 0), (17, .ifCond .eq 7, 20, 24), (20, .iconst 1, 21, 0), (21, .goto 4, 24, 25), (24, .iconst 0, 25, 0), (25, .ireturn, 26, 0)]
set_option maxRecDepth 100000 in
theorem L187_ok : L187.all (dck 187) = true := by decide +kernel
theorem d187 {j pc nx tg : Nat} {ins : Instr} (hj : L187[j]? = some (pc, ins, nx, tg)) : dcd 187 pc ins nx tg := dcl_ok L187_ok hj
set_option maxRecDepth 100000 in
set_option maxHeartbeats 4000000 in
theorem r187_0 {x0 x1 : Int} {M : dsMem} {Q : bQT} (k1 : (¬ (0 < (M (x0 + 1) 8))) → Q [uI 0] M) (k2 : ((0 < (M (x0 + 1) 8))) → (¬ (0 ≤ x1 ∧ x1 ≤ (M (x0 + 1) 0))) → Q [uI 0] M) (k3 : ((0 < (M (x0 + 1) 8))) → ((0 ≤ x1 ∧ x1 ≤ (M (x0 + 1) 0))) → Q [uI 1] M) :
    bB 187 0 [uR 11 x0, uJ x1, uX 0] [] M Q := by
  refine b_aload_n (d187 (j := 0) rfl) rfl ?_
  refine b_callV (d187 (j := 1) rfl) rfl rfl (Or.inl rfl) rfl (bCk_mk (n := 0) (k := 1) (by decide +kernel) rfl rfl) (pu182  ?_)
  refine b_stk [uI (if (0 < (M (x0 + 1) 8)) then 1 else 0)] rfl ?_
  refine b_ifeqP (d187 (j := 2) rfl) (fun c1 => ?_) (fun c1 => ?_)
  ·
    refine b_iconst (d187 (j := 12) rfl) (by decide) ?_
    exact b_zret (d187 (j := 13) rfl) rfl (by decide) (k1 c1)
  ·
    refine b_lload_n (d187 (j := 3) rfl) rfl ?_
    refine b_lconst (d187 (j := 4) rfl) ?_
    refine b_stk [uJ 0, uJ x1] rfl ?_
    refine b_aload_n (d187 (j := 5) rfl) rfl ?_
    refine b_callV (d187 (j := 6) rfl) rfl rfl (Or.inl rfl) rfl (bCk_mk (n := 4) (k := 1) (by decide +kernel) rfl rfl) (pu183  ?_)
    refine b_stk [uI (M (x0 + 1) 0), uJ 0, uJ x1] rfl ?_
    refine b_i2l (d187 (j := 7) rfl) ?_
    refine b_callS (d187 (j := 8) rfl) (Or.inl rfl) rfl (bCk_mk (n := 0) (k := 6) (by decide +kernel) rfl rfl) (pu177  ?_)
    refine b_stk [uI (if (0 ≤ x1 ∧ x1 ≤ (M (x0 + 1) 0)) then 1 else 0)] rfl ?_
    refine b_ifeqP (d187 (j := 9) rfl) (fun c2 => ?_) (fun c2 => ?_)
    ·
      refine b_iconst (d187 (j := 12) rfl) (by decide) ?_
      exact b_zret (d187 (j := 13) rfl) rfl (by decide) (k2 c1 c2)
    ·
      refine b_iconst (d187 (j := 10) rfl) (by decide) ?_
      refine b_goto (d187 (j := 11) rfl) ?_
      exact b_zret (d187 (j := 13) rfl) rfl (by decide) (k3 c1 c2)
theorem pu187 {x0 x1 : Int} {M : dsMem} {Q : bQT}  (k : Q [uI (if (0 < (M (x0 + 1) 8) ∧ 0 ≤ x1 ∧ x1 ≤ (M (x0 + 1) 0)) then 1 else 0)] M) : bB 187 0 [uR 11 x0, uJ x1, uX 0] [] M Q := by
  refine r187_0 (k1 := ?_) (k2 := ?_) (k3 := ?_) <;> intros <;> first | omega | (rw [if_pos (by omega)] at k; exact k) | (rw [if_neg (by omega)] at k; exact k)
def L188 : List (Nat × Instr × Nat × Nat) := [(0, .aload_n 0, 1, 0), (1, .invokevirtual 120, 4, 0), (4, .ifCond .eq 22, 7, 26), (7, .lload_n 1, 8, 0), (8, .lconst 0, 9, 0), (9, .aload_n 0, 10, 0), (10, .invokevirtual 124, 13, 0), (13, .iconst 1, 14, 0), (14, .isub, 15, 0), (15, .i2l, 16, 0), (16, .invokestatic 112, 19, 0), (19, .ifCond .eq 7, 22, 26), (22, .iconst 1, 23, 0), (23, .goto 4, 26, 27), (26, .iconst 0, 27, 0), (27, .ireturn, 28, 0)]
set_option maxRecDepth 100000 in
theorem L188_ok : L188.all (dck 188) = true := by decide +kernel
theorem d188 {j pc nx tg : Nat} {ins : Instr} (hj : L188[j]? = some (pc, ins, nx, tg)) : dcd 188 pc ins nx tg := dcl_ok L188_ok hj
set_option maxRecDepth 100000 in
set_option maxHeartbeats 4000000 in
theorem r188_0 {x0 x1 : Int} {M : dsMem} {Q : bQT} (k1 : (¬ (0 < (M (x0 + 1) 8))) → Q [uI 0] M) (s1 : ((0 < (M (x0 + 1) 8))) → -2147483648 ≤ ((M (x0 + 1) 0) - 1) ∧ ((M (x0 + 1) 0) - 1) < 2147483648 := by intros; omega) (k2 : ((0 < (M (x0 + 1) 8))) → (¬ (0 ≤ x1 ∧ x1 ≤ ((M (x0 + 1) 0) - 1))) → Q [uI 0] M) (k3 : ((0 < (M (x0 + 1) 8))) → ((0 ≤ x1 ∧ x1 ≤ ((M (x0 + 1) 0) - 1))) → Q [uI 1] M) :
    bB 188 0 [uR 11 x0, uJ x1, uX 0] [] M Q := by
  refine b_aload_n (d188 (j := 0) rfl) rfl ?_
  refine b_callV (d188 (j := 1) rfl) rfl rfl (Or.inl rfl) rfl (bCk_mk (n := 0) (k := 1) (by decide +kernel) rfl rfl) (pu182  ?_)
  refine b_stk [uI (if (0 < (M (x0 + 1) 8)) then 1 else 0)] rfl ?_
  refine b_ifeqP (d188 (j := 2) rfl) (fun c1 => ?_) (fun c1 => ?_)
  ·
    refine b_iconst (d188 (j := 14) rfl) (by decide) ?_
    exact b_zret (d188 (j := 15) rfl) rfl (by decide) (k1 c1)
  ·
    refine b_lload_n (d188 (j := 3) rfl) rfl ?_
    refine b_lconst (d188 (j := 4) rfl) ?_
    refine b_stk [uJ 0, uJ x1] rfl ?_
    refine b_aload_n (d188 (j := 5) rfl) rfl ?_
    refine b_callV (d188 (j := 6) rfl) rfl rfl (Or.inl rfl) rfl (bCk_mk (n := 4) (k := 1) (by decide +kernel) rfl rfl) (pu183  ?_)
    refine b_stk [uI (M (x0 + 1) 0), uJ 0, uJ x1] rfl ?_
    refine b_iconst (d188 (j := 7) rfl) (by decide) ?_
    refine b_isub (d188 (j := 8) rfl) rfl rfl ?_
    refine b_stk [uI ((M (x0 + 1) 0) - 1), uJ 0, uJ x1] (by rw [dsw_r (s1 c1)]) ?_
    refine b_i2l (d188 (j := 9) rfl) ?_
    refine b_callS (d188 (j := 10) rfl) (Or.inl rfl) rfl (bCk_mk (n := 0) (k := 6) (by decide +kernel) rfl rfl) (pu177  ?_)
    refine b_stk [uI (if (0 ≤ x1 ∧ x1 ≤ ((M (x0 + 1) 0) - 1)) then 1 else 0)] rfl ?_
    refine b_ifeqP (d188 (j := 11) rfl) (fun c2 => ?_) (fun c2 => ?_)
    ·
      refine b_iconst (d188 (j := 14) rfl) (by decide) ?_
      exact b_zret (d188 (j := 15) rfl) rfl (by decide) (k2 c1 c2)
    ·
      refine b_iconst (d188 (j := 12) rfl) (by decide) ?_
      refine b_goto (d188 (j := 13) rfl) ?_
      exact b_zret (d188 (j := 15) rfl) rfl (by decide) (k3 c1 c2)
theorem pu188 {x0 x1 : Int} {M : dsMem} {Q : bQT} (h0 : -2147483648 ≤ ((M (x0 + 1) 0) - 1) ∧ ((M (x0 + 1) 0) - 1) < 2147483648) (k : Q [uI (if (0 < (M (x0 + 1) 8) ∧ 0 ≤ x1 ∧ x1 ≤ (M (x0 + 1) 0) - 1) then 1 else 0)] M) : bB 188 0 [uR 11 x0, uJ x1, uX 0] [] M Q := by
  refine r188_0 (k1 := ?_) (k2 := ?_) (k3 := ?_) <;> intros <;> first | omega | (rw [if_pos (by omega)] at k; exact k) | (rw [if_neg (by omega)] at k; exact k)
def L189 : List (Nat × Instr × Nat × Nat) := [(0, .lload_n 1, 1, 0), (1, .lconst 0, 2, 0), (2, .aload_n 0, 3, 0), (3, .invokevirtual 127, 6, 0), (6, .iconst 1, 7, 0), (7, .isub, 8, 0), (8, .i2l, 9, 0), (9, .invokestatic 112, 12, 0), (12, .ireturn, 13, 0)]
set_option maxRecDepth 100000 in
theorem L189_ok : L189.all (dck 189) = true := by decide +kernel
theorem d189 {j pc nx tg : Nat} {ins : Instr} (hj : L189[j]? = some (pc, ins, nx, tg)) : dcd 189 pc ins nx tg := dcl_ok L189_ok hj
set_option maxRecDepth 100000 in
set_option maxHeartbeats 4000000 in
theorem r189_0 {x0 x1 : Int} {M : dsMem} {Q : bQT} (s1 : -2147483648 ≤ ((M (x0 + 1) 3) - 1) ∧ ((M (x0 + 1) 3) - 1) < 2147483648 := by intros; omega) (k1 : Q [uI (if (0 ≤ x1 ∧ x1 ≤ ((M (x0 + 1) 3) - 1)) then 1 else 0)] M) :
    bB 189 0 [uR 11 x0, uJ x1, uX 0] [] M Q := by
  refine b_lload_n (d189 (j := 0) rfl) rfl ?_
  refine b_lconst (d189 (j := 1) rfl) ?_
  refine b_stk [uJ 0, uJ x1] rfl ?_
  refine b_aload_n (d189 (j := 2) rfl) rfl ?_
  refine b_callV (d189 (j := 3) rfl) rfl rfl (Or.inl rfl) rfl (bCk_mk (n := 4) (k := 1) (by decide +kernel) rfl rfl) (pu184  ?_)
  refine b_stk [uI (M (x0 + 1) 3), uJ 0, uJ x1] rfl ?_
  refine b_iconst (d189 (j := 4) rfl) (by decide) ?_
  refine b_isub (d189 (j := 5) rfl) rfl rfl ?_
  refine b_stk [uI ((M (x0 + 1) 3) - 1), uJ 0, uJ x1] (by rw [dsw_r s1]) ?_
  refine b_i2l (d189 (j := 6) rfl) ?_
  refine b_callS (d189 (j := 7) rfl) (Or.inl rfl) rfl (bCk_mk (n := 0) (k := 6) (by decide +kernel) rfl rfl) (pu177  ?_)
  refine b_stk [uI (if (0 ≤ x1 ∧ x1 ≤ ((M (x0 + 1) 3) - 1)) then 1 else 0)] rfl ?_
  exact b_zret (d189 (j := 8) rfl) rfl (b_01 _) k1
theorem pu189 {x0 x1 : Int} {M : dsMem} {Q : bQT} (h0 : -2147483648 ≤ ((M (x0 + 1) 3) - 1) ∧ ((M (x0 + 1) 3) - 1) < 2147483648) (k : Q [uI (if (0 ≤ x1 ∧ x1 ≤ (M (x0 + 1) 3) - 1) then 1 else 0)] M) : bB 189 0 [uR 11 x0, uJ x1, uX 0] [] M Q := by
  refine r189_0 (k1 := ?_) <;> intros <;> first | omega | (rw [if_pos (by omega)] at k; exact k) | (rw [if_neg (by omega)] at k; exact k)
def L190 : List (Nat × Instr × Nat × Nat) := [(0, .lload_n 1, 1, 0), (1, .lconst 0, 2, 0), (2, .aload_n 0, 3, 0), (3, .invokevirtual 116, 6, 0), (6, .iconst 1, 7, 0), (7, .isub, 8, 0), (8, .i2l, 9, 0), (9, .invokestatic 112, 12, 0), (12, .ireturn, 13, 0)]
set_option maxRecDepth 100000 in
theorem L190_ok : L190.all (dck 190) = true := by decide +kernel
theorem d190 {j pc nx tg : Nat} {ins : Instr} (hj : L190[j]? = some (pc, ins, nx, tg)) : dcd 190 pc ins nx tg := dcl_ok L190_ok hj
set_option maxRecDepth 100000 in
set_option maxHeartbeats 4000000 in
theorem r190_0 {x0 x1 : Int} {M : dsMem} {Q : bQT} (s1 : -2147483648 ≤ ((M (x0 + 1) 4) - 1) ∧ ((M (x0 + 1) 4) - 1) < 2147483648 := by intros; omega) (k1 : Q [uI (if (0 ≤ x1 ∧ x1 ≤ ((M (x0 + 1) 4) - 1)) then 1 else 0)] M) :
    bB 190 0 [uR 11 x0, uJ x1, uX 0] [] M Q := by
  refine b_lload_n (d190 (j := 0) rfl) rfl ?_
  refine b_lconst (d190 (j := 1) rfl) ?_
  refine b_stk [uJ 0, uJ x1] rfl ?_
  refine b_aload_n (d190 (j := 2) rfl) rfl ?_
  refine b_callV (d190 (j := 3) rfl) rfl rfl (Or.inl rfl) rfl (bCk_mk (n := 4) (k := 1) (by decide +kernel) rfl rfl) (pu185  ?_)
  refine b_stk [uI (M (x0 + 1) 4), uJ 0, uJ x1] rfl ?_
  refine b_iconst (d190 (j := 4) rfl) (by decide) ?_
  refine b_isub (d190 (j := 5) rfl) rfl rfl ?_
  refine b_stk [uI ((M (x0 + 1) 4) - 1), uJ 0, uJ x1] (by rw [dsw_r s1]) ?_
  refine b_i2l (d190 (j := 6) rfl) ?_
  refine b_callS (d190 (j := 7) rfl) (Or.inl rfl) rfl (bCk_mk (n := 0) (k := 6) (by decide +kernel) rfl rfl) (pu177  ?_)
  refine b_stk [uI (if (0 ≤ x1 ∧ x1 ≤ ((M (x0 + 1) 4) - 1)) then 1 else 0)] rfl ?_
  exact b_zret (d190 (j := 8) rfl) rfl (b_01 _) k1
theorem pu190 {x0 x1 : Int} {M : dsMem} {Q : bQT} (h0 : -2147483648 ≤ ((M (x0 + 1) 4) - 1) ∧ ((M (x0 + 1) 4) - 1) < 2147483648) (k : Q [uI (if (0 ≤ x1 ∧ x1 ≤ (M (x0 + 1) 4) - 1) then 1 else 0)] M) : bB 190 0 [uR 11 x0, uJ x1, uX 0] [] M Q := by
  refine r190_0 (k1 := ?_) <;> intros <;> first | omega | (rw [if_pos (by omega)] at k; exact k) | (rw [if_neg (by omega)] at k; exact k)
def L191 : List (Nat × Instr × Nat × Nat) := [(0, .iload_n 0, 1, 0), (1, .i2l, 2, 0), (2, .lconst 1, 3, 0), (3, .ldc2_w 130, 6, 0), (6, .invokestatic 112, 9, 0), (9, .ireturn, 10, 0)]
set_option maxRecDepth 100000 in
theorem L191_ok : L191.all (dck 191) = true := by decide +kernel
theorem d191 {j pc nx tg : Nat} {ins : Instr} (hj : L191[j]? = some (pc, ins, nx, tg)) : dcd 191 pc ins nx tg := dcl_ok L191_ok hj
set_option maxRecDepth 100000 in
set_option maxHeartbeats 4000000 in
theorem r191_0 {x0 : Int} {M : dsMem} {Q : bQT} (k1 : Q [uI (if (1 ≤ x0 ∧ x0 ≤ 5) then 1 else 0)] M) :
    bB 191 0 [uI x0] [] M Q := by
  refine b_iload_n (d191 (j := 0) rfl) rfl ?_
  refine b_i2l (d191 (j := 1) rfl) ?_
  refine b_lconst (d191 (j := 2) rfl) ?_
  refine b_stk [uJ 1, uJ x0] rfl ?_
  refine b_ldc2 (d191 (j := 3) rfl) rfl ?_
  refine b_callS (d191 (j := 4) rfl) (Or.inl rfl) rfl (bCk_mk (n := 0) (k := 6) (by decide +kernel) rfl rfl) (pu177  ?_)
  refine b_stk [uI (if (1 ≤ x0 ∧ x0 ≤ 5) then 1 else 0)] rfl ?_
  exact b_zret (d191 (j := 5) rfl) rfl (b_01 _) k1
theorem pu191 {x0 : Int} {M : dsMem} {Q : bQT}  (k : Q [uI (if (1 ≤ x0 ∧ x0 ≤ 5) then 1 else 0)] M) : bB 191 0 [uI x0] [] M Q := by
  refine r191_0 (k1 := ?_) <;> intros <;> first | omega | (rw [if_pos (by omega)] at k; exact k) | (rw [if_neg (by omega)] at k; exact k)
def L328 : List (Nat × Instr × Nat × Nat) := [(0, .iload_n 0, 1, 0), (1, .i2l, 2, 0), (2, .lconst 0, 3, 0), (3, .ldc2_w 447, 6, 0), (6, .invokestatic 112, 9, 0), (9, .ireturn, 10, 0)]
set_option maxRecDepth 100000 in
theorem L328_ok : L328.all (dck 328) = true := by decide +kernel
theorem d328 {j pc nx tg : Nat} {ins : Instr} (hj : L328[j]? = some (pc, ins, nx, tg)) : dcd 328 pc ins nx tg := dcl_ok L328_ok hj
set_option maxRecDepth 100000 in
set_option maxHeartbeats 4000000 in
theorem r328_0 {x0 : Int} {M : dsMem} {Q : bQT} (k1 : Q [uI (if (0 ≤ x0 ∧ x0 ≤ 3) then 1 else 0)] M) :
    bB 328 0 [uI x0] [] M Q := by
  refine b_iload_n (d328 (j := 0) rfl) rfl ?_
  refine b_i2l (d328 (j := 1) rfl) ?_
  refine b_lconst (d328 (j := 2) rfl) ?_
  refine b_stk [uJ 0, uJ x0] rfl ?_
  refine b_ldc2 (d328 (j := 3) rfl) rfl ?_
  refine b_callS (d328 (j := 4) rfl) (Or.inl rfl) rfl (bCk_mk (n := 0) (k := 6) (by decide +kernel) rfl rfl) (pu177  ?_)
  refine b_stk [uI (if (0 ≤ x0 ∧ x0 ≤ 3) then 1 else 0)] rfl ?_
  exact b_zret (d328 (j := 5) rfl) rfl (b_01 _) k1
theorem pu328 {x0 : Int} {M : dsMem} {Q : bQT}  (k : Q [uI (if (0 ≤ x0 ∧ x0 ≤ 3) then 1 else 0)] M) : bB 328 0 [uI x0] [] M Q := by
  refine r328_0 (k1 := ?_) <;> intros <;> first | omega | (rw [if_pos (by omega)] at k; exact k) | (rw [if_neg (by omega)] at k; exact k)
def L323 : List (Nat × Instr × Nat × Nat) := [(0, .iload_n 0, 1, 0), (1, .i2l, 2, 0), (2, .lconst 0, 3, 0), (3, .ldc2_w 511, 6, 0), (6, .invokestatic 112, 9, 0), (9, .ireturn, 10, 0)]
set_option maxRecDepth 100000 in
theorem L323_ok : L323.all (dck 323) = true := by decide +kernel
theorem d323 {j pc nx tg : Nat} {ins : Instr} (hj : L323[j]? = some (pc, ins, nx, tg)) : dcd 323 pc ins nx tg := dcl_ok L323_ok hj
set_option maxRecDepth 100000 in
set_option maxHeartbeats 4000000 in
theorem r323_0 {x0 : Int} {M : dsMem} {Q : bQT} (k1 : Q [uI (if (0 ≤ x0 ∧ x0 ≤ 2000000000) then 1 else 0)] M) :
    bB 323 0 [uI x0] [] M Q := by
  refine b_iload_n (d323 (j := 0) rfl) rfl ?_
  refine b_i2l (d323 (j := 1) rfl) ?_
  refine b_lconst (d323 (j := 2) rfl) ?_
  refine b_stk [uJ 0, uJ x0] rfl ?_
  refine b_ldc2 (d323 (j := 3) rfl) rfl ?_
  refine b_callS (d323 (j := 4) rfl) (Or.inl rfl) rfl (bCk_mk (n := 0) (k := 6) (by decide +kernel) rfl rfl) (pu177  ?_)
  refine b_stk [uI (if (0 ≤ x0 ∧ x0 ≤ 2000000000) then 1 else 0)] rfl ?_
  exact b_zret (d323 (j := 5) rfl) rfl (b_01 _) k1
theorem pu323 {x0 : Int} {M : dsMem} {Q : bQT}  (k : Q [uI (if (0 ≤ x0 ∧ x0 ≤ 2000000000) then 1 else 0)] M) : bB 323 0 [uI x0] [] M Q := by
  refine r323_0 (k1 := ?_) <;> intros <;> first | omega | (rw [if_pos (by omega)] at k; exact k) | (rw [if_neg (by omega)] at k; exact k)
def L192 : List (Nat × Instr × Nat × Nat) := [(0, .aload_n 0, 1, 0), (1, .getfield 9, 4, 0), (4, .bipush 15, 6, 0), (6, .iconst 3, 7, 0), (7, .iload_n 1, 8, 0), (8, .imul, 9, 0), (9, .iadd, 10, 0), (10, .iload_n 2, 11, 0), (11, .iadd, 12, 0), (12, .iaload, 13, 0), (13, .ireturn, 14, 0)]
set_option maxRecDepth 100000 in
theorem L192_ok : L192.all (dck 192) = true := by decide +kernel
theorem d192 {j pc nx tg : Nat} {ins : Instr} (hj : L192[j]? = some (pc, ins, nx, tg)) : dcd 192 pc ins nx tg := dcl_ok L192_ok hj
set_option maxRecDepth 100000 in
set_option maxHeartbeats 4000000 in
theorem r192_0 {x0 x1 x2 : Int} {M : dsMem} {Q : bQT} (s1 : 0 ≤ ((15 + (3 * x1)) + x2) ∧ ((15 + (3 * x1)) + x2) < 105 := by intros; omega) (k1 : Q [uI (M (x0 + 1) ((15 + (3 * x1)) + x2))] M) :
    bB 192 0 [uR 11 x0, uI x1, uI x2] [] M Q := by
  refine b_aload_n (d192 (j := 0) rfl) rfl ?_
  refine b_getR (d192 (j := 1) rfl) rfl rfl rfl rfl ?_
  refine b_bipush (d192 (j := 2) rfl) (by decide) ?_
  refine b_iconst (d192 (j := 3) rfl) (by decide) ?_
  refine b_iload_n (d192 (j := 4) rfl) rfl ?_
  refine b_imul (d192 (j := 5) rfl) rfl rfl ?_
  refine b_iadd (d192 (j := 6) rfl) rfl (dsw_dsw _) ?_
  refine b_iload_n (d192 (j := 7) rfl) rfl ?_
  refine b_iadd (d192 (j := 8) rfl) (dsw_dsw _) rfl ?_
  refine b_stk [uI ((15 + (3 * x1)) + x2), uR 38 (x0 + 1)] (by rw [dsw_b s1 (by decide)]) ?_
  refine b_iaload (d192 (j := 9) rfl) rfl s1 ?_
  exact b_iret (d192 (j := 10) rfl) rfl k1
theorem pu192 {x0 x1 x2 : Int} {M : dsMem} {Q : bQT} (h0 : 0 ≤ ((15 + (3 * x1)) + x2) ∧ ((15 + (3 * x1)) + x2) < 105) (k : Q [uI ((M (x0 + 1) ((15 + (3 * x1)) + x2)))] M) : bB 192 0 [uR 11 x0, uI x1, uI x2] [] M Q := by
  refine r192_0 (k1 := ?_) <;> intros <;> first | omega | exact k
def L193 : List (Nat × Instr × Nat × Nat) := [(0, .aload_n 0, 1, 0), (1, .iload_n 1, 2, 0), (2, .iconst 2, 3, 0), (3, .invokevirtual 132, 6, 0), (6, .ireturn, 7, 0)]
set_option maxRecDepth 100000 in
theorem L193_ok : L193.all (dck 193) = true := by decide +kernel
theorem d193 {j pc nx tg : Nat} {ins : Instr} (hj : L193[j]? = some (pc, ins, nx, tg)) : dcd 193 pc ins nx tg := dcl_ok L193_ok hj
set_option maxRecDepth 100000 in
set_option maxHeartbeats 4000000 in
theorem r193_0 {x0 x1 : Int} {M : dsMem} {Q : bQT} (s1 : 0 ≤ ((15 + (3 * x1)) + 2) ∧ ((15 + (3 * x1)) + 2) < 105 := by intros; omega) (k1 : Q [uI (M (x0 + 1) ((15 + (3 * x1)) + 2))] M) :
    bB 193 0 [uR 11 x0, uI x1] [] M Q := by
  refine b_aload_n (d193 (j := 0) rfl) rfl ?_
  refine b_iload_n (d193 (j := 1) rfl) rfl ?_
  refine b_iconst (d193 (j := 2) rfl) (by decide) ?_
  refine b_callV (d193 (j := 3) rfl) rfl rfl (Or.inl rfl) rfl (bCk_mk (n := 0) (k := 3) (by decide +kernel) rfl rfl) (pu192 s1 ?_)
  refine b_stk [uI (M (x0 + 1) ((15 + (3 * x1)) + 2))] rfl ?_
  exact b_iret (d193 (j := 4) rfl) rfl k1
theorem pu193 {x0 x1 : Int} {M : dsMem} {Q : bQT} (h0 : 0 ≤ ((15 + (3 * x1)) + 2) ∧ ((15 + (3 * x1)) + 2) < 105) (k : Q [uI ((M (x0 + 1) ((15 + (3 * x1)) + 2)))] M) : bB 193 0 [uR 11 x0, uI x1] [] M Q := by
  refine r193_0 (k1 := ?_) <;> intros <;> first | omega | exact k
def L240 : List (Nat × Instr × Nat × Nat) := [(0, .aload_n 0, 1, 0), (1, .getfield 67, 4, 0), (4, .bipush 6, 6, 0), (6, .iload_n 2, 7, 0), (7, .imul, 8, 0), (8, .iload_n 1, 9, 0), (9, .iadd, 10, 0), (10, .iaload, 11, 0), (11, .ireturn, 12, 0)]
set_option maxRecDepth 100000 in
theorem L240_ok : L240.all (dck 240) = true := by decide +kernel
theorem d240 {j pc nx tg : Nat} {ins : Instr} (hj : L240[j]? = some (pc, ins, nx, tg)) : dcd 240 pc ins nx tg := dcl_ok L240_ok hj
set_option maxRecDepth 100000 in
set_option maxHeartbeats 4000000 in
theorem r240_0 {x0 x1 x2 : Int} {M : dsMem} {Q : bQT} (s1 : 0 ≤ ((6 * x2) + x1) ∧ ((6 * x2) + x1) < 78 := by intros; omega) (k1 : Q [uI (M (x0 + 18) ((6 * x2) + x1))] M) :
    bB 240 0 [uR 11 x0, uI x1, uI x2] [] M Q := by
  refine b_aload_n (d240 (j := 0) rfl) rfl ?_
  refine b_getR (d240 (j := 1) rfl) rfl rfl rfl rfl ?_
  refine b_bipush (d240 (j := 2) rfl) (by decide) ?_
  refine b_iload_n (d240 (j := 3) rfl) rfl ?_
  refine b_imul (d240 (j := 4) rfl) rfl rfl ?_
  refine b_iload_n (d240 (j := 5) rfl) rfl ?_
  refine b_iadd (d240 (j := 6) rfl) (dsw_dsw _) rfl ?_
  refine b_stk [uI ((6 * x2) + x1), uR 25 (x0 + 18)] (by rw [dsw_b s1 (by decide)]) ?_
  refine b_iaload (d240 (j := 7) rfl) rfl s1 ?_
  exact b_iret (d240 (j := 8) rfl) rfl k1
theorem pu240 {x0 x1 x2 : Int} {M : dsMem} {Q : bQT} (h0 : 0 ≤ ((6 * x2) + x1) ∧ ((6 * x2) + x1) < 78) (k : Q [uI ((M (x0 + 18) ((6 * x2) + x1)))] M) : bB 240 0 [uR 11 x0, uI x1, uI x2] [] M Q := by
  refine r240_0 (k1 := ?_) <;> intros <;> first | omega | exact k
def L241 : List (Nat × Instr × Nat × Nat) := [(0, .aload_n 0, 1, 0), (1, .iload_n 1, 2, 0), (2, .aload_n 0, 3, 0), (3, .invokevirtual 124, 6, 0), (6, .invokevirtual 373, 9, 0), (9, .ireturn, 10, 0)]
set_option maxRecDepth 100000 in
theorem L241_ok : L241.all (dck 241) = true := by decide +kernel
theorem d241 {j pc nx tg : Nat} {ins : Instr} (hj : L241[j]? = some (pc, ins, nx, tg)) : dcd 241 pc ins nx tg := dcl_ok L241_ok hj
set_option maxRecDepth 100000 in
set_option maxHeartbeats 4000000 in
theorem r241_0 {x0 x1 : Int} {M : dsMem} {Q : bQT} (s1 : 0 ≤ ((6 * (M (x0 + 1) 0)) + x1) ∧ ((6 * (M (x0 + 1) 0)) + x1) < 78 := by intros; omega) (k1 : Q [uI (M (x0 + 18) ((6 * (M (x0 + 1) 0)) + x1))] M) :
    bB 241 0 [uR 11 x0, uI x1] [] M Q := by
  refine b_aload_n (d241 (j := 0) rfl) rfl ?_
  refine b_iload_n (d241 (j := 1) rfl) rfl ?_
  refine b_aload_n (d241 (j := 2) rfl) rfl ?_
  refine b_callV (d241 (j := 3) rfl) rfl rfl (Or.inl rfl) rfl (bCk_mk (n := 2) (k := 1) (by decide +kernel) rfl rfl) (pu183  ?_)
  refine b_stk [uI (M (x0 + 1) 0), uI x1, uR 11 x0] rfl ?_
  refine b_callV (d241 (j := 4) rfl) rfl rfl (Or.inl rfl) rfl (bCk_mk (n := 0) (k := 3) (by decide +kernel) rfl rfl) (pu240 s1 ?_)
  refine b_stk [uI (M (x0 + 18) ((6 * (M (x0 + 1) 0)) + x1))] rfl ?_
  exact b_iret (d241 (j := 5) rfl) rfl k1
theorem pu241 {x0 x1 : Int} {M : dsMem} {Q : bQT} (h0 : 0 ≤ ((6 * (M (x0 + 1) 0)) + x1) ∧ ((6 * (M (x0 + 1) 0)) + x1) < 78) (k : Q [uI ((M (x0 + 18) ((6 * (M (x0 + 1) 0)) + x1)))] M) : bB 241 0 [uR 11 x0, uI x1] [] M Q := by
  refine r241_0 (k1 := ?_) <;> intros <;> first | omega | exact k
def L198 : List (Nat × Instr × Nat × Nat) := [(0, .aload_n 0, 1, 0), (1, .getfield 172, 4, 0), (4, .ifCond .ne 7, 7, 11), (7, .iconst 1, 8, 0), (8, .goto 4, 11, 12), (11, .iconst 0, 12, 0), (12, .ireturn, 13, 0)]
set_option maxRecDepth 100000 in
theorem L198_ok : L198.all (dck 198) = true := by decide +kernel
theorem d198 {j pc nx tg : Nat} {ins : Instr} (hj : L198[j]? = some (pc, ins, nx, tg)) : dcd 198 pc ins nx tg := dcl_ok L198_ok hj
set_option maxRecDepth 100000 in
set_option maxHeartbeats 4000000 in
theorem r198_0 {x0 : Int} {M : dsMem} {Q : bQT} (k1 : (¬ (M x0 12) = 0) → Q [uI 0] M) (k2 : ((M x0 12) = 0) → Q [uI 1] M) :
    bB 198 0 [uR 11 x0] [] M Q := by
  refine b_aload_n (d198 (j := 0) rfl) rfl ?_
  refine b_getI (d198 (j := 1) rfl) rfl rfl rfl rfl (Or.inl rfl) ?_
  refine b_stk [uI (M x0 12)] rfl ?_
  refine b_if_ne (d198 (j := 2) rfl) (fun c1 => ?_) (fun c1 => ?_)
  ·
    refine b_iconst (d198 (j := 5) rfl) (by decide) ?_
    exact b_zret (d198 (j := 6) rfl) rfl (by decide) (k1 c1)
  ·
    refine b_iconst (d198 (j := 3) rfl) (by decide) ?_
    refine b_goto (d198 (j := 4) rfl) ?_
    exact b_zret (d198 (j := 6) rfl) rfl (by decide) (k2 c1)
theorem pu198 {x0 : Int} {M : dsMem} {Q : bQT}  (k : Q [uI (if ((M x0 12) = 0) then 1 else 0)] M) : bB 198 0 [uR 11 x0] [] M Q := by
  refine r198_0 (k1 := ?_) (k2 := ?_) <;> intros <;> first | omega | (rw [if_pos (by omega)] at k; exact k) | (rw [if_neg (by omega)] at k; exact k)
def L289 : List (Nat × Instr × Nat × Nat) := [(0, .aload_n 0, 1, 0), (1, .getfield 100, 4, 0), (4, .bipush 60, 6, 0), (6, .iload_n 1, 7, 0), (7, .imul, 8, 0), (8, .iload_n 2, 9, 0), (9, .iadd, 10, 0), (10, .laload, 11, 0), (11, .lreturn, 12, 0)]
set_option maxRecDepth 100000 in
theorem L289_ok : L289.all (dck 289) = true := by decide +kernel
theorem d289 {j pc nx tg : Nat} {ins : Instr} (hj : L289[j]? = some (pc, ins, nx, tg)) : dcd 289 pc ins nx tg := dcl_ok L289_ok hj
set_option maxRecDepth 100000 in
set_option maxHeartbeats 4000000 in
theorem r289_0 {x0 x1 x2 : Int} {M : dsMem} {Q : bQT} (s1 : 0 ≤ ((60 * x1) + x2) ∧ ((60 * x1) + x2) < 240 := by intros; omega) (k1 : Q [uJ (M (x0 + 29) ((60 * x1) + x2))] M) :
    bB 289 0 [uR 11 x0, uI x1, uI x2] [] M Q := by
  refine b_aload_n (d289 (j := 0) rfl) rfl ?_
  refine b_getR (d289 (j := 1) rfl) rfl rfl rfl rfl ?_
  refine b_bipush (d289 (j := 2) rfl) (by decide) ?_
  refine b_iload_n (d289 (j := 3) rfl) rfl ?_
  refine b_imul (d289 (j := 4) rfl) rfl rfl ?_
  refine b_iload_n (d289 (j := 5) rfl) rfl ?_
  refine b_iadd (d289 (j := 6) rfl) (dsw_dsw _) rfl ?_
  refine b_stk [uI ((60 * x1) + x2), uR 45 (x0 + 29)] (by rw [dsw_b s1 (by decide)]) ?_
  refine b_laload (d289 (j := 7) rfl) rfl s1 ?_
  exact b_lret (d289 (j := 8) rfl) rfl k1
theorem pu289 {x0 x1 x2 : Int} {M : dsMem} {Q : bQT} (h0 : 0 ≤ ((60 * x1) + x2) ∧ ((60 * x1) + x2) < 240) (k : Q [uJ ((M (x0 + 29) ((60 * x1) + x2)))] M) : bB 289 0 [uR 11 x0, uI x1, uI x2] [] M Q := by
  refine r289_0 (k1 := ?_) <;> intros <;> first | omega | exact k
def L221 : List (Nat × Instr × Nat × Nat) := [(0, .aload_n 0, 1, 0), (1, .getfield 301, 4, 0), (4, .aload_n 0, 5, 0), (5, .iload_n 1, 6, 0), (6, .invokevirtual 271, 9, 0), (9, .invokestatic 304, 12, 0), (12, .ifCond .ne 7, 15, 19), (15, .iconst 1, 16, 0), (16, .goto 4, 19, 20), (19, .iconst 0, 20, 0), (20, .ireturn, 21, 0)]
set_option maxRecDepth 100000 in
theorem L221_ok : L221.all (dck 221) = true := by decide +kernel
theorem d221 {j pc nx tg : Nat} {ins : Instr} (hj : L221[j]? = some (pc, ins, nx, tg)) : dcd 221 pc ins nx tg := dcl_ok L221_ok hj
set_option maxRecDepth 100000 in
set_option maxHeartbeats 4000000 in
theorem r221_0 {x0 x1 : Int} {M : dsMem} {Q : bQT} (s1 : 0 ≤ ((15 + (3 * x1)) + 2) ∧ ((15 + (3 * x1)) + 2) < 105 := by intros; omega) (k1 : (¬ (dsAnd (dsShr (M x0 33) (M (x0 + 1) ((15 + (3 * x1)) + 2))) 1) = 0) → Q [uI 0] M) (k2 : ((dsAnd (dsShr (M x0 33) (M (x0 + 1) ((15 + (3 * x1)) + 2))) 1) = 0) → Q [uI 1] M) :
    bB 221 0 [uR 11 x0, uI x1] [] M Q := by
  refine b_aload_n (d221 (j := 0) rfl) rfl ?_
  refine b_getI (d221 (j := 1) rfl) rfl rfl rfl rfl (Or.inl rfl) ?_
  refine b_stk [uI (M x0 33)] rfl ?_
  refine b_aload_n (d221 (j := 2) rfl) rfl ?_
  refine b_iload_n (d221 (j := 3) rfl) rfl ?_
  refine b_callV (d221 (j := 4) rfl) rfl rfl (Or.inl rfl) rfl (bCk_mk (n := 1) (k := 2) (by decide +kernel) rfl rfl) (pu193 s1 ?_)
  refine b_stk [uI (M (x0 + 1) ((15 + (3 * x1)) + 2)), uI (M x0 33)] rfl ?_
  refine b_callS (d221 (j := 5) rfl) (Or.inl rfl) rfl (bCk_mk (n := 0) (k := 2) (by decide +kernel) rfl rfl) (pu179  ?_)
  refine b_stk [uI (dsAnd (dsShr (M x0 33) (M (x0 + 1) ((15 + (3 * x1)) + 2))) 1)] rfl ?_
  refine b_if_ne (d221 (j := 6) rfl) (fun c1 => ?_) (fun c1 => ?_)
  ·
    refine b_iconst (d221 (j := 9) rfl) (by decide) ?_
    exact b_zret (d221 (j := 10) rfl) rfl (by decide) (k1 c1)
  ·
    refine b_iconst (d221 (j := 7) rfl) (by decide) ?_
    refine b_goto (d221 (j := 8) rfl) ?_
    exact b_zret (d221 (j := 10) rfl) rfl (by decide) (k2 c1)
theorem pu221 {x0 x1 : Int} {M : dsMem} {Q : bQT} (h0 : 0 ≤ ((15 + (3 * x1)) + 2) ∧ ((15 + (3 * x1)) + 2) < 105) (k : Q [uI (if (dsAnd (dsShr (M x0 33) (M (x0 + 1) ((15 + (3 * x1)) + 2))) 1 = 0) then 1 else 0)] M) : bB 221 0 [uR 11 x0, uI x1] [] M Q := by
  refine r221_0 (k1 := ?_) (k2 := ?_) <;> intros <;> first | omega | (rw [if_pos (by omega)] at k; exact k) | (rw [if_neg (by omega)] at k; exact k)
def L311 : List (Nat × Instr × Nat × Nat) := [(0, .aload_n 0, 1, 0), (1, .iload_n 1, 2, 0), (2, .i2l, 3, 0), (3, .invokevirtual 268, 6, 0), (6, .ifCond .eq 21, 9, 27), (9, .aload_n 0, 10, 0), (10, .iload_n 2, 11, 0), (11, .i2l, 12, 0), (12, .invokevirtual 268, 15, 0), (15, .ifCond .eq 12, 18, 27), (18, .iload_n 1, 19, 0), (19, .iload_n 2, 20, 0), (20, .if_icmp .eq 7, 23, 27), (23, .iconst 1, 24, 0), (24, .goto 4, 27, 28), (27, .iconst 0, 28, 0), (28, .ireturn, 29, 0)]
set_option maxRecDepth 100000 in
theorem L311_ok : L311.all (dck 311) = true := by decide +kernel
theorem d311 {j pc nx tg : Nat} {ins : Instr} (hj : L311[j]? = some (pc, ins, nx, tg)) : dcd 311 pc ins nx tg := dcl_ok L311_ok hj
set_option maxRecDepth 100000 in
set_option maxHeartbeats 4000000 in
theorem r311_0 {x0 x1 x2 : Int} {M : dsMem} {Q : bQT} (s1 : -2147483648 ≤ ((M (x0 + 1) 4) - 1) ∧ ((M (x0 + 1) 4) - 1) < 2147483648 := by intros; omega) (k1 : (¬ (0 ≤ x1 ∧ x1 ≤ (M (x0 + 1) 4) - 1)) → Q [uI 0] M) (k2 : ((0 ≤ x1 ∧ x1 ≤ (M (x0 + 1) 4) - 1)) → (¬ (0 ≤ x2 ∧ x2 ≤ (M (x0 + 1) 4) - 1)) → Q [uI 0] M) (k3 : ((0 ≤ x1 ∧ x1 ≤ (M (x0 + 1) 4) - 1)) → ((0 ≤ x2 ∧ x2 ≤ (M (x0 + 1) 4) - 1)) → (x1 = x2) → Q [uI 0] M) (k4 : ((0 ≤ x1 ∧ x1 ≤ (M (x0 + 1) 4) - 1)) → ((0 ≤ x2 ∧ x2 ≤ (M (x0 + 1) 4) - 1)) → (¬ x1 = x2) → Q [uI 1] M) :
    bB 311 0 [uR 11 x0, uI x1, uI x2] [] M Q := by
  refine b_aload_n (d311 (j := 0) rfl) rfl ?_
  refine b_iload_n (d311 (j := 1) rfl) rfl ?_
  refine b_i2l (d311 (j := 2) rfl) ?_
  refine b_callV (d311 (j := 3) rfl) rfl rfl (Or.inl rfl) rfl (bCk_mk (n := 0) (k := 3) (by decide +kernel) rfl rfl) (pu190 s1 ?_)
  refine b_stk [uI (if (0 ≤ x1 ∧ x1 ≤ (M (x0 + 1) 4) - 1) then 1 else 0)] rfl ?_
  refine b_ifeqP (d311 (j := 4) rfl) (fun c1 => ?_) (fun c1 => ?_)
  ·
    refine b_iconst (d311 (j := 15) rfl) (by decide) ?_
    exact b_zret (d311 (j := 16) rfl) rfl (by decide) (k1 c1)
  ·
    refine b_aload_n (d311 (j := 5) rfl) rfl ?_
    refine b_iload_n (d311 (j := 6) rfl) rfl ?_
    refine b_i2l (d311 (j := 7) rfl) ?_
    refine b_callV (d311 (j := 8) rfl) rfl rfl (Or.inl rfl) rfl (bCk_mk (n := 0) (k := 3) (by decide +kernel) rfl rfl) (pu190 s1 ?_)
    refine b_stk [uI (if (0 ≤ x2 ∧ x2 ≤ (M (x0 + 1) 4) - 1) then 1 else 0)] rfl ?_
    refine b_ifeqP (d311 (j := 9) rfl) (fun c2 => ?_) (fun c2 => ?_)
    ·
      refine b_iconst (d311 (j := 15) rfl) (by decide) ?_
      exact b_zret (d311 (j := 16) rfl) rfl (by decide) (k2 c1 c2)
    ·
      refine b_iload_n (d311 (j := 10) rfl) rfl ?_
      refine b_iload_n (d311 (j := 11) rfl) rfl ?_
      refine b_icmp_eq (d311 (j := 12) rfl) (fun c3 => ?_) (fun c3 => ?_)
      ·
        refine b_iconst (d311 (j := 15) rfl) (by decide) ?_
        exact b_zret (d311 (j := 16) rfl) rfl (by decide) (k3 c1 c2 c3)
      ·
        refine b_iconst (d311 (j := 13) rfl) (by decide) ?_
        refine b_goto (d311 (j := 14) rfl) ?_
        exact b_zret (d311 (j := 16) rfl) rfl (by decide) (k4 c1 c2 c3)
theorem pu311 {x0 x1 x2 : Int} {M : dsMem} {Q : bQT} (h0 : -2147483648 ≤ ((M (x0 + 1) 4) - 1) ∧ ((M (x0 + 1) 4) - 1) < 2147483648) (k : Q [uI (if ((0 ≤ x1 ∧ x1 ≤ (M (x0 + 1) 4) - 1) ∧ (0 ≤ x2 ∧ x2 ≤ (M (x0 + 1) 4) - 1) ∧ ¬ x1 = x2) then 1 else 0)] M) : bB 311 0 [uR 11 x0, uI x1, uI x2] [] M Q := by
  refine r311_0 (k1 := ?_) (k2 := ?_) (k3 := ?_) (k4 := ?_) <;> intros <;> first | omega | (rw [if_pos (by omega)] at k; exact k) | (rw [if_neg (by omega)] at k; exact k)
