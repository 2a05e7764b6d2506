/-! regions with bits counted by a call -/
set_option maxRecDepth 100000 in
set_option maxHeartbeats 4000000 in
theorem r110n_0 {x1 : Int} {R1 : dsMem → Prop} {R2 : dsMem → dsMem → Prop} {g2 : dsMem → dsMem → Int} {R3 : dsMem → dsMem → dsMem → Prop} {g3 : dsMem → dsMem → dsMem → Int} {M : dsMem} {Q : bQT} (s1 : -2147483648 ≤ ((M 24 1) - 1) ∧ ((M 24 1) - 1) < 2147483648 := by intros; omega) (hA1 : ((0 < (M 24 0) ∧ 0 ≤ x1 ∧ x1 ≤ (M 24 1) - 1)) → bCt 157 [uR 10 0] M (fun _ => [uR 5 47]) R1) (hA2 : ((0 < (M 24 0) ∧ 0 ≤ x1 ∧ x1 ≤ (M 24 1) - 1)) → ∀ M1 : dsMem, R1 M1 → bCt 161 [uR 10 0, uR 5 47, uI x1, uX 0, uX 0, uX 0] M1 (fun M2 => [uI (g2 M1 M2)]) (R2 M1)) (hA3 : ((0 < (M 24 0) ∧ 0 ≤ x1 ∧ x1 ≤ (M 24 1) - 1)) → ∀ M1 : dsMem, R1 M1 → ∀ M2 : dsMem, R2 M1 M2 → (¬ (g2 M1 M2) = -1) → bCt 333 [uI (g2 M1 M2)] M2 (fun M3 => [uI (g3 M1 M2 M3)]) (R3 M1 M2)) (k1 : ((0 < (M 24 0) ∧ 0 ≤ x1 ∧ x1 ≤ (M 24 1) - 1)) → ∀ M1 : dsMem, R1 M1 → ∀ M2 : dsMem, R2 M1 M2 → (¬ (g2 M1 M2) = -1) → ∀ M3 : dsMem, R3 M1 M2 M3 → Q [uI (g3 M1 M2 M3)] M3) (k2 : ((0 < (M 24 0) ∧ 0 ≤ x1 ∧ x1 ≤ (M 24 1) - 1)) → ∀ M1 : dsMem, R1 M1 → ∀ M2 : dsMem, R2 M1 M2 → ((g2 M1 M2) = -1) → Q [uI (-1)] M2) (k3 : (¬ (0 < (M 24 0) ∧ 0 ≤ x1 ∧ x1 ≤ (M 24 1) - 1)) → Q [uI (-2)] M) :
    bB 110 0 [uR 10 0, uI x1, uX 0] [] M Q := by
  refine b_aload_n (d110 (j := 0) rfl) rfl ?_
  refine b_iload_n (d110 (j := 1) rfl) rfl ?_
  refine b_callV (d110 (j := 2) rfl) rfl rfl (Or.inl rfl) rfl (bCk_mk (n := 0) (k := 2) (by decide +kernel) rfl rfl) (pu153 s1 ?_)
  refine b_stk [uI (if (0 < (M 24 0) ∧ 0 ≤ x1 ∧ x1 ≤ (M 24 1) - 1) then 1 else 0)] rfl ?_
  refine b_ifneP (d110 (j := 3) rfl) (fun c1 => ?_) (fun c1 => ?_)
  ·
    refine b_aload_n (d110 (j := 6) rfl) rfl ?_
    refine b_aload_n (d110 (j := 7) rfl) rfl ?_
    refine b_callV (d110 (j := 8) rfl) rfl rfl (Or.inl rfl) rfl (bCk_mk (n := 1) (k := 1) (by decide +kernel) rfl rfl) ((hA1 c1) _ (fun M1 hR1 => ?_))
    refine b_stk [uR 5 47, uR 10 0] rfl ?_
    refine b_iload_n (d110 (j := 9) rfl) rfl ?_
    refine b_callV (d110 (j := 10) rfl) rfl rfl (Or.inl rfl) rfl (bCk_mk (n := 0) (k := 3) (by decide +kernel) rfl rfl) ((hA2 c1 M1 hR1) _ (fun M2 hR2 => ?_))
    refine b_stk [uI (g2 M1 M2)] rfl ?_
    refine b_istore_n [uR 10 0, uI x1, uI (g2 M1 M2)] (d110 (j := 11) rfl) (by decide) rfl ?_
    refine b_iload_n (d110 (j := 12) rfl) rfl ?_
    refine b_iconst (d110 (j := 13) rfl) (by decide) ?_
    refine b_icmp_ne (d110 (j := 14) rfl) (fun c2 => ?_) (fun c2 => ?_)
    ·
      refine b_iload_n (d110 (j := 17) rfl) rfl ?_
      refine b_callS (d110 (j := 18) rfl) (Or.inl rfl) rfl (bCk_mk (n := 0) (k := 1) (by decide +kernel) rfl rfl) ((hA3 c1 M1 hR1 M2 hR2 c2) _ (fun M3 hR3 => ?_))
      refine b_stk [uI (g3 M1 M2 M3)] rfl ?_
      exact b_iret (d110 (j := 19) rfl) rfl (k1 c1 M1 hR1 M2 hR2 c2 M3 hR3)
    ·
      refine b_iconst (d110 (j := 15) rfl) (by decide) ?_
      refine b_goto (d110 (j := 16) rfl) ?_
      exact b_iret (d110 (j := 19) rfl) rfl (k2 c1 M1 hR1 M2 hR2 c2)
  ·
    refine b_bipush (d110 (j := 4) rfl) (by decide) ?_
    exact b_iret (d110 (j := 5) rfl) rfl (k3 c1)
set_option maxRecDepth 100000 in
set_option maxHeartbeats 4000000 in
theorem r113n_0  {R1 : dsMem → Prop} {R2 : dsMem → dsMem → Prop} {g2 : dsMem → dsMem → Int} {M : dsMem} {Q : bQT} (hA1 : ((0 < (M 24 0))) → bCt 157 [uR 10 0] M (fun _ => [uR 5 47]) R1) (s1 : ((0 < (M 24 0))) → ∀ M1 : dsMem, R1 M1 → 0 ≤ (M1 24 1) ∧ (M1 24 1) < 13 := by intros; omega) (hA2 : ((0 < (M 24 0))) → ∀ M1 : dsMem, R1 M1 → bCt 333 [uI (M1 54 (M1 24 1))] M1 (fun M2 => [uI (g2 M1 M2)]) (R2 M1)) (k1 : ((0 < (M 24 0))) → ∀ M1 : dsMem, R1 M1 → ∀ M2 : dsMem, R2 M1 M2 → bB 113 33 [uR 10 0, uI (-1), uI (g2 M1 M2), uI 0, uX 0, uX 0] [] M2 Q) (k2 : (¬ (0 < (M 24 0))) → Q [uI (-2)] M) :
    bB 113 0 [uR 10 0, uX 0, uX 0, uX 0, uX 0, uX 0] [] M Q := by
  refine b_aload_n (d113 (j := 0) rfl) rfl ?_
  refine b_callV (d113 (j := 1) rfl) rfl rfl (Or.inl rfl) rfl (bCk_mk (n := 0) (k := 1) (by decide +kernel) rfl rfl) (pu149  ?_)
  refine b_stk [uI (if (0 < (M 24 0)) then 1 else 0)] rfl ?_
  refine b_ifneP (d113 (j := 2) rfl) (fun c1 => ?_) (fun c1 => ?_)
  ·
    refine b_iconst (d113 (j := 5) rfl) (by decide) ?_
    refine b_istore_n [uR 10 0, uI (-1), uX 0, uX 0, uX 0, uX 0] (d113 (j := 6) rfl) (by decide) rfl ?_
    refine b_aload_n (d113 (j := 7) rfl) rfl ?_
    refine b_callV (d113 (j := 8) rfl) rfl rfl (Or.inl rfl) rfl (bCk_mk (n := 0) (k := 1) (by decide +kernel) rfl rfl) ((hA1 c1) _ (fun M1 hR1 => ?_))
    refine b_stk [uR 5 47] rfl ?_
    refine b_getR (d113 (j := 9) rfl) rfl rfl rfl rfl ?_
    refine b_stk [uR 27 54] rfl ?_
    refine b_aload_n (d113 (j := 10) rfl) rfl ?_
    refine b_getR (d113 (j := 11) rfl) rfl rfl rfl rfl ?_
    refine b_stk [uR 4 24, uR 27 54] rfl ?_
    refine b_getI (d113 (j := 12) rfl) rfl rfl rfl rfl (Or.inl rfl) ?_
    refine b_stk [uI (M1 24 1), uR 27 54] rfl ?_
    refine b_iaload (d113 (j := 13) rfl) rfl (s1 c1 M1 hR1) ?_
    refine b_callS (d113 (j := 14) rfl) (Or.inl rfl) rfl (bCk_mk (n := 0) (k := 1) (by decide +kernel) rfl rfl) ((hA2 c1 M1 hR1) _ (fun M2 hR2 => ?_))
    refine b_stk [uI (g2 M1 M2)] rfl ?_
    refine b_istore_n [uR 10 0, uI (-1), uI (g2 M1 M2), uX 0, uX 0, uX 0] (d113 (j := 15) rfl) (by decide) rfl ?_
    refine b_iconst (d113 (j := 16) rfl) (by decide) ?_
    refine b_istore_n [uR 10 0, uI (-1), uI (g2 M1 M2), uI 0, uX 0, uX 0] (d113 (j := 17) rfl) (by decide) rfl ?_
    exact (k1 c1 M1 hR1 M2 hR2)
  ·
    refine b_bipush (d113 (j := 3) rfl) (by decide) ?_
    exact b_iret (d113 (j := 4) rfl) rfl (k2 c1)
set_option maxRecDepth 100000 in
set_option maxHeartbeats 4000000 in
theorem r113n_33 {x1 x2 x3 : Int} {R1 : dsMem → Prop} {R2 : dsMem → dsMem → Prop} {g2 : dsMem → dsMem → Int} {R3 : dsMem → dsMem → dsMem → Prop} {g3 : dsMem → dsMem → dsMem → Int} {M : dsMem} {Q : bQT} (k1 : ((M 30 0) ≤ x3) → Q [uI x1] M) (hA1 : (¬ (M 30 0) ≤ x3) → bCt 158 [uR 10 0] M (fun _ => [uR 0 63]) R1) (hA2 : (¬ (M 30 0) ≤ x3) → ∀ M1 : dsMem, R1 M1 → bCt 159 [uR 10 0] (dsSet M1 63 1 (dsXor (dsShl 1 x3) (-1))) (fun M2 => [uI (g2 M1 M2)]) (R2 M1)) (hA3 : (¬ (M 30 0) ≤ x3) → ∀ M1 : dsMem, R1 M1 → ∀ M2 : dsMem, R2 M1 M2 → bCt 333 [uI (g2 M1 M2)] M2 (fun M3 => [uI (g3 M1 M2 M3)]) (R3 M1 M2)) (s1 : (¬ (M 30 0) ≤ x3) → ∀ M1 : dsMem, R1 M1 → ∀ M2 : dsMem, R2 M1 M2 → ∀ M3 : dsMem, R3 M1 M2 M3 → ((g3 M1 M2 M3) ≤ x2) → -2147483648 ≤ x3 + 1 ∧ x3 + 1 < 2147483648 := by intros; omega) (k2 : (¬ (M 30 0) ≤ x3) → ∀ M1 : dsMem, R1 M1 → ∀ M2 : dsMem, R2 M1 M2 → ∀ M3 : dsMem, R3 M1 M2 M3 → ((g3 M1 M2 M3) ≤ x2) → bB 113 33 [uR 10 0, uI x1, uI x2, uI (x3 + 1), uX 0, uX 0] [] M3 Q) (s2 : (¬ (M 30 0) ≤ x3) → ∀ M1 : dsMem, R1 M1 → ∀ M2 : dsMem, R2 M1 M2 → ∀ M3 : dsMem, R3 M1 M2 M3 → (¬ (g3 M1 M2 M3) ≤ x2) → -2147483648 ≤ x3 + 1 ∧ x3 + 1 < 2147483648 := by intros; omega) (k3 : (¬ (M 30 0) ≤ x3) → ∀ M1 : dsMem, R1 M1 → ∀ M2 : dsMem, R2 M1 M2 → ∀ M3 : dsMem, R3 M1 M2 M3 → (¬ (g3 M1 M2 M3) ≤ x2) → bB 113 33 [uR 10 0, uI x3, uI (g3 M1 M2 M3), uI (x3 + 1), uX 0, uX 0] [] M3 Q) :
    bB 113 33 [uR 10 0, uI x1, uI x2, uI x3, uX 0, uX 0] [] M Q := by
  refine b_iload_n (d113 (j := 18) rfl) rfl ?_
  refine b_aload_n (d113 (j := 19) rfl) rfl ?_
  refine b_getR (d113 (j := 20) rfl) rfl rfl rfl rfl ?_
  refine b_stk [uR 4 24, uI x3] rfl ?_
  refine b_getR (d113 (j := 21) rfl) rfl rfl rfl rfl ?_
  refine b_stk [uR 1 30, uI x3] rfl ?_
  refine b_getI (d113 (j := 22) rfl) rfl rfl rfl rfl (Or.inl rfl) ?_
  refine b_stk [uI (M 30 0), uI x3] rfl ?_
  refine b_icmp_ge (d113 (j := 23) rfl) (fun c1 => ?_) (fun c1 => ?_)
  ·
    refine b_iload_n (d113 (j := 47) rfl) rfl ?_
    exact b_iret (d113 (j := 48) rfl) rfl (k1 c1)
  ·
    refine b_aload_n (d113 (j := 24) rfl) rfl ?_
    refine b_callV (d113 (j := 25) rfl) rfl rfl (Or.inl rfl) rfl (bCk_mk (n := 0) (k := 1) (by decide +kernel) rfl rfl) ((hA1 c1) _ (fun M1 hR1 => ?_))
    refine b_stk [uR 0 63] rfl ?_
    refine b_astore [uR 10 0, uI x1, uI x2, uI x3, uR 0 63, uX 0] (d113 (j := 26) rfl) (by decide) rfl ?_
    refine b_aload (d113 (j := 27) rfl) rfl ?_
    refine b_iconst (d113 (j := 28) rfl) (by decide) ?_
    refine b_iload_n (d113 (j := 29) rfl) rfl ?_
    refine b_ishl (d113 (j := 30) rfl) ?_
    refine b_iconst (d113 (j := 31) rfl) (by decide) ?_
    refine b_ixor (d113 (j := 32) rfl) ?_
    refine b_putI (d113 (j := 33) rfl) rfl ⟨rfl, rfl⟩ rfl rfl ?_
    refine b_aload_n (d113 (j := 34) rfl) rfl ?_
    refine b_callV (d113 (j := 35) rfl) rfl rfl (Or.inl rfl) rfl (bCk_mk (n := 0) (k := 1) (by decide +kernel) rfl rfl) ((hA2 c1 M1 hR1) _ (fun M2 hR2 => ?_))
    refine b_stk [uI (g2 M1 M2)] rfl ?_
    refine b_callS (d113 (j := 36) rfl) (Or.inl rfl) rfl (bCk_mk (n := 0) (k := 1) (by decide +kernel) rfl rfl) ((hA3 c1 M1 hR1 M2 hR2) _ (fun M3 hR3 => ?_))
    refine b_stk [uI (g3 M1 M2 M3)] rfl ?_
    refine b_istore [uR 10 0, uI x1, uI x2, uI x3, uR 0 63, uI (g3 M1 M2 M3)] (d113 (j := 37) rfl) (by decide) rfl ?_
    refine b_iload (d113 (j := 38) rfl) rfl ?_
    refine b_iload_n (d113 (j := 39) rfl) rfl ?_
    refine b_icmp_le (d113 (j := 40) rfl) (fun c2 => ?_) (fun c2 => ?_)
    ·
      refine b_iinc [uR 10 0, uI x1, uI x2, uI (x3 + 1), uR 0 63, uI (g3 M1 M2 M3)] (d113 (j := 45) rfl) rfl (by decide) (s1 c1 M1 hR1 M2 hR2 M3 hR3 c2) rfl ?_
      refine b_goto (d113 (j := 46) rfl) ?_
      exact bB_le _ (bLe_s (bLe_s (bLe_s (bLe_s (bLe_x (bLe_x bLe_nil)))))) (k2 c1 M1 hR1 M2 hR2 M3 hR3 c2)
    ·
      refine b_iload_n (d113 (j := 41) rfl) rfl ?_
      refine b_istore_n [uR 10 0, uI x3, uI x2, uI x3, uR 0 63, uI (g3 M1 M2 M3)] (d113 (j := 42) rfl) (by decide) rfl ?_
      refine b_iload (d113 (j := 43) rfl) rfl ?_
      refine b_istore_n [uR 10 0, uI x3, uI (g3 M1 M2 M3), uI x3, uR 0 63, uI (g3 M1 M2 M3)] (d113 (j := 44) rfl) (by decide) rfl ?_
      refine b_iinc [uR 10 0, uI x3, uI (g3 M1 M2 M3), uI (x3 + 1), uR 0 63, uI (g3 M1 M2 M3)] (d113 (j := 45) rfl) rfl (by decide) (s2 c1 M1 hR1 M2 hR2 M3 hR3 c2) rfl ?_
      refine b_goto (d113 (j := 46) rfl) ?_
      exact bB_le _ (bLe_s (bLe_s (bLe_s (bLe_s (bLe_x (bLe_x bLe_nil)))))) (k3 c1 M1 hR1 M2 hR2 M3 hR3 c2)
set_option maxRecDepth 100000 in
set_option maxHeartbeats 4000000 in
theorem r114n_0  {R1 : dsMem → Prop} {R2 : dsMem → dsMem → Prop} {g2 : dsMem → dsMem → Int} {M : dsMem} {Q : bQT} (hA1 : ((0 < (M 24 0))) → bCt 157 [uR 10 0] M (fun _ => [uR 5 47]) R1) (s1 : ((0 < (M 24 0))) → ∀ M1 : dsMem, R1 M1 → 0 ≤ (M1 24 1) ∧ (M1 24 1) < 13 := by intros; omega) (hA2 : ((0 < (M 24 0))) → ∀ M1 : dsMem, R1 M1 → bCt 333 [uI (M1 54 (M1 24 1))] M1 (fun M2 => [uI (g2 M1 M2)]) (R2 M1)) (k1 : ((0 < (M 24 0))) → ∀ M1 : dsMem, R1 M1 → ∀ M2 : dsMem, R2 M1 M2 → bB 114 33 [uR 10 0, uI (-1), uI (g2 M1 M2), uI 0, uX 0, uX 0] [] M2 Q) (k2 : (¬ (0 < (M 24 0))) → Q [uI (-2)] M) :
    bB 114 0 [uR 10 0, uX 0, uX 0, uX 0, uX 0, uX 0] [] M Q := by
  refine b_aload_n (d114 (j := 0) rfl) rfl ?_
  refine b_callV (d114 (j := 1) rfl) rfl rfl (Or.inl rfl) rfl (bCk_mk (n := 0) (k := 1) (by decide +kernel) rfl rfl) (pu149  ?_)
  refine b_stk [uI (if (0 < (M 24 0)) then 1 else 0)] rfl ?_
  refine b_ifneP (d114 (j := 2) rfl) (fun c1 => ?_) (fun c1 => ?_)
  ·
    refine b_iconst (d114 (j := 5) rfl) (by decide) ?_
    refine b_istore_n [uR 10 0, uI (-1), uX 0, uX 0, uX 0, uX 0] (d114 (j := 6) rfl) (by decide) rfl ?_
    refine b_aload_n (d114 (j := 7) rfl) rfl ?_
    refine b_callV (d114 (j := 8) rfl) rfl rfl (Or.inl rfl) rfl (bCk_mk (n := 0) (k := 1) (by decide +kernel) rfl rfl) ((hA1 c1) _ (fun M1 hR1 => ?_))
    refine b_stk [uR 5 47] rfl ?_
    refine b_getR (d114 (j := 9) rfl) rfl rfl rfl rfl ?_
    refine b_stk [uR 27 54] rfl ?_
    refine b_aload_n (d114 (j := 10) rfl) rfl ?_
    refine b_getR (d114 (j := 11) rfl) rfl rfl rfl rfl ?_
    refine b_stk [uR 4 24, uR 27 54] rfl ?_
    refine b_getI (d114 (j := 12) rfl) rfl rfl rfl rfl (Or.inl rfl) ?_
    refine b_stk [uI (M1 24 1), uR 27 54] rfl ?_
    refine b_iaload (d114 (j := 13) rfl) rfl (s1 c1 M1 hR1) ?_
    refine b_callS (d114 (j := 14) rfl) (Or.inl rfl) rfl (bCk_mk (n := 0) (k := 1) (by decide +kernel) rfl rfl) ((hA2 c1 M1 hR1) _ (fun M2 hR2 => ?_))
    refine b_stk [uI (g2 M1 M2)] rfl ?_
    refine b_istore_n [uR 10 0, uI (-1), uI (g2 M1 M2), uX 0, uX 0, uX 0] (d114 (j := 15) rfl) (by decide) rfl ?_
    refine b_iconst (d114 (j := 16) rfl) (by decide) ?_
    refine b_istore_n [uR 10 0, uI (-1), uI (g2 M1 M2), uI 0, uX 0, uX 0] (d114 (j := 17) rfl) (by decide) rfl ?_
    exact (k1 c1 M1 hR1 M2 hR2)
  ·
    refine b_bipush (d114 (j := 3) rfl) (by decide) ?_
    exact b_iret (d114 (j := 4) rfl) rfl (k2 c1)
set_option maxRecDepth 100000 in
set_option maxHeartbeats 4000000 in
theorem r114n_33 {x1 x2 x3 : Int} {R1 : dsMem → Prop} {R2 : dsMem → dsMem → Prop} {g2 : dsMem → dsMem → Int} {R3 : dsMem → dsMem → dsMem → Prop} {g3 : dsMem → dsMem → dsMem → Int} {M : dsMem} {Q : bQT} (k1 : ((M 35 0) ≤ x3) → Q [uI x1] M) (hA1 : (¬ (M 35 0) ≤ x3) → bCt 158 [uR 10 0] M (fun _ => [uR 0 63]) R1) (hA2 : (¬ (M 35 0) ≤ x3) → ∀ M1 : dsMem, R1 M1 → bCt 159 [uR 10 0] (dsSet M1 63 2 (dsXor (dsShl 1 x3) (-1))) (fun M2 => [uI (g2 M1 M2)]) (R2 M1)) (hA3 : (¬ (M 35 0) ≤ x3) → ∀ M1 : dsMem, R1 M1 → ∀ M2 : dsMem, R2 M1 M2 → bCt 333 [uI (g2 M1 M2)] M2 (fun M3 => [uI (g3 M1 M2 M3)]) (R3 M1 M2)) (s1 : (¬ (M 35 0) ≤ x3) → ∀ M1 : dsMem, R1 M1 → ∀ M2 : dsMem, R2 M1 M2 → ∀ M3 : dsMem, R3 M1 M2 M3 → (x2 ≤ (g3 M1 M2 M3)) → -2147483648 ≤ x3 + 1 ∧ x3 + 1 < 2147483648 := by intros; omega) (k2 : (¬ (M 35 0) ≤ x3) → ∀ M1 : dsMem, R1 M1 → ∀ M2 : dsMem, R2 M1 M2 → ∀ M3 : dsMem, R3 M1 M2 M3 → (x2 ≤ (g3 M1 M2 M3)) → bB 114 33 [uR 10 0, uI x1, uI x2, uI (x3 + 1), uX 0, uX 0] [] M3 Q) (s2 : (¬ (M 35 0) ≤ x3) → ∀ M1 : dsMem, R1 M1 → ∀ M2 : dsMem, R2 M1 M2 → ∀ M3 : dsMem, R3 M1 M2 M3 → (¬ x2 ≤ (g3 M1 M2 M3)) → -2147483648 ≤ x3 + 1 ∧ x3 + 1 < 2147483648 := by intros; omega) (k3 : (¬ (M 35 0) ≤ x3) → ∀ M1 : dsMem, R1 M1 → ∀ M2 : dsMem, R2 M1 M2 → ∀ M3 : dsMem, R3 M1 M2 M3 → (¬ x2 ≤ (g3 M1 M2 M3)) → bB 114 33 [uR 10 0, uI x3, uI (g3 M1 M2 M3), uI (x3 + 1), uX 0, uX 0] [] M3 Q) :
    bB 114 33 [uR 10 0, uI x1, uI x2, uI x3, uX 0, uX 0] [] M Q := by
  refine b_iload_n (d114 (j := 18) rfl) rfl ?_
  refine b_aload_n (d114 (j := 19) rfl) rfl ?_
  refine b_getR (d114 (j := 20) rfl) rfl rfl rfl rfl ?_
  refine b_stk [uR 4 24, uI x3] rfl ?_
  refine b_getR (d114 (j := 21) rfl) rfl rfl rfl rfl ?_
  refine b_stk [uR 2 35, uI x3] rfl ?_
  refine b_getI (d114 (j := 22) rfl) rfl rfl rfl rfl (Or.inl rfl) ?_
  refine b_stk [uI (M 35 0), uI x3] rfl ?_
  refine b_icmp_ge (d114 (j := 23) rfl) (fun c1 => ?_) (fun c1 => ?_)
  ·
    refine b_iload_n (d114 (j := 47) rfl) rfl ?_
    exact b_iret (d114 (j := 48) rfl) rfl (k1 c1)
  ·
    refine b_aload_n (d114 (j := 24) rfl) rfl ?_
    refine b_callV (d114 (j := 25) rfl) rfl rfl (Or.inl rfl) rfl (bCk_mk (n := 0) (k := 1) (by decide +kernel) rfl rfl) ((hA1 c1) _ (fun M1 hR1 => ?_))
    refine b_stk [uR 0 63] rfl ?_
    refine b_astore [uR 10 0, uI x1, uI x2, uI x3, uR 0 63, uX 0] (d114 (j := 26) rfl) (by decide) rfl ?_
    refine b_aload (d114 (j := 27) rfl) rfl ?_
    refine b_iconst (d114 (j := 28) rfl) (by decide) ?_
    refine b_iload_n (d114 (j := 29) rfl) rfl ?_
    refine b_ishl (d114 (j := 30) rfl) ?_
    refine b_iconst (d114 (j := 31) rfl) (by decide) ?_
    refine b_ixor (d114 (j := 32) rfl) ?_
    refine b_putI (d114 (j := 33) rfl) rfl ⟨rfl, rfl⟩ rfl rfl ?_
    refine b_aload_n (d114 (j := 34) rfl) rfl ?_
    refine b_callV (d114 (j := 35) rfl) rfl rfl (Or.inl rfl) rfl (bCk_mk (n := 0) (k := 1) (by decide +kernel) rfl rfl) ((hA2 c1 M1 hR1) _ (fun M2 hR2 => ?_))
    refine b_stk [uI (g2 M1 M2)] rfl ?_
    refine b_callS (d114 (j := 36) rfl) (Or.inl rfl) rfl (bCk_mk (n := 0) (k := 1) (by decide +kernel) rfl rfl) ((hA3 c1 M1 hR1 M2 hR2) _ (fun M3 hR3 => ?_))
    refine b_stk [uI (g3 M1 M2 M3)] rfl ?_
    refine b_istore [uR 10 0, uI x1, uI x2, uI x3, uR 0 63, uI (g3 M1 M2 M3)] (d114 (j := 37) rfl) (by decide) rfl ?_
    refine b_iload (d114 (j := 38) rfl) rfl ?_
    refine b_iload_n (d114 (j := 39) rfl) rfl ?_
    refine b_icmp_ge (d114 (j := 40) rfl) (fun c2 => ?_) (fun c2 => ?_)
    ·
      refine b_iinc [uR 10 0, uI x1, uI x2, uI (x3 + 1), uR 0 63, uI (g3 M1 M2 M3)] (d114 (j := 45) rfl) rfl (by decide) (s1 c1 M1 hR1 M2 hR2 M3 hR3 c2) rfl ?_
      refine b_goto (d114 (j := 46) rfl) ?_
      exact bB_le _ (bLe_s (bLe_s (bLe_s (bLe_s (bLe_x (bLe_x bLe_nil)))))) (k2 c1 M1 hR1 M2 hR2 M3 hR3 c2)
    ·
      refine b_iload_n (d114 (j := 41) rfl) rfl ?_
      refine b_istore_n [uR 10 0, uI x3, uI x2, uI x3, uR 0 63, uI (g3 M1 M2 M3)] (d114 (j := 42) rfl) (by decide) rfl ?_
      refine b_iload (d114 (j := 43) rfl) rfl ?_
      refine b_istore_n [uR 10 0, uI x3, uI (g3 M1 M2 M3), uI x3, uR 0 63, uI (g3 M1 M2 M3)] (d114 (j := 44) rfl) (by decide) rfl ?_
      refine b_iinc [uR 10 0, uI x3, uI (g3 M1 M2 M3), uI (x3 + 1), uR 0 63, uI (g3 M1 M2 M3)] (d114 (j := 45) rfl) rfl (by decide) (s2 c1 M1 hR1 M2 hR2 M3 hR3 c2) rfl ?_
      refine b_goto (d114 (j := 46) rfl) ?_
      exact bB_le _ (bLe_s (bLe_s (bLe_s (bLe_s (bLe_x (bLe_x bLe_nil)))))) (k3 c1 M1 hR1 M2 hR2 M3 hR3 c2)
set_option maxRecDepth 100000 in
set_option maxHeartbeats 4000000 in
theorem r124n_0   {M : dsMem} {Q : bQT} (k1 : ((0 < (M 24 0))) → bB 124 16 [uR 10 0, uI 0, uI (-1), uI 0, uX 0] [] M Q) (k2 : (¬ (0 < (M 24 0))) → Q [uI (-2)] M) :
    bB 124 0 [uR 10 0, uX 0, uX 0, uX 0, uX 0] [] M Q := by
  refine b_aload_n (d124 (j := 0) rfl) rfl ?_
  refine b_callV (d124 (j := 1) rfl) rfl rfl (Or.inl rfl) rfl (bCk_mk (n := 0) (k := 1) (by decide +kernel) rfl rfl) (pu149  ?_)
  refine b_stk [uI (if (0 < (M 24 0)) then 1 else 0)] rfl ?_
  refine b_ifneP (d124 (j := 2) rfl) (fun c1 => ?_) (fun c1 => ?_)
  ·
    refine b_iconst (d124 (j := 5) rfl) (by decide) ?_
    refine b_istore_n [uR 10 0, uI 0, uX 0, uX 0, uX 0] (d124 (j := 6) rfl) (by decide) rfl ?_
    refine b_iconst (d124 (j := 7) rfl) (by decide) ?_
    refine b_istore_n [uR 10 0, uI 0, uI (-1), uX 0, uX 0] (d124 (j := 8) rfl) (by decide) rfl ?_
    refine b_iconst (d124 (j := 9) rfl) (by decide) ?_
    refine b_istore_n [uR 10 0, uI 0, uI (-1), uI 0, uX 0] (d124 (j := 10) rfl) (by decide) rfl ?_
    exact (k1 c1)
  ·
    refine b_bipush (d124 (j := 3) rfl) (by decide) ?_
    exact b_iret (d124 (j := 4) rfl) rfl (k2 c1)
set_option maxRecDepth 100000 in
set_option maxHeartbeats 4000000 in
theorem r124n_16 {x1 x2 x3 : Int} {R1 : dsMem → Prop} {R2 : dsMem → dsMem → Prop} {g2 : dsMem → dsMem → Int} {M : dsMem} {Q : bQT} (k1 : (3 < x3) → Q [uI x1] M) (hA1 : (¬ 3 < x3) → bCt 160 [uR 10 0, uI x3] M (fun _ => []) R1) (s1 : (¬ 3 < x3) → ∀ M1 : dsMem, R1 M1 → 0 ≤ (M1 24 1) ∧ (M1 24 1) < 13 := by intros; omega) (hA2 : (¬ 3 < x3) → ∀ M1 : dsMem, R1 M1 → bCt 333 [uI (M1 69 (M1 24 1))] M1 (fun M2 => [uI (g2 M1 M2)]) (R2 M1)) (s2 : (¬ 3 < x3) → ∀ M1 : dsMem, R1 M1 → ∀ M2 : dsMem, R2 M1 M2 → ((g2 M1 M2) ≤ x2) → -2147483648 ≤ x3 + 1 ∧ x3 + 1 < 2147483648 := by intros; omega) (k2 : (¬ 3 < x3) → ∀ M1 : dsMem, R1 M1 → ∀ M2 : dsMem, R2 M1 M2 → ((g2 M1 M2) ≤ x2) → bB 124 16 [uR 10 0, uI x1, uI x2, uI (x3 + 1), uX 0] [] M2 Q) (s3 : (¬ 3 < x3) → ∀ M1 : dsMem, R1 M1 → ∀ M2 : dsMem, R2 M1 M2 → (¬ (g2 M1 M2) ≤ x2) → -2147483648 ≤ x3 + 1 ∧ x3 + 1 < 2147483648 := by intros; omega) (k3 : (¬ 3 < x3) → ∀ M1 : dsMem, R1 M1 → ∀ M2 : dsMem, R2 M1 M2 → (¬ (g2 M1 M2) ≤ x2) → bB 124 16 [uR 10 0, uI x3, uI (g2 M1 M2), uI (x3 + 1), uX 0] [] M2 Q) :
    bB 124 16 [uR 10 0, uI x1, uI x2, uI x3, uX 0] [] M Q := by
  refine b_iload_n (d124 (j := 11) rfl) rfl ?_
  refine b_iconst (d124 (j := 12) rfl) (by decide) ?_
  refine b_icmp_gt (d124 (j := 13) rfl) (fun c1 => ?_) (fun c1 => ?_)
  ·
    refine b_iload_n (d124 (j := 35) rfl) rfl ?_
    exact b_iret (d124 (j := 36) rfl) rfl (k1 c1)
  ·
    refine b_aload_n (d124 (j := 14) rfl) rfl ?_
    refine b_iload_n (d124 (j := 15) rfl) rfl ?_
    refine b_callV (d124 (j := 16) rfl) rfl rfl (Or.inl rfl) rfl (bCk_mk (n := 0) (k := 2) (by decide +kernel) rfl rfl) ((hA1 c1) _ (fun M1 hR1 => ?_))
    refine b_stk [] rfl ?_
    refine b_aload_n (d124 (j := 17) rfl) rfl ?_
    refine b_getR (d124 (j := 18) rfl) rfl rfl rfl rfl ?_
    refine b_stk [uR 5 62] rfl ?_
    refine b_getR (d124 (j := 19) rfl) rfl rfl rfl rfl ?_
    refine b_stk [uR 27 69] rfl ?_
    refine b_aload_n (d124 (j := 20) rfl) rfl ?_
    refine b_getR (d124 (j := 21) rfl) rfl rfl rfl rfl ?_
    refine b_stk [uR 4 24, uR 27 69] rfl ?_
    refine b_getI (d124 (j := 22) rfl) rfl rfl rfl rfl (Or.inl rfl) ?_
    refine b_stk [uI (M1 24 1), uR 27 69] rfl ?_
    refine b_iaload (d124 (j := 23) rfl) rfl (s1 c1 M1 hR1) ?_
    refine b_callS (d124 (j := 24) rfl) (Or.inl rfl) rfl (bCk_mk (n := 0) (k := 1) (by decide +kernel) rfl rfl) ((hA2 c1 M1 hR1) _ (fun M2 hR2 => ?_))
    refine b_stk [uI (g2 M1 M2)] rfl ?_
    refine b_istore [uR 10 0, uI x1, uI x2, uI x3, uI (g2 M1 M2)] (d124 (j := 25) rfl) (by decide) rfl ?_
    refine b_iload (d124 (j := 26) rfl) rfl ?_
    refine b_iload_n (d124 (j := 27) rfl) rfl ?_
    refine b_icmp_le (d124 (j := 28) rfl) (fun c2 => ?_) (fun c2 => ?_)
    ·
      refine b_iinc [uR 10 0, uI x1, uI x2, uI (x3 + 1), uI (g2 M1 M2)] (d124 (j := 33) rfl) rfl (by decide) (s2 c1 M1 hR1 M2 hR2 c2) rfl ?_
      refine b_goto (d124 (j := 34) rfl) ?_
      exact bB_le _ (bLe_s (bLe_s (bLe_s (bLe_s (bLe_x bLe_nil))))) (k2 c1 M1 hR1 M2 hR2 c2)
    ·
      refine b_iload_n (d124 (j := 29) rfl) rfl ?_
      refine b_istore_n [uR 10 0, uI x3, uI x2, uI x3, uI (g2 M1 M2)] (d124 (j := 30) rfl) (by decide) rfl ?_
      refine b_iload (d124 (j := 31) rfl) rfl ?_
      refine b_istore_n [uR 10 0, uI x3, uI (g2 M1 M2), uI x3, uI (g2 M1 M2)] (d124 (j := 32) rfl) (by decide) rfl ?_
      refine b_iinc [uR 10 0, uI x3, uI (g2 M1 M2), uI (x3 + 1), uI (g2 M1 M2)] (d124 (j := 33) rfl) rfl (by decide) (s3 c1 M1 hR1 M2 hR2 c2) rfl ?_
      refine b_goto (d124 (j := 34) rfl) ?_
      exact bB_le _ (bLe_s (bLe_s (bLe_s (bLe_s (bLe_x bLe_nil))))) (k3 c1 M1 hR1 M2 hR2 c2)
set_option maxRecDepth 100000 in
set_option maxHeartbeats 4000000 in
theorem r126n_0 {x1 x2 : Int} {R1 : dsMem → Prop} {M : dsMem} {Q : bQT} (s1 : -2147483648 ≤ ((M 24 5) - 1) ∧ ((M 24 5) - 1) < 2147483648 := by intros; omega) (k1 : (¬ (0 ≤ x1 ∧ x1 ≤ (M 24 5) - 1)) → Q [uI (-1000000)] M) (hA1 : ((0 ≤ x1 ∧ x1 ≤ (M 24 5) - 1)) → ((0 ≤ x2 ∧ x2 ≤ 1)) → bCt 163 [uR 10 0, uX 0] M (fun _ => []) R1) (k2 : ((0 ≤ x1 ∧ x1 ≤ (M 24 5) - 1)) → ((0 ≤ x2 ∧ x2 ≤ 1)) → ∀ M1 : dsMem, R1 M1 → bB 126 30 [uR 10 0, uI x1, uI x2, uJ 0, uX 0, uI 0, uX 0, uX 0] [] M1 Q) (k3 : ((0 ≤ x1 ∧ x1 ≤ (M 24 5) - 1)) → (¬ (0 ≤ x2 ∧ x2 ≤ 1)) → Q [uI (-1000000)] M) :
    bB 126 0 [uR 10 0, uI x1, uI x2, uX 0, uX 0, uX 0, uX 0, uX 0] [] M Q := by
  refine b_aload_n (d126 (j := 0) rfl) rfl ?_
  refine b_iload_n (d126 (j := 1) rfl) rfl ?_
  refine b_callV (d126 (j := 2) rfl) rfl rfl (Or.inl rfl) rfl (bCk_mk (n := 0) (k := 2) (by decide +kernel) rfl rfl) (pu151 s1 ?_)
  refine b_stk [uI (if (0 ≤ x1 ∧ x1 ≤ (M 24 5) - 1) then 1 else 0)] rfl ?_
  refine b_ifeqP (d126 (j := 3) rfl) (fun c1 => ?_) (fun c1 => ?_)
  ·
    refine b_ldcw (d126 (j := 9) rfl) rfl ?_
    exact b_iret (d126 (j := 10) rfl) rfl (k1 c1)
  ·
    refine b_iload_n (d126 (j := 4) rfl) rfl ?_
    refine b_iconst (d126 (j := 5) rfl) (by decide) ?_
    refine b_iconst (d126 (j := 6) rfl) (by decide) ?_
    refine b_callS (d126 (j := 7) rfl) (Or.inl rfl) rfl (bCk_mk (n := 0) (k := 3) (by decide +kernel) rfl rfl) (pu144  ?_)
    refine b_stk [uI (if (0 ≤ x2 ∧ x2 ≤ 1) then 1 else 0)] rfl ?_
    refine b_ifneP (d126 (j := 8) rfl) (fun c2 => ?_) (fun c2 => ?_)
    ·
      refine b_aload_n (d126 (j := 11) rfl) rfl ?_
      refine b_callV (d126 (j := 12) rfl) rfl rfl (Or.inl rfl) rfl (bCk_mk (n := 0) (k := 1) (by decide +kernel) rfl rfl) ((hA1 c1 c2) _ (fun M1 hR1 => ?_))
      refine b_stk [] rfl ?_
      refine b_lconst (d126 (j := 13) rfl) ?_
      refine b_stk [uJ 0] rfl ?_
      refine b_lstore_n [uR 10 0, uI x1, uI x2, uJ 0, uX 0, uX 0, uX 0, uX 0] (d126 (j := 14) rfl) (by decide) rfl ?_
      refine b_iconst (d126 (j := 15) rfl) (by decide) ?_
      refine b_istore [uR 10 0, uI x1, uI x2, uJ 0, uX 0, uI 0, uX 0, uX 0] (d126 (j := 16) rfl) (by decide) rfl ?_
      exact (k2 c1 c2 M1 hR1)
    ·
      refine b_ldcw (d126 (j := 9) rfl) rfl ?_
      exact b_iret (d126 (j := 10) rfl) rfl (k3 c1 c2)
set_option maxRecDepth 100000 in
set_option maxHeartbeats 4000000 in
theorem r126n_30 {x1 x2 x3 x5 : Int} {R1 : dsMem → Prop} {g1 : dsMem → Int} {R2 : dsMem → Prop} {g2 : dsMem → Int} {R3 : dsMem → dsMem → Prop} {g3 : dsMem → dsMem → Int} {M : dsMem} {Q : bQT} (s1 : -2147483648 ≤ ((dsShl 1 (M 24 5)) - 1) ∧ ((dsShl 1 (M 24 5)) - 1) < 2147483648 := by intros; omega) (s2 : (((dsShl 1 (M 24 5)) - 1) < x5) → ∀ i165_1 : Int, ∀ a165_1 : Int, 2 ≤ i165_1 → i165_1 < ((M 24 5) + 1) → -2147483648 ≤ i165_1 + 1 ∧ i165_1 + 1 < 2147483648 := by intros; omega) (hA1 : (((dsShl 1 (M 24 5)) - 1) < x5) → bCt 166 [uJ x3, uX 0, uJ (v165 M (M 24 5)), uX 0, uI x2, uX 0, uX 0, uX 0, uX 0, uX 0, uX 0, uX 0] M (fun M1 => [uJ (g1 M1)]) R1) (s3 : (((dsShl 1 (M 24 5)) - 1) < x5) → ∀ M1 : dsMem, R1 M1 → -2147483648 ≤ (g1 M1) ∧ (g1 M1) < 2147483648 := by intros; omega) (k1 : (((dsShl 1 (M 24 5)) - 1) < x5) → ∀ M1 : dsMem, R1 M1 → Q [uI (g1 M1)] M1) (s4 : (¬ ((dsShl 1 (M 24 5)) - 1) < x5) → ((dsAnd (dsShr x5 x1) 1 = 1)) → -2147483648 ≤ x5 + 1 ∧ x5 + 1 < 2147483648 := by intros; omega) (k2 : (¬ ((dsShl 1 (M 24 5)) - 1) < x5) → ((dsAnd (dsShr x5 x1) 1 = 1)) → bB 126 30 [uR 10 0, uI x1, uI x2, uJ x3, uX 0, uI (x5 + 1), uX 0, uX 0] [] M Q) (hA2 : (¬ ((dsShl 1 (M 24 5)) - 1) < x5) → (¬ (dsAnd (dsShr x5 x1) 1 = 1)) → bCt 333 [uI x5] M (fun M2 => [uI (g2 M2)]) R2) (s5 : (¬ ((dsShl 1 (M 24 5)) - 1) < x5) → (¬ (dsAnd (dsShr x5 x1) 1 = 1)) → ∀ M2 : dsMem, R2 M2 → ∀ i165_1 : Int, ∀ a165_1 : Int, 2 ≤ i165_1 → i165_1 < ((g2 M2) + 1) → -2147483648 ≤ i165_1 + 1 ∧ i165_1 + 1 < 2147483648 := by intros; omega) (hA3 : (¬ ((dsShl 1 (M 24 5)) - 1) < x5) → (¬ (dsAnd (dsShr x5 x1) 1 = 1)) → ∀ M2 : dsMem, R2 M2 → bCt 333 [uI x5] M2 (fun M3 => [uI (g3 M2 M3)]) (R3 M2)) (s6 : (¬ ((dsShl 1 (M 24 5)) - 1) < x5) → (¬ (dsAnd (dsShr x5 x1) 1 = 1)) → ∀ M2 : dsMem, R2 M2 → ∀ M3 : dsMem, R3 M2 M3 → -2147483648 ≤ (((M2 24 5) - 1) - (g3 M2 M3)) ∧ (((M2 24 5) - 1) - (g3 M2 M3)) < 2147483648 := by intros; omega) (s7 : (¬ ((dsShl 1 (M 24 5)) - 1) < x5) → (¬ (dsAnd (dsShr x5 x1) 1 = 1)) → ∀ M2 : dsMem, R2 M2 → ∀ M3 : dsMem, R3 M2 M3 → ∀ i165_1 : Int, ∀ a165_1 : Int, 2 ≤ i165_1 → i165_1 < ((((M2 24 5) - 1) - (g3 M2 M3)) + 1) → -2147483648 ≤ i165_1 + 1 ∧ i165_1 + 1 < 2147483648 := by intros; omega) (s8 : (¬ ((dsShl 1 (M 24 5)) - 1) < x5) → (¬ (dsAnd (dsShr x5 x1) 1 = 1)) → ∀ M2 : dsMem, R2 M2 → ∀ M3 : dsMem, R3 M2 M3 → 0 ≤ (dsOr x5 (dsShl 1 x1)) ∧ (dsOr x5 (dsShl 1 x1)) < 64 := by intros; omega) (s9 : (¬ ((dsShl 1 (M 24 5)) - 1) < x5) → (¬ (dsAnd (dsShr x5 x1) 1 = 1)) → ∀ M2 : dsMem, R2 M2 → ∀ M3 : dsMem, R3 M2 M3 → 0 ≤ x5 ∧ x5 < 64 := by intros; omega) (s10 : (¬ ((dsShl 1 (M 24 5)) - 1) < x5) → (¬ (dsAnd (dsShr x5 x1) 1 = 1)) → ∀ M2 : dsMem, R2 M2 → ∀ M3 : dsMem, R3 M2 M3 → -2147483648 ≤ ((M3 83 (dsOr x5 (dsShl 1 x1))) - (M3 83 x5)) ∧ ((M3 83 (dsOr x5 (dsShl 1 x1))) - (M3 83 x5)) < 2147483648 := by intros; omega) (s11 : (¬ ((dsShl 1 (M 24 5)) - 1) < x5) → (¬ (dsAnd (dsShr x5 x1) 1 = 1)) → ∀ M2 : dsMem, R2 M2 → ∀ M3 : dsMem, R3 M2 M3 → -2147483648 ≤ x5 + 1 ∧ x5 + 1 < 2147483648 := by intros; omega) (k3 : (¬ ((dsShl 1 (M 24 5)) - 1) < x5) → (¬ (dsAnd (dsShr x5 x1) 1 = 1)) → ∀ M2 : dsMem, R2 M2 → ∀ M3 : dsMem, R3 M2 M3 → bB 126 30 [uR 10 0, uI x1, uI x2, uJ (dsw64 ((x3 + ((dsw64 (((v165 M2 (g2 M2)) * (v165 M3 (((M2 24 5) - 1) - (g3 M2 M3)))))) * ((M3 83 (dsOr x5 (dsShl 1 x1))) - (M3 83 x5)))))), uX 0, uI (x5 + 1), uX 0, uX 0] [] M3 Q) :
    bB 126 30 [uR 10 0, uI x1, uI x2, uJ x3, uX 0, uI x5, uX 0, uX 0] [] M Q := by
  refine b_iload (d126 (j := 17) rfl) rfl ?_
  refine b_aload_n (d126 (j := 18) rfl) rfl ?_
  refine b_getR (d126 (j := 19) rfl) rfl rfl rfl rfl ?_
  refine b_stk [uR 4 24, uI x5] rfl ?_
  refine b_callV (d126 (j := 20) rfl) rfl rfl (Or.inl rfl) rfl (bCk_mk (n := 1) (k := 1) (by decide +kernel) rfl rfl) (pu64 s1 ?_)
  refine b_stk [uI ((dsShl 1 (M 24 5)) - 1), uI x5] rfl ?_
  refine b_icmp_gt (d126 (j := 21) rfl) (fun c1 => ?_) (fun c1 => ?_)
  ·
    refine b_lload_n (d126 (j := 61) rfl) rfl ?_
    refine b_aload_n (d126 (j := 62) rfl) rfl ?_
    refine b_getR (d126 (j := 63) rfl) rfl rfl rfl rfl ?_
    refine b_stk [uR 4 24, uJ x3] rfl ?_
    refine b_getI (d126 (j := 64) rfl) rfl rfl rfl rfl (Or.inl rfl) ?_
    refine b_stk [uI (M 24 5), uJ x3] rfl ?_
    refine b_callS (d126 (j := 65) rfl) (Or.inl rfl) rfl (bCk_mk (n := 2) (k := 1) (by decide +kernel) rfl rfl) (fx165 (s2 c1) ?_)
    refine b_stk [uJ (v165 M (M 24 5)), uJ x3] rfl ?_
    refine b_iload_n (d126 (j := 66) rfl) rfl ?_
    refine b_callS (d126 (j := 67) rfl) (Or.inl rfl) rfl (bCk_mk (n := 0) (k := 5) (by decide +kernel) rfl rfl) ((hA1 c1) _ (fun M1 hR1 => ?_))
    refine b_stk [uJ (g1 M1)] rfl ?_
    refine b_l2i (d126 (j := 68) rfl) rfl ?_
    refine b_stk [uI (g1 M1)] (by rw [dsw_r (s3 c1 M1 hR1)]) ?_
    exact b_iret (d126 (j := 69) rfl) rfl (k1 c1 M1 hR1)
  ·
    refine b_iload (d126 (j := 22) rfl) rfl ?_
    refine b_iload_n (d126 (j := 23) rfl) rfl ?_
    refine b_callS (d126 (j := 24) rfl) (Or.inl rfl) rfl (bCk_mk (n := 0) (k := 2) (by decide +kernel) rfl rfl) (pu145 ?_)
    refine b_stk [uI (if (dsAnd (dsShr x5 x1) 1 = 1) then 1 else 0)] rfl ?_
    refine b_ifneP (d126 (j := 25) rfl) (fun c2 => ?_) (fun c2 => ?_)
    ·
      refine b_iinc [uR 10 0, uI x1, uI x2, uJ x3, uX 0, uI (x5 + 1), uX 0, uX 0] (d126 (j := 59) rfl) rfl (by decide) (s4 c1 c2) rfl ?_
      refine b_goto (d126 (j := 60) rfl) ?_
      exact (k2 c1 c2)
    ·
      refine b_iload (d126 (j := 26) rfl) rfl ?_
      refine b_callS (d126 (j := 27) rfl) (Or.inl rfl) rfl (bCk_mk (n := 0) (k := 1) (by decide +kernel) rfl rfl) ((hA2 c1 c2) _ (fun M2 hR2 => ?_))
      refine b_stk [uI (g2 M2)] rfl ?_
      refine b_callS (d126 (j := 28) rfl) (Or.inl rfl) rfl (bCk_mk (n := 0) (k := 1) (by decide +kernel) rfl rfl) (fx165 (s5 c1 c2 M2 hR2) ?_)
      refine b_stk [uJ (v165 M2 (g2 M2))] rfl ?_
      refine b_aload_n (d126 (j := 29) rfl) rfl ?_
      refine b_getR (d126 (j := 30) rfl) rfl rfl rfl rfl ?_
      refine b_stk [uR 4 24, uJ (v165 M2 (g2 M2))] rfl ?_
      refine b_getI (d126 (j := 31) rfl) rfl rfl rfl rfl (Or.inl rfl) ?_
      refine b_stk [uI (M2 24 5), uJ (v165 M2 (g2 M2))] rfl ?_
      refine b_iconst (d126 (j := 32) rfl) (by decide) ?_
      refine b_isub (d126 (j := 33) rfl) rfl rfl ?_
      refine b_iload (d126 (j := 34) rfl) rfl ?_
      refine b_callS (d126 (j := 35) rfl) (Or.inl rfl) rfl (bCk_mk (n := 3) (k := 1) (by decide +kernel) rfl rfl) ((hA3 c1 c2 M2 hR2) _ (fun M3 hR3 => ?_))
      refine b_stk [uI (g3 M2 M3), uI (dsw (((M2 24 5) - 1))), uJ (v165 M2 (g2 M2))] rfl ?_
      refine b_isub (d126 (j := 36) rfl) (dsw_dsw _) rfl ?_
      refine b_stk [uI (((M2 24 5) - 1) - (g3 M2 M3)), uJ (v165 M2 (g2 M2))] (by rw [dsw_r (s6 c1 c2 M2 hR2 M3 hR3)]) ?_
      refine b_callS (d126 (j := 37) rfl) (Or.inl rfl) rfl (bCk_mk (n := 2) (k := 1) (by decide +kernel) rfl rfl) (fx165 (s7 c1 c2 M2 hR2 M3 hR3) ?_)
      refine b_stk [uJ (v165 M3 (((M2 24 5) - 1) - (g3 M2 M3))), uJ (v165 M2 (g2 M2))] rfl ?_
      refine b_lmul (d126 (j := 38) rfl) rfl rfl ?_
      refine b_lstore [uR 10 0, uI x1, uI x2, uJ x3, uX 0, uI x5, uJ (dsw64 (((v165 M2 (g2 M2)) * (v165 M3 (((M2 24 5) - 1) - (g3 M2 M3)))))), uX 0] (d126 (j := 39) rfl) (by decide) rfl ?_
      refine b_lload_n (d126 (j := 40) rfl) rfl ?_
      refine b_lload (d126 (j := 41) rfl) rfl ?_
      refine b_aload_n (d126 (j := 42) rfl) rfl ?_
      refine b_getR (d126 (j := 43) rfl) rfl rfl rfl rfl ?_
      refine b_stk [uR 37 83, uJ (dsw64 (((v165 M2 (g2 M2)) * (v165 M3 (((M2 24 5) - 1) - (g3 M2 M3)))))), uJ x3] rfl ?_
      refine b_iload (d126 (j := 44) rfl) rfl ?_
      refine b_iconst (d126 (j := 45) rfl) (by decide) ?_
      refine b_iload_n (d126 (j := 46) rfl) rfl ?_
      refine b_ishl (d126 (j := 47) rfl) ?_
      refine b_ior (d126 (j := 48) rfl) ?_
      refine b_iaload (d126 (j := 49) rfl) rfl (s8 c1 c2 M2 hR2 M3 hR3) ?_
      refine b_aload_n (d126 (j := 50) rfl) rfl ?_
      refine b_getR (d126 (j := 51) rfl) rfl rfl rfl rfl ?_
      refine b_stk [uR 37 83, uI (M3 83 (dsOr x5 (dsShl 1 x1))), uJ (dsw64 (((v165 M2 (g2 M2)) * (v165 M3 (((M2 24 5) - 1) - (g3 M2 M3)))))), uJ x3] rfl ?_
      refine b_iload (d126 (j := 52) rfl) rfl ?_
      refine b_iaload (d126 (j := 53) rfl) rfl (s9 c1 c2 M2 hR2 M3 hR3) ?_
      refine b_isub (d126 (j := 54) rfl) rfl rfl ?_
      refine b_stk [uI ((M3 83 (dsOr x5 (dsShl 1 x1))) - (M3 83 x5)), uJ (dsw64 (((v165 M2 (g2 M2)) * (v165 M3 (((M2 24 5) - 1) - (g3 M2 M3)))))), uJ x3] (by rw [dsw_r (s10 c1 c2 M2 hR2 M3 hR3)]) ?_
      refine b_i2l (d126 (j := 55) rfl) ?_
      refine b_lmul (d126 (j := 56) rfl) rfl rfl ?_
      refine b_ladd (d126 (j := 57) rfl) rfl (dsw64_dsw _) ?_
      refine b_lstore_n [uR 10 0, uI x1, uI x2, uJ (dsw64 ((x3 + ((dsw64 (((v165 M2 (g2 M2)) * (v165 M3 (((M2 24 5) - 1) - (g3 M2 M3)))))) * ((M3 83 (dsOr x5 (dsShl 1 x1))) - (M3 83 x5)))))), uX 0, uI x5, uJ (dsw64 (((v165 M2 (g2 M2)) * (v165 M3 (((M2 24 5) - 1) - (g3 M2 M3)))))), uX 0] (d126 (j := 58) rfl) (by decide) rfl ?_
      refine b_iinc [uR 10 0, uI x1, uI x2, uJ (dsw64 ((x3 + ((dsw64 (((v165 M2 (g2 M2)) * (v165 M3 (((M2 24 5) - 1) - (g3 M2 M3)))))) * ((M3 83 (dsOr x5 (dsShl 1 x1))) - (M3 83 x5)))))), uX 0, uI (x5 + 1), uJ (dsw64 (((v165 M2 (g2 M2)) * (v165 M3 (((M2 24 5) - 1) - (g3 M2 M3)))))), uX 0] (d126 (j := 59) rfl) rfl (by decide) (s11 c1 c2 M2 hR2 M3 hR3) rfl ?_
      refine b_goto (d126 (j := 60) rfl) ?_
      exact bB_le _ (bLe_s (bLe_s (bLe_s (bLe_s (bLe_s (bLe_s (bLe_x (bLe_s bLe_nil)))))))) (k3 c1 c2 M2 hR2 M3 hR3)
set_option maxRecDepth 100000 in
set_option maxHeartbeats 4000000 in
theorem r161n_0 {x2 : Int} {R1 : dsMem → Prop} {M : dsMem} {Q : bQT} (s1 : 0 ≤ x2 ∧ x2 < 13 := by intros; omega) (s2 : -2147483648 ≤ ((dsShl 1 (M 24 4)) - 1) ∧ ((dsShl 1 (M 24 4)) - 1) < 2147483648 := by intros; omega) (hA1 : ((M 54 x2) = ((dsShl 1 (M 24 4)) - 1)) → bCt 158 [uR 10 0] M (fun _ => [uR 0 63]) R1) (k1 : ((M 54 x2) = ((dsShl 1 (M 24 4)) - 1)) → ∀ M1 : dsMem, R1 M1 → bB 161 32 [uR 10 0, uR 5 47, uI x2, uI (-1), uI 7, uI 0] [] M1 Q) (k2 : (¬ (M 54 x2) = ((dsShl 1 (M 24 4)) - 1)) → Q [uI (-1)] M) :
    bB 161 0 [uR 10 0, uR 5 47, uI x2, uX 0, uX 0, uX 0] [] M Q := by
  refine b_aload_n (d161 (j := 0) rfl) rfl ?_
  refine b_getR (d161 (j := 1) rfl) rfl rfl rfl rfl ?_
  refine b_stk [uR 27 54] rfl ?_
  refine b_iload_n (d161 (j := 2) rfl) rfl ?_
  refine b_iaload (d161 (j := 3) rfl) rfl s1 ?_
  refine b_aload_n (d161 (j := 4) rfl) rfl ?_
  refine b_getR (d161 (j := 5) rfl) rfl rfl rfl rfl ?_
  refine b_stk [uR 4 24, uI (M 54 x2)] rfl ?_
  refine b_callV (d161 (j := 6) rfl) rfl rfl (Or.inl rfl) rfl (bCk_mk (n := 1) (k := 1) (by decide +kernel) rfl rfl) (pu63 s2 ?_)
  refine b_stk [uI ((dsShl 1 (M 24 4)) - 1), uI (M 54 x2)] rfl ?_
  refine b_icmp_eq (d161 (j := 7) rfl) (fun c1 => ?_) (fun c1 => ?_)
  ·
    refine b_aload_n (d161 (j := 10) rfl) rfl ?_
    refine b_callV (d161 (j := 11) rfl) rfl rfl (Or.inl rfl) rfl (bCk_mk (n := 0) (k := 1) (by decide +kernel) rfl rfl) ((hA1 c1) _ (fun M1 hR1 => ?_))
    refine b_stk [uR 0 63] rfl ?_
    refine b_pop (d161 (j := 12) rfl) rfl ?_
    refine b_iconst (d161 (j := 13) rfl) (by decide) ?_
    refine b_istore_n [uR 10 0, uR 5 47, uI x2, uI (-1), uX 0, uX 0] (d161 (j := 14) rfl) (by decide) rfl ?_
    refine b_bipush (d161 (j := 15) rfl) (by decide) ?_
    refine b_istore [uR 10 0, uR 5 47, uI x2, uI (-1), uI 7, uX 0] (d161 (j := 16) rfl) (by decide) rfl ?_
    refine b_iconst (d161 (j := 17) rfl) (by decide) ?_
    refine b_istore [uR 10 0, uR 5 47, uI x2, uI (-1), uI 7, uI 0] (d161 (j := 18) rfl) (by decide) rfl ?_
    exact (k1 c1 M1 hR1)
  ·
    refine b_iconst (d161 (j := 8) rfl) (by decide) ?_
    exact b_iret (d161 (j := 9) rfl) rfl (k2 c1)
set_option maxRecDepth 100000 in
set_option maxHeartbeats 4000000 in
theorem r161n_32 {x2 x3 x4 x5 : Int} {R1 : dsMem → Prop} {g1 : dsMem → Int} {R2 : dsMem → dsMem → Prop} {R3 : dsMem → dsMem → dsMem → Prop} {g3 : dsMem → dsMem → dsMem → Int} {R4 : dsMem → dsMem → dsMem → dsMem → Prop} {g4 : dsMem → dsMem → dsMem → dsMem → Int} {M : dsMem} {Q : bQT} (s1 : -2147483648 ≤ ((dsShl 1 (M 24 5)) - 1) ∧ ((dsShl 1 (M 24 5)) - 1) < 2147483648 := by intros; omega) (k1 : (((dsShl 1 (M 24 5)) - 1) < x5) → Q [uI x3] M) (hA1 : (¬ ((dsShl 1 (M 24 5)) - 1) < x5) → bCt 333 [uI x5] M (fun M1 => [uI (g1 M1)]) R1) (s2 : (¬ ((dsShl 1 (M 24 5)) - 1) < x5) → ∀ M1 : dsMem, R1 M1 → (x4 ≤ (g1 M1)) → -2147483648 ≤ x5 + 1 ∧ x5 + 1 < 2147483648 := by intros; omega) (k2 : (¬ ((dsShl 1 (M 24 5)) - 1) < x5) → ∀ M1 : dsMem, R1 M1 → (x4 ≤ (g1 M1)) → bB 161 32 [uR 10 0, uR 5 47, uI x2, uI x3, uI x4, uI (x5 + 1)] [] M1 Q) (hA2 : (¬ ((dsShl 1 (M 24 5)) - 1) < x5) → ∀ M1 : dsMem, R1 M1 → (¬ x4 ≤ (g1 M1)) → bCt 10 [uR 5 62, uI x2, uR 5 47, uI x5, uX 0] M1 (fun _ => []) (R2 M1)) (hA3 : (¬ ((dsShl 1 (M 24 5)) - 1) < x5) → ∀ M1 : dsMem, R1 M1 → (¬ x4 ≤ (g1 M1)) → ∀ M2 : dsMem, R2 M1 M2 → bCt 7 [uR 5 62, uI x2, uI 1, uX 0, uX 0] M2 (fun M3 => [uI (g3 M1 M2 M3)]) (R3 M1 M2)) (s3 : (¬ ((dsShl 1 (M 24 5)) - 1) < x5) → ∀ M1 : dsMem, R1 M1 → (¬ x4 ≤ (g1 M1)) → ∀ M2 : dsMem, R2 M1 M2 → ∀ M3 : dsMem, R3 M1 M2 M3 → ((g3 M1 M2 M3) = 0) → -2147483648 ≤ x5 + 1 ∧ x5 + 1 < 2147483648 := by intros; omega) (k3 : (¬ ((dsShl 1 (M 24 5)) - 1) < x5) → ∀ M1 : dsMem, R1 M1 → (¬ x4 ≤ (g1 M1)) → ∀ M2 : dsMem, R2 M1 M2 → ∀ M3 : dsMem, R3 M1 M2 M3 → ((g3 M1 M2 M3) = 0) → bB 161 32 [uR 10 0, uR 5 47, uI x2, uI x3, uI x4, uI (x5 + 1)] [] M3 Q) (hA4 : (¬ ((dsShl 1 (M 24 5)) - 1) < x5) → ∀ M1 : dsMem, R1 M1 → (¬ x4 ≤ (g1 M1)) → ∀ M2 : dsMem, R2 M1 M2 → ∀ M3 : dsMem, R3 M1 M2 M3 → (¬ (g3 M1 M2 M3) = 0) → bCt 333 [uI x5] M3 (fun M4 => [uI (g4 M1 M2 M3 M4)]) (R4 M1 M2 M3)) (s4 : (¬ ((dsShl 1 (M 24 5)) - 1) < x5) → ∀ M1 : dsMem, R1 M1 → (¬ x4 ≤ (g1 M1)) → ∀ M2 : dsMem, R2 M1 M2 → ∀ M3 : dsMem, R3 M1 M2 M3 → (¬ (g3 M1 M2 M3) = 0) → ∀ M4 : dsMem, R4 M1 M2 M3 M4 → -2147483648 ≤ x5 + 1 ∧ x5 + 1 < 2147483648 := by intros; omega) (k4 : (¬ ((dsShl 1 (M 24 5)) - 1) < x5) → ∀ M1 : dsMem, R1 M1 → (¬ x4 ≤ (g1 M1)) → ∀ M2 : dsMem, R2 M1 M2 → ∀ M3 : dsMem, R3 M1 M2 M3 → (¬ (g3 M1 M2 M3) = 0) → ∀ M4 : dsMem, R4 M1 M2 M3 M4 → bB 161 32 [uR 10 0, uR 5 47, uI x2, uI x5, uI (g4 M1 M2 M3 M4), uI (x5 + 1)] [] M4 Q) :
    bB 161 32 [uR 10 0, uR 5 47, uI x2, uI x3, uI x4, uI x5] [] M Q := by
  refine b_iload (d161 (j := 19) rfl) rfl ?_
  refine b_aload_n (d161 (j := 20) rfl) rfl ?_
  refine b_getR (d161 (j := 21) rfl) rfl rfl rfl rfl ?_
  refine b_stk [uR 4 24, uI x5] rfl ?_
  refine b_callV (d161 (j := 22) rfl) rfl rfl (Or.inl rfl) rfl (bCk_mk (n := 1) (k := 1) (by decide +kernel) rfl rfl) (pu64 s1 ?_)
  refine b_stk [uI ((dsShl 1 (M 24 5)) - 1), uI x5] rfl ?_
  refine b_icmp_gt (d161 (j := 23) rfl) (fun c1 => ?_) (fun c1 => ?_)
  ·
    refine b_iload_n (d161 (j := 47) rfl) rfl ?_
    exact b_iret (d161 (j := 48) rfl) rfl (k1 c1)
  ·
    refine b_iload (d161 (j := 24) rfl) rfl ?_
    refine b_callS (d161 (j := 25) rfl) (Or.inl rfl) rfl (bCk_mk (n := 0) (k := 1) (by decide +kernel) rfl rfl) ((hA1 c1) _ (fun M1 hR1 => ?_))
    refine b_stk [uI (g1 M1)] rfl ?_
    refine b_iload (d161 (j := 26) rfl) rfl ?_
    refine b_icmp_ge (d161 (j := 27) rfl) (fun c2 => ?_) (fun c2 => ?_)
    ·
      refine b_iinc [uR 10 0, uR 5 47, uI x2, uI x3, uI x4, uI (x5 + 1)] (d161 (j := 45) rfl) rfl (by decide) (s2 c1 M1 hR1 c2) rfl ?_
      refine b_goto (d161 (j := 46) rfl) ?_
      exact (k2 c1 M1 hR1 c2)
    ·
      refine b_aload_n (d161 (j := 28) rfl) rfl ?_
      refine b_getR (d161 (j := 29) rfl) rfl rfl rfl rfl ?_
      refine b_stk [uR 5 62] rfl ?_
      refine b_iload_n (d161 (j := 30) rfl) rfl ?_
      refine b_aload_n (d161 (j := 31) rfl) rfl ?_
      refine b_iload (d161 (j := 32) rfl) rfl ?_
      refine b_callV (d161 (j := 33) rfl) rfl rfl (Or.inl rfl) rfl (bCk_mk (n := 0) (k := 4) (by decide +kernel) rfl rfl) ((hA2 c1 M1 hR1 c2) _ (fun M2 hR2 => ?_))
      refine b_stk [] rfl ?_
      refine b_aload_n (d161 (j := 34) rfl) rfl ?_
      refine b_getR (d161 (j := 35) rfl) rfl rfl rfl rfl ?_
      refine b_stk [uR 5 62] rfl ?_
      refine b_iload_n (d161 (j := 36) rfl) rfl ?_
      refine b_iconst (d161 (j := 37) rfl) (by decide) ?_
      refine b_callV (d161 (j := 38) rfl) rfl rfl (Or.inl rfl) rfl (bCk_mk (n := 0) (k := 3) (by decide +kernel) rfl rfl) ((hA3 c1 M1 hR1 c2 M2 hR2) _ (fun M3 hR3 => ?_))
      refine b_stk [uI (g3 M1 M2 M3)] rfl ?_
      refine b_if_eq (d161 (j := 39) rfl) (fun c3 => ?_) (fun c3 => ?_)
      ·
        refine b_iinc [uR 10 0, uR 5 47, uI x2, uI x3, uI x4, uI (x5 + 1)] (d161 (j := 45) rfl) rfl (by decide) (s3 c1 M1 hR1 c2 M2 hR2 M3 hR3 c3) rfl ?_
        refine b_goto (d161 (j := 46) rfl) ?_
        exact (k3 c1 M1 hR1 c2 M2 hR2 M3 hR3 c3)
      ·
        refine b_iload (d161 (j := 40) rfl) rfl ?_
        refine b_istore_n [uR 10 0, uR 5 47, uI x2, uI x5, uI x4, uI x5] (d161 (j := 41) rfl) (by decide) rfl ?_
        refine b_iload (d161 (j := 42) rfl) rfl ?_
        refine b_callS (d161 (j := 43) rfl) (Or.inl rfl) rfl (bCk_mk (n := 0) (k := 1) (by decide +kernel) rfl rfl) ((hA4 c1 M1 hR1 c2 M2 hR2 M3 hR3 c3) _ (fun M4 hR4 => ?_))
        refine b_stk [uI (g4 M1 M2 M3 M4)] rfl ?_
        refine b_istore [uR 10 0, uR 5 47, uI x2, uI x5, uI (g4 M1 M2 M3 M4), uI x5] (d161 (j := 44) rfl) (by decide) rfl ?_
        refine b_iinc [uR 10 0, uR 5 47, uI x2, uI x5, uI (g4 M1 M2 M3 M4), uI (x5 + 1)] (d161 (j := 45) rfl) rfl (by decide) (s4 c1 M1 hR1 c2 M2 hR2 M3 hR3 c3 M4 hR4) rfl ?_
        refine b_goto (d161 (j := 46) rfl) ?_
        exact (k4 c1 M1 hR1 c2 M2 hR2 M3 hR3 c3 M4 hR4)
set_option maxRecDepth 100000 in
set_option maxHeartbeats 4000000 in
theorem r172n_0  {R1 : dsMem → Prop} {M : dsMem} {Q : bQT} (hA1 : ((M 81 0) = 0) → bCt 37 [uR 8 81, uX 0] M (fun _ => []) R1) (s1 : ((M 81 0) = 0) → ∀ M1 : dsMem, R1 M1 → ∀ i65_1 : Int, ∀ a65_1 : Int, 0 ≤ i65_1 → i65_1 < (M1 30 0) → 0 ≤ i65_1 ∧ i65_1 < 8 := by intros; omega) (s2 : ((M 81 0) = 0) → ∀ M1 : dsMem, R1 M1 → ∀ i65_1 : Int, ∀ a65_1 : Int, 0 ≤ i65_1 → i65_1 < (M1 30 0) → -2147483648 ≤ i65_1 + 1 ∧ i65_1 + 1 < 2147483648 := by intros; omega) (k1 : ((M 81 0) = 0) → ∀ M1 : dsMem, R1 M1 → bB 172 28 [uR 10 0, uI (v65 M1 24), uI 0, uX 0, uX 0] [] M1 Q) (k2 : (¬ (M 81 0) = 0) → Q [] M) :
    bB 172 0 [uR 10 0, uX 0, uX 0, uX 0, uX 0] [] M Q := by
  refine b_aload_n (d172 (j := 0) rfl) rfl ?_
  refine b_getR (d172 (j := 1) rfl) rfl rfl rfl rfl ?_
  refine b_stk [uR 8 81] rfl ?_
  refine b_getI (d172 (j := 2) rfl) rfl rfl rfl rfl (Or.inr rfl) ?_
  refine b_stk [uI (M 81 0)] rfl ?_
  refine b_if_eq (d172 (j := 3) rfl) (fun c1 => ?_) (fun c1 => ?_)
  ·
    refine b_aload_n (d172 (j := 5) rfl) rfl ?_
    refine b_getR (d172 (j := 6) rfl) rfl rfl rfl rfl ?_
    refine b_stk [uR 8 81] rfl ?_
    refine b_callV (d172 (j := 7) rfl) rfl rfl (Or.inl rfl) rfl (bCk_mk (n := 0) (k := 1) (by decide +kernel) rfl rfl) ((hA1 c1) _ (fun M1 hR1 => ?_))
    refine b_stk [] rfl ?_
    refine b_aload_n (d172 (j := 8) rfl) rfl ?_
    refine b_getR (d172 (j := 9) rfl) rfl rfl rfl rfl ?_
    refine b_stk [uR 4 24] rfl ?_
    refine b_callV (d172 (j := 10) rfl) rfl rfl (Or.inl rfl) rfl (bCk_mk (n := 0) (k := 1) (by decide +kernel) rfl rfl) (fx65 (s1 c1 M1 hR1) (s2 c1 M1 hR1) ?_)
    refine b_stk [uI (v65 M1 24)] rfl ?_
    refine b_istore_n [uR 10 0, uI (v65 M1 24), uX 0, uX 0, uX 0] (d172 (j := 11) rfl) (by decide) rfl ?_
    refine b_iconst (d172 (j := 12) rfl) (by decide) ?_
    refine b_istore_n [uR 10 0, uI (v65 M1 24), uI 0, uX 0, uX 0] (d172 (j := 13) rfl) (by decide) rfl ?_
    exact (k1 c1 M1 hR1)
  ·
    exact b_vret (d172 (j := 4) rfl) rfl (k2 c1)
set_option maxRecDepth 100000 in
set_option maxHeartbeats 4000000 in
theorem r172n_28 {x1 x2 : Int} {R1 : dsMem → Prop} {g1 : dsMem → Int} {M : dsMem} {Q : bQT} (hA1 : bCt 333 [uI x1] M (fun M1 => [uI (g1 M1)]) R1) (k1 : ∀ M1 : dsMem, R1 M1 → ((g1 M1) ≤ x2) → bB 172 59 [uR 10 0, uI x1, uI 0, uX 0, uX 0] [] M1 Q) (s1 : ∀ M1 : dsMem, R1 M1 → (¬ (g1 M1) ≤ x2) → -9223372036854775808 ≤ ((M1 81 1) * 10) ∧ ((M1 81 1) * 10) < 9223372036854775808 := by intros; omega) (s2 : ∀ M1 : dsMem, R1 M1 → (¬ (g1 M1) ≤ x2) → -2147483648 ≤ x2 + 1 ∧ x2 + 1 < 2147483648 := by intros; omega) (k2 : ∀ M1 : dsMem, R1 M1 → (¬ (g1 M1) ≤ x2) → bB 172 28 [uR 10 0, uI x1, uI (x2 + 1), uX 0, uX 0] [] (dsSet M1 81 1 ((M1 81 1) * 10)) Q) :
    bB 172 28 [uR 10 0, uI x1, uI x2, uX 0, uX 0] [] M Q := by
  refine b_iload_n (d172 (j := 14) rfl) rfl ?_
  refine b_iload_n (d172 (j := 15) rfl) rfl ?_
  refine b_callS (d172 (j := 16) rfl) (Or.inl rfl) rfl (bCk_mk (n := 1) (k := 1) (by decide +kernel) rfl rfl) ((hA1) _ (fun M1 hR1 => ?_))
  refine b_stk [uI (g1 M1), uI x2] rfl ?_
  refine b_icmp_ge (d172 (j := 17) rfl) (fun c1 => ?_) (fun c1 => ?_)
  ·
    refine b_iconst (d172 (j := 27) rfl) (by decide) ?_
    refine b_istore_n [uR 10 0, uI x1, uI 0, uX 0, uX 0] (d172 (j := 28) rfl) (by decide) rfl ?_
    exact (k1 M1 hR1 c1)
  ·
    refine b_aload_n (d172 (j := 18) rfl) rfl ?_
    refine b_getR (d172 (j := 19) rfl) rfl rfl rfl rfl ?_
    refine b_stk [uR 8 81] rfl ?_
    refine b_dup (d172 (j := 20) rfl) rfl ?_
    refine b_getJ (d172 (j := 21) rfl) rfl rfl rfl rfl rfl ?_
    refine b_stk [uJ (M1 81 1), uR 8 81] rfl ?_
    refine b_ldc2 (d172 (j := 22) rfl) rfl ?_
    refine b_lmul (d172 (j := 23) rfl) rfl rfl ?_
    refine b_stk [uJ ((M1 81 1) * 10), uR 8 81] (by rw [dsw64_r (s1 M1 hR1 c1)]) ?_
    refine b_putJ (d172 (j := 24) rfl) rfl ⟨rfl, rfl⟩ rfl rfl ?_
    refine b_iinc [uR 10 0, uI x1, uI (x2 + 1), uX 0, uX 0] (d172 (j := 25) rfl) rfl (by decide) (s2 M1 hR1 c1) rfl ?_
    refine b_goto (d172 (j := 26) rfl) ?_
    exact (k2 M1 hR1 c1)
set_option maxRecDepth 100000 in
set_option maxHeartbeats 4000000 in
theorem r172n_59 {x1 x2 : Int} {R1 : dsMem → Prop} {R2 : dsMem → dsMem → Prop} {g2 : dsMem → dsMem → Int} {R3 : dsMem → dsMem → dsMem → Prop} {M : dsMem} {Q : bQT} (k1 : ((dsShl 1 (M 30 0)) ≤ x2) → Q [] (dsSet M 81 0 1)) (s1 : (¬ (dsShl 1 (M 30 0)) ≤ x2) → (¬ (dsAnd x2 (dsXor x1 (-1))) = 0) → -2147483648 ≤ x2 + 1 ∧ x2 + 1 < 2147483648 := by intros; omega) (k2 : (¬ (dsShl 1 (M 30 0)) ≤ x2) → (¬ (dsAnd x2 (dsXor x1 (-1))) = 0) → bB 172 59 [uR 10 0, uI x1, uI (x2 + 1), uX 0, uX 0] [] M Q) (s2 : (¬ (dsShl 1 (M 30 0)) ≤ x2) → ((dsAnd x2 (dsXor x1 (-1))) = 0) → ∀ i173_1 : Int, ∀ a173_1 : Int, 0 ≤ i173_1 → i173_1 < 8 → -2147483648 ≤ i173_1 + 1 ∧ i173_1 + 1 < 2147483648 := by intros; omega) (s3 : (¬ (dsShl 1 (M 30 0)) ≤ x2) → ((dsAnd x2 (dsXor x1 (-1))) = 0) → ∀ i173_1 : Int, ∀ a173_1 : Int, 0 ≤ i173_1 → i173_1 < 8 → ((dsAnd (dsShr x1 i173_1) 1 = 1)) → (¬ (dsAnd (dsShr x2 i173_1) 1 = 1)) → -2147483648 ≤ (10 - (M 24 3)) ∧ (10 - (M 24 3)) < 2147483648 := by intros; omega) (s4 : (¬ (dsShl 1 (M 30 0)) ≤ x2) → ((dsAnd x2 (dsXor x1 (-1))) = 0) → ((v173 M x2 x1) ≤ 0) → -2147483648 ≤ x2 + 1 ∧ x2 + 1 < 2147483648 := by intros; omega) (k3 : (¬ (dsShl 1 (M 30 0)) ≤ x2) → ((dsAnd x2 (dsXor x1 (-1))) = 0) → ((v173 M x2 x1) ≤ 0) → bB 172 59 [uR 10 0, uI x1, uI (x2 + 1), uX 0, uX 0] [] M Q) (hA1 : (¬ (dsShl 1 (M 30 0)) ≤ x2) → ((dsAnd x2 (dsXor x1 (-1))) = 0) → (¬ (v173 M x2 x1) ≤ 0) → bCt 158 [uR 10 0] M (fun _ => [uR 0 63]) R1) (hA2 : (¬ (dsShl 1 (M 30 0)) ≤ x2) → ((dsAnd x2 (dsXor x1 (-1))) = 0) → (¬ (v173 M x2 x1) ≤ 0) → ∀ M1 : dsMem, R1 M1 → bCt 7 [uR 5 62, uI 0, uI 0, uX 0, uX 0] (dsSet M1 63 1 x2) (fun M2 => [uI (g2 M1 M2)]) (R2 M1)) (s5 : (¬ (dsShl 1 (M 30 0)) ≤ x2) → ((dsAnd x2 (dsXor x1 (-1))) = 0) → (¬ (v173 M x2 x1) ≤ 0) → ∀ M1 : dsMem, R1 M1 → ∀ M2 : dsMem, R2 M1 M2 → 0 ≤ (M2 24 1) ∧ (M2 24 1) < 13 := by intros; omega) (s6 : (¬ (dsShl 1 (M 30 0)) ≤ x2) → ((dsAnd x2 (dsXor x1 (-1))) = 0) → (¬ (v173 M x2 x1) ≤ 0) → ∀ M1 : dsMem, R1 M1 → ∀ M2 : dsMem, R2 M1 M2 → ∀ i24_1 : Int, ∀ a24_1 : Int, 0 ≤ i24_1 → i24_1 < (M2 24 5) → -2147483648 ≤ (((M2 24 1) * 6) + i24_1) ∧ (((M2 24 1) * 6) + i24_1) < 2147483648 := by intros; omega) (s7 : (¬ (dsShl 1 (M 30 0)) ≤ x2) → ((dsAnd x2 (dsXor x1 (-1))) = 0) → (¬ (v173 M x2 x1) ≤ 0) → ∀ M1 : dsMem, R1 M1 → ∀ M2 : dsMem, R2 M1 M2 → ∀ i24_1 : Int, ∀ a24_1 : Int, 0 ≤ i24_1 → i24_1 < (M2 24 5) → 0 ≤ (((M2 24 1) * 6) + i24_1) ∧ (((M2 24 1) * 6) + i24_1) < 78 := by intros; omega) (s8 : (¬ (dsShl 1 (M 30 0)) ≤ x2) → ((dsAnd x2 (dsXor x1 (-1))) = 0) → (¬ (v173 M x2 x1) ≤ 0) → ∀ M1 : dsMem, R1 M1 → ∀ M2 : dsMem, R2 M1 M2 → ∀ i24_1 : Int, ∀ a24_1 : Int, 0 ≤ i24_1 → i24_1 < (M2 24 5) → -2147483648 ≤ i24_1 + 1 ∧ i24_1 + 1 < 2147483648 := by intros; omega) (hA3 : (¬ (dsShl 1 (M 30 0)) ≤ x2) → ((dsAnd x2 (dsXor x1 (-1))) = 0) → (¬ (v173 M x2 x1) ≤ 0) → ∀ M1 : dsMem, R1 M1 → ∀ M2 : dsMem, R2 M1 M2 → bCt 38 [uR 8 81, uJ (v173 M x2 x1), uX 0, uI (M2 69 (M2 24 1)), uI (v24 M2 62 (M2 24 1)), uX 0] M2 (fun _ => []) (R3 M1 M2)) (s9 : (¬ (dsShl 1 (M 30 0)) ≤ x2) → ((dsAnd x2 (dsXor x1 (-1))) = 0) → (¬ (v173 M x2 x1) ≤ 0) → ∀ M1 : dsMem, R1 M1 → ∀ M2 : dsMem, R2 M1 M2 → ∀ M3 : dsMem, R3 M1 M2 M3 → -2147483648 ≤ x2 + 1 ∧ x2 + 1 < 2147483648 := by intros; omega) (k4 : (¬ (dsShl 1 (M 30 0)) ≤ x2) → ((dsAnd x2 (dsXor x1 (-1))) = 0) → (¬ (v173 M x2 x1) ≤ 0) → ∀ M1 : dsMem, R1 M1 → ∀ M2 : dsMem, R2 M1 M2 → ∀ M3 : dsMem, R3 M1 M2 M3 → bB 172 59 [uR 10 0, uI x1, uI (x2 + 1), uX 0, uX 0] [] M3 Q) :
    bB 172 59 [uR 10 0, uI x1, uI x2, uX 0, uX 0] [] M Q := by
  refine b_iload_n (d172 (j := 29) rfl) rfl ?_
  refine b_iconst (d172 (j := 30) rfl) (by decide) ?_
  refine b_aload_n (d172 (j := 31) rfl) rfl ?_
  refine b_getR (d172 (j := 32) rfl) rfl rfl rfl rfl ?_
  refine b_stk [uR 4 24, uI 1, uI x2] rfl ?_
  refine b_getR (d172 (j := 33) rfl) rfl rfl rfl rfl ?_
  refine b_stk [uR 1 30, uI 1, uI x2] rfl ?_
  refine b_getI (d172 (j := 34) rfl) rfl rfl rfl rfl (Or.inl rfl) ?_
  refine b_stk [uI (M 30 0), uI 1, uI x2] rfl ?_
  refine b_ishl (d172 (j := 35) rfl) ?_
  refine b_icmp_ge (d172 (j := 36) rfl) (fun c1 => ?_) (fun c1 => ?_)
  ·
    refine b_aload_n (d172 (j := 83) rfl) rfl ?_
    refine b_getR (d172 (j := 84) rfl) rfl rfl rfl rfl ?_
    refine b_stk [uR 8 81] rfl ?_
    refine b_iconst (d172 (j := 85) rfl) (by decide) ?_
    refine b_putZ (d172 (j := 86) rfl) rfl ⟨rfl, rfl⟩ rfl rfl (by decide) ?_
    exact b_vret (d172 (j := 87) rfl) rfl (k1 c1)
  ·
    refine b_iload_n (d172 (j := 37) rfl) rfl ?_
    refine b_iload_n (d172 (j := 38) rfl) rfl ?_
    refine b_iconst (d172 (j := 39) rfl) (by decide) ?_
    refine b_ixor (d172 (j := 40) rfl) ?_
    refine b_iand (d172 (j := 41) rfl) ?_
    refine b_if_ne (d172 (j := 42) rfl) (fun c2 => ?_) (fun c2 => ?_)
    ·
      refine b_lconst (d172 (j := 48) rfl) ?_
      refine b_stk [uJ 0] rfl ?_
      refine b_lstore_n [uR 10 0, uI x1, uI x2, uJ 0, uX 0] (d172 (j := 49) rfl) (by decide) rfl ?_
      refine b_lload_n (d172 (j := 50) rfl) rfl ?_
      refine b_lconst (d172 (j := 51) rfl) ?_
      refine b_stk [uJ 0, uJ 0] rfl ?_
      refine b_lcmp (d172 (j := 52) rfl) ?_
      refine b_lif_le (d172 (j := 53) rfl) (fun _ => ?_) (fun q => absurd q (by decide))
      refine b_iinc [uR 10 0, uI x1, uI (x2 + 1), uJ 0, uX 0] (d172 (j := 81) rfl) rfl (by decide) (s1 c1 c2) rfl ?_
      refine b_goto (d172 (j := 82) rfl) ?_
      exact bB_le _ (bLe_s (bLe_s (bLe_s (bLe_x (bLe_s bLe_nil))))) (k2 c1 c2)
    ·
      refine b_aload_n (d172 (j := 43) rfl) rfl ?_
      refine b_iload_n (d172 (j := 44) rfl) rfl ?_
      refine b_iload_n (d172 (j := 45) rfl) rfl ?_
      refine b_callV (d172 (j := 46) rfl) rfl rfl (Or.inl rfl) rfl (bCk_mk (n := 0) (k := 3) (by decide +kernel) rfl rfl) (fx173 (s2 c1 c2) (s3 c1 c2) ?_)
      refine b_stk [uJ (v173 M x2 x1)] rfl ?_
      refine b_goto (d172 (j := 47) rfl) ?_
      refine b_lstore_n [uR 10 0, uI x1, uI x2, uJ (v173 M x2 x1), uX 0] (d172 (j := 49) rfl) (by decide) rfl ?_
      refine b_lload_n (d172 (j := 50) rfl) rfl ?_
      refine b_lconst (d172 (j := 51) rfl) ?_
      refine b_stk [uJ 0, uJ (v173 M x2 x1)] rfl ?_
      refine b_lcmp (d172 (j := 52) rfl) ?_
      refine b_lif_le (d172 (j := 53) rfl) (fun c4 => ?_) (fun c4 => ?_)
      ·
        refine b_iinc [uR 10 0, uI x1, uI (x2 + 1), uJ (v173 M x2 x1), uX 0] (d172 (j := 81) rfl) rfl (by decide) (s4 c1 c2 c4) rfl ?_
        refine b_goto (d172 (j := 82) rfl) ?_
        exact bB_le _ (bLe_s (bLe_s (bLe_s (bLe_x (bLe_s bLe_nil))))) (k3 c1 c2 c4)
      ·
        refine b_aload_n (d172 (j := 54) rfl) rfl ?_
        refine b_callV (d172 (j := 55) rfl) rfl rfl (Or.inl rfl) rfl (bCk_mk (n := 0) (k := 1) (by decide +kernel) rfl rfl) ((hA1 c1 c2 c4) _ (fun M1 hR1 => ?_))
        refine b_stk [uR 0 63] rfl ?_
        refine b_iload_n (d172 (j := 56) rfl) rfl ?_
        refine b_putI (d172 (j := 57) rfl) rfl ⟨rfl, rfl⟩ rfl rfl ?_
        refine b_aload_n (d172 (j := 58) rfl) rfl ?_
        refine b_getR (d172 (j := 59) rfl) rfl rfl rfl rfl ?_
        refine b_stk [uR 5 62] rfl ?_
        refine b_iconst (d172 (j := 60) rfl) (by decide) ?_
        refine b_iconst (d172 (j := 61) rfl) (by decide) ?_
        refine b_callV (d172 (j := 62) rfl) rfl rfl (Or.inl rfl) rfl (bCk_mk (n := 0) (k := 3) (by decide +kernel) rfl rfl) ((hA2 c1 c2 c4 M1 hR1) _ (fun M2 hR2 => ?_))
        refine b_stk [uI (g2 M1 M2)] rfl ?_
        refine b_pop (d172 (j := 63) rfl) rfl ?_
        refine b_aload_n (d172 (j := 64) rfl) rfl ?_
        refine b_getR (d172 (j := 65) rfl) rfl rfl rfl rfl ?_
        refine b_stk [uR 8 81] rfl ?_
        refine b_lload_n (d172 (j := 66) rfl) rfl ?_
        refine b_aload_n (d172 (j := 67) rfl) rfl ?_
        refine b_getR (d172 (j := 68) rfl) rfl rfl rfl rfl ?_
        refine b_stk [uR 5 62, uJ (v173 M x2 x1), uR 8 81] rfl ?_
        refine b_getR (d172 (j := 69) rfl) rfl rfl rfl rfl ?_
        refine b_stk [uR 27 69, uJ (v173 M x2 x1), uR 8 81] rfl ?_
        refine b_aload_n (d172 (j := 70) rfl) rfl ?_
        refine b_getR (d172 (j := 71) rfl) rfl rfl rfl rfl ?_
        refine b_stk [uR 4 24, uR 27 69, uJ (v173 M x2 x1), uR 8 81] rfl ?_
        refine b_getI (d172 (j := 72) rfl) rfl rfl rfl rfl (Or.inl rfl) ?_
        refine b_stk [uI (M2 24 1), uR 27 69, uJ (v173 M x2 x1), uR 8 81] rfl ?_
        refine b_iaload (d172 (j := 73) rfl) rfl (s5 c1 c2 c4 M1 hR1 M2 hR2) ?_
        refine b_aload_n (d172 (j := 74) rfl) rfl ?_
        refine b_getR (d172 (j := 75) rfl) rfl rfl rfl rfl ?_
        refine b_stk [uR 5 62, uI (M2 69 (M2 24 1)), uJ (v173 M x2 x1), uR 8 81] rfl ?_
        refine b_aload_n (d172 (j := 76) rfl) rfl ?_
        refine b_getR (d172 (j := 77) rfl) rfl rfl rfl rfl ?_
        refine b_stk [uR 4 24, uR 5 62, uI (M2 69 (M2 24 1)), uJ (v173 M x2 x1), uR 8 81] rfl ?_
        refine b_getI (d172 (j := 78) rfl) rfl rfl rfl rfl (Or.inl rfl) ?_
        refine b_stk [uI (M2 24 1), uR 5 62, uI (M2 69 (M2 24 1)), uJ (v173 M x2 x1), uR 8 81] rfl ?_
        refine b_callV (d172 (j := 79) rfl) rfl rfl (Or.inl rfl) rfl (bCk_mk (n := 4) (k := 2) (by decide +kernel) rfl rfl) (fx24 (s6 c1 c2 c4 M1 hR1 M2 hR2) (s7 c1 c2 c4 M1 hR1 M2 hR2) (s8 c1 c2 c4 M1 hR1 M2 hR2) ?_)
        refine b_stk [uI (v24 M2 62 (M2 24 1)), uI (M2 69 (M2 24 1)), uJ (v173 M x2 x1), uR 8 81] rfl ?_
        refine b_callV (d172 (j := 80) rfl) rfl rfl (Or.inl rfl) rfl (bCk_mk (n := 0) (k := 5) (by decide +kernel) rfl rfl) ((hA3 c1 c2 c4 M1 hR1 M2 hR2) _ (fun M3 hR3 => ?_))
        refine b_stk [] rfl ?_
        refine b_iinc [uR 10 0, uI x1, uI (x2 + 1), uJ (v173 M x2 x1), uX 0] (d172 (j := 81) rfl) rfl (by decide) (s9 c1 c2 c4 M1 hR1 M2 hR2 M3 hR3) rfl ?_
        refine b_goto (d172 (j := 82) rfl) ?_
        exact bB_le _ (bLe_s (bLe_s (bLe_s (bLe_x (bLe_s bLe_nil))))) (k4 c1 c2 c4 M1 hR1 M2 hR2 M3 hR3)
set_option maxRecDepth 100000 in
set_option maxHeartbeats 4000000 in
theorem r166n_0 {x0 x2 x4 : Int}  {M : dsMem} {Q : bQT} (k1 : bB 166 12 [uJ x0, uX 0, uJ x2, uX 0, uI x4, uJ (if 0 < x0 then x0 else dsw64 (-x0)), uX 0, uJ x2, uX 0, uI 0, uX 0, uX 0] [] M Q) :
    bB 166 0 [uJ x0, uX 0, uJ x2, uX 0, uI x4, uX 0, uX 0, uX 0, uX 0, uX 0, uX 0, uX 0] [] M Q := by
  refine b_lload_n (d166 (j := 0) rfl) rfl ?_
  refine b_abs (d166 (j := 1) rfl) rfl ⟨by decide, Nat.le_of_ble_eq_true rfl⟩ ?_
  refine b_lstore [uJ x0, uX 0, uJ x2, uX 0, uI x4, uJ (if 0 < x0 then x0 else dsw64 (-x0)), uX 0, uX 0, uX 0, uX 0, uX 0, uX 0] (d166 (j := 2) rfl) (by decide) rfl ?_
  refine b_lload_n (d166 (j := 3) rfl) rfl ?_
  refine b_lstore [uJ x0, uX 0, uJ x2, uX 0, uI x4, uJ (if 0 < x0 then x0 else dsw64 (-x0)), uX 0, uJ x2, uX 0, uX 0, uX 0, uX 0] (d166 (j := 4) rfl) (by decide) rfl ?_
  refine b_iconst (d166 (j := 5) rfl) (by decide) ?_
  refine b_istore [uJ x0, uX 0, uJ x2, uX 0, uI x4, uJ (if 0 < x0 then x0 else dsw64 (-x0)), uX 0, uJ x2, uX 0, uI 0, uX 0, uX 0] (d166 (j := 6) rfl) (by decide) rfl ?_
  exact k1
set_option maxRecDepth 100000 in
set_option maxHeartbeats 4000000 in
theorem r166n_12 {x0 x2 x4 x5 x7 x9 : Int}  {M : dsMem} {Q : bQT} (s1 : (100 ≤ x9) → (¬ x5 = 0) → (¬ x4 = 0) → ¬ x5 = 0 := by intros; omega) (s2 : (100 ≤ x9) → (¬ x5 = 0) → (¬ x4 = 0) → -9223372036854775808 ≤ (x2.tdiv x5) ∧ (x2.tdiv x5) < 9223372036854775808 := by intros; omega) (k1 : (100 ≤ x9) → (¬ x5 = 0) → (¬ x4 = 0) → Q [uJ (x2.tdiv x5)] M) (s3 : (100 ≤ x9) → (¬ x5 = 0) → (x4 = 0) → ¬ x5 = 0 := by intros; omega) (s4 : (100 ≤ x9) → (¬ x5 = 0) → (x4 = 0) → -9223372036854775808 ≤ (x0.tdiv x5) ∧ (x0.tdiv x5) < 9223372036854775808 := by intros; omega) (k2 : (100 ≤ x9) → (¬ x5 = 0) → (x4 = 0) → Q [uJ (x0.tdiv x5)] M) (k3 : (100 ≤ x9) → (x5 = 0) → Q [uJ x4] M) (s5 : (¬ 100 ≤ x9) → (x7 = 0) → (¬ x5 = 0) → (¬ x4 = 0) → ¬ x5 = 0 := by intros; omega) (s6 : (¬ 100 ≤ x9) → (x7 = 0) → (¬ x5 = 0) → (¬ x4 = 0) → -9223372036854775808 ≤ (x2.tdiv x5) ∧ (x2.tdiv x5) < 9223372036854775808 := by intros; omega) (k4 : (¬ 100 ≤ x9) → (x7 = 0) → (¬ x5 = 0) → (¬ x4 = 0) → Q [uJ (x2.tdiv x5)] M) (s7 : (¬ 100 ≤ x9) → (x7 = 0) → (¬ x5 = 0) → (x4 = 0) → ¬ x5 = 0 := by intros; omega) (s8 : (¬ 100 ≤ x9) → (x7 = 0) → (¬ x5 = 0) → (x4 = 0) → -9223372036854775808 ≤ (x0.tdiv x5) ∧ (x0.tdiv x5) < 9223372036854775808 := by intros; omega) (k5 : (¬ 100 ≤ x9) → (x7 = 0) → (¬ x5 = 0) → (x4 = 0) → Q [uJ (x0.tdiv x5)] M) (k6 : (¬ 100 ≤ x9) → (x7 = 0) → (x5 = 0) → Q [uJ x4] M) (s9 : (¬ 100 ≤ x9) → (¬ x7 = 0) → 0 ≤ x5 ∧ (0 : Int) < x7 := by intros; omega) (s10 : (¬ 100 ≤ x9) → (¬ x7 = 0) → -2147483648 ≤ x9 + 1 ∧ x9 + 1 < 2147483648 := by intros; omega) (k7 : (¬ 100 ≤ x9) → (¬ x7 = 0) → bB 166 12 [uJ x0, uX 0, uJ x2, uX 0, uI x4, uJ x7, uX 0, uJ (x5 % x7), uX 0, uI (x9 + 1), uX 0, uX 0] [] M Q) :
    bB 166 12 [uJ x0, uX 0, uJ x2, uX 0, uI x4, uJ x5, uX 0, uJ x7, uX 0, uI x9, uX 0, uX 0] [] M Q := by
  refine b_iload (d166 (j := 7) rfl) rfl ?_
  refine b_bipush (d166 (j := 8) rfl) (by decide) ?_
  refine b_icmp_ge (d166 (j := 9) rfl) (fun c1 => ?_) (fun c1 => ?_)
  ·
    refine b_lload (d166 (j := 24) rfl) rfl ?_
    refine b_lconst (d166 (j := 25) rfl) ?_
    refine b_stk [uJ 0, uJ x5] rfl ?_
    refine b_lcmp (d166 (j := 26) rfl) ?_
    refine b_lif_ne (d166 (j := 27) rfl) (fun c2 => ?_) (fun c2 => ?_)
    ·
      refine b_iload (d166 (j := 31) rfl) rfl ?_
      refine b_if_ne (d166 (j := 32) rfl) (fun c3 => ?_) (fun c3 => ?_)
      ·
        refine b_lload_n (d166 (j := 35) rfl) rfl ?_
        refine b_lload (d166 (j := 36) rfl) rfl ?_
        refine b_ldiv (d166 (j := 37) rfl) (s1 c1 c2 c3) ?_
        refine b_stk [uJ (x2.tdiv x5)] (by rw [dsw64_r (s2 c1 c2 c3)]) ?_
        exact b_lret (d166 (j := 38) rfl) rfl (k1 c1 c2 c3)
      ·
        refine b_lload_n (d166 (j := 33) rfl) rfl ?_
        refine b_goto (d166 (j := 34) rfl) ?_
        refine b_lload (d166 (j := 36) rfl) rfl ?_
        refine b_ldiv (d166 (j := 37) rfl) (s3 c1 c2 c3) ?_
        refine b_stk [uJ (x0.tdiv x5)] (by rw [dsw64_r (s4 c1 c2 c3)]) ?_
        exact b_lret (d166 (j := 38) rfl) rfl (k2 c1 c2 c3)
    ·
      refine b_iload (d166 (j := 28) rfl) rfl ?_
      refine b_i2l (d166 (j := 29) rfl) ?_
      exact b_lret (d166 (j := 30) rfl) rfl (k3 c1 c2)
  ·
    refine b_lload (d166 (j := 10) rfl) rfl ?_
    refine b_lconst (d166 (j := 11) rfl) ?_
    refine b_stk [uJ 0, uJ x7] rfl ?_
    refine b_lcmp (d166 (j := 12) rfl) ?_
    refine b_lif_eq (d166 (j := 13) rfl) (fun c4 => ?_) (fun c4 => ?_)
    ·
      refine b_lload (d166 (j := 24) rfl) rfl ?_
      refine b_lconst (d166 (j := 25) rfl) ?_
      refine b_stk [uJ 0, uJ x5] rfl ?_
      refine b_lcmp (d166 (j := 26) rfl) ?_
      refine b_lif_ne (d166 (j := 27) rfl) (fun c5 => ?_) (fun c5 => ?_)
      ·
        refine b_iload (d166 (j := 31) rfl) rfl ?_
        refine b_if_ne (d166 (j := 32) rfl) (fun c6 => ?_) (fun c6 => ?_)
        ·
          refine b_lload_n (d166 (j := 35) rfl) rfl ?_
          refine b_lload (d166 (j := 36) rfl) rfl ?_
          refine b_ldiv (d166 (j := 37) rfl) (s5 c1 c4 c5 c6) ?_
          refine b_stk [uJ (x2.tdiv x5)] (by rw [dsw64_r (s6 c1 c4 c5 c6)]) ?_
          exact b_lret (d166 (j := 38) rfl) rfl (k4 c1 c4 c5 c6)
        ·
          refine b_lload_n (d166 (j := 33) rfl) rfl ?_
          refine b_goto (d166 (j := 34) rfl) ?_
          refine b_lload (d166 (j := 36) rfl) rfl ?_
          refine b_ldiv (d166 (j := 37) rfl) (s7 c1 c4 c5 c6) ?_
          refine b_stk [uJ (x0.tdiv x5)] (by rw [dsw64_r (s8 c1 c4 c5 c6)]) ?_
          exact b_lret (d166 (j := 38) rfl) rfl (k5 c1 c4 c5 c6)
      ·
        refine b_iload (d166 (j := 28) rfl) rfl ?_
        refine b_i2l (d166 (j := 29) rfl) ?_
        exact b_lret (d166 (j := 30) rfl) rfl (k6 c1 c4 c5)
    ·
      refine b_lload (d166 (j := 14) rfl) rfl ?_
      refine b_lload (d166 (j := 15) rfl) rfl ?_
      refine b_lremP (d166 (j := 16) rfl) (s9 c1 c4) ?_
      refine b_lstore [uJ x0, uX 0, uJ x2, uX 0, uI x4, uJ x5, uX 0, uJ x7, uX 0, uI x9, uJ (x5 % x7), uX 0] (d166 (j := 17) rfl) (by decide) rfl ?_
      refine b_lload (d166 (j := 18) rfl) rfl ?_
      refine b_lstore [uJ x0, uX 0, uJ x2, uX 0, uI x4, uJ x7, uX 0, uJ x7, uX 0, uI x9, uJ (x5 % x7), uX 0] (d166 (j := 19) rfl) (by decide) rfl ?_
      refine b_lload (d166 (j := 20) rfl) rfl ?_
      refine b_lstore [uJ x0, uX 0, uJ x2, uX 0, uI x4, uJ x7, uX 0, uJ (x5 % x7), uX 0, uI x9, uJ (x5 % x7), uX 0] (d166 (j := 21) rfl) (by decide) rfl ?_
      refine b_iinc [uJ x0, uX 0, uJ x2, uX 0, uI x4, uJ x7, uX 0, uJ (x5 % x7), uX 0, uI (x9 + 1), uJ (x5 % x7), uX 0] (d166 (j := 22) rfl) rfl (by decide) (s10 c1 c4) rfl ?_
      refine b_goto (d166 (j := 23) rfl) ?_
      exact bB_le _ (bLe_s (bLe_s (bLe_s (bLe_s (bLe_s (bLe_s (bLe_s (bLe_s (bLe_s (bLe_s (bLe_x (bLe_s bLe_nil)))))))))))) (k7 c1 c4)
set_option maxRecDepth 100000 in
set_option maxHeartbeats 4000000 in
theorem r308n_0 {x0 x2 x4 : Int} {R1 : dsMem → Prop} {g1 : dsMem → Int} {R2 : dsMem → Prop} {g2 : dsMem → Int} {M : dsMem} {Q : bQT} (hA1 : (¬ x4 = 0) → bCt 307 [uJ x0, uX 0, uJ x2, uX 0, uX 0, uX 0, uX 0, uX 0, uX 0, uX 0] M (fun M1 => [uJ (g1 M1)]) R1) (s1 : (¬ x4 = 0) → ∀ M1 : dsMem, R1 M1 → ¬ (g1 M1) = 0 := by intros; omega) (s2 : (¬ x4 = 0) → ∀ M1 : dsMem, R1 M1 → -9223372036854775808 ≤ (x2.tdiv (g1 M1)) ∧ (x2.tdiv (g1 M1)) < 9223372036854775808 := by intros; omega) (k1 : (¬ x4 = 0) → ∀ M1 : dsMem, R1 M1 → Q [uJ (x2.tdiv (g1 M1))] M1) (hA2 : (x4 = 0) → bCt 307 [uJ x0, uX 0, uJ x2, uX 0, uX 0, uX 0, uX 0, uX 0, uX 0, uX 0] M (fun M2 => [uJ (g2 M2)]) R2) (s3 : (x4 = 0) → ∀ M2 : dsMem, R2 M2 → ¬ (g2 M2) = 0 := by intros; omega) (s4 : (x4 = 0) → ∀ M2 : dsMem, R2 M2 → -9223372036854775808 ≤ (x0.tdiv (g2 M2)) ∧ (x0.tdiv (g2 M2)) < 9223372036854775808 := by intros; omega) (k2 : (x4 = 0) → ∀ M2 : dsMem, R2 M2 → Q [uJ (x0.tdiv (g2 M2))] M2) :
    bB 308 0 [uJ x0, uX 0, uJ x2, uX 0, uI x4] [] M Q := by
  refine b_iload (d308 (j := 0) rfl) rfl ?_
  refine b_if_ne (d308 (j := 1) rfl) (fun c1 => ?_) (fun c1 => ?_)
  ·
    refine b_lload_n (d308 (j := 4) rfl) rfl ?_
    refine b_lload_n (d308 (j := 5) rfl) rfl ?_
    refine b_lload_n (d308 (j := 6) rfl) rfl ?_
    refine b_callS (d308 (j := 7) rfl) (Or.inl rfl) rfl (bCk_mk (n := 2) (k := 4) (by decide +kernel) rfl rfl) ((hA1 c1) _ (fun M1 hR1 => ?_))
    refine b_stk [uJ (g1 M1), uJ x2] rfl ?_
    refine b_ldiv (d308 (j := 8) rfl) (s1 c1 M1 hR1) ?_
    refine b_stk [uJ (x2.tdiv (g1 M1))] (by rw [dsw64_r (s2 c1 M1 hR1)]) ?_
    exact b_lret (d308 (j := 9) rfl) rfl (k1 c1 M1 hR1)
  ·
    refine b_lload_n (d308 (j := 2) rfl) rfl ?_
    refine b_goto (d308 (j := 3) rfl) ?_
    refine b_lload_n (d308 (j := 5) rfl) rfl ?_
    refine b_lload_n (d308 (j := 6) rfl) rfl ?_
    refine b_callS (d308 (j := 7) rfl) (Or.inl rfl) rfl (bCk_mk (n := 2) (k := 4) (by decide +kernel) rfl rfl) ((hA2 c1) _ (fun M2 hR2 => ?_))
    refine b_stk [uJ (g2 M2), uJ x0] rfl ?_
    refine b_ldiv (d308 (j := 8) rfl) (s3 c1 M2 hR2) ?_
    refine b_stk [uJ (x0.tdiv (g2 M2))] (by rw [dsw64_r (s4 c1 M2 hR2)]) ?_
    exact b_lret (d308 (j := 9) rfl) rfl (k2 c1 M2 hR2)
