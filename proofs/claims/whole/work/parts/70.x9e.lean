/-! the reader of the reference, cut where paths meet -/
set_option maxRecDepth 100000 in
set_option maxHeartbeats 4000000 in
theorem r203n_0 {x1 x2 : Int} {R1 : dsMem → Prop} {M : dsMem} {Q : bQT} (k1 : (¬ ((M 84 12) = 0)) → bB 203 20 [uR 11 84, uI x1, uI x2, uX 0] [] M Q) (k2 : (((M 84 12) = 0)) → ((M 84 10) = 2) → bB 203 20 [uR 11 84, uI x1, uI x2, uX 0] [] M Q) (hA1 : (((M 84 12) = 0)) → (¬ (M 84 10) = 2) → bCt 199 [uR 11 84, uI 1] M (fun _ => []) R1) (k3 : (((M 84 12) = 0)) → (¬ (M 84 10) = 2) → ∀ M1 : dsMem, R1 M1 → bB 203 20 [uR 11 84, uI x1, uI x2, uX 0] [] M1 Q) :
    bB 203 0 [uR 11 84, uI x1, uI x2, uX 0] [] M Q := by
  refine b_aload_n (d203 (j := 0) rfl) rfl ?_
  refine b_callV (d203 (j := 1) rfl) rfl rfl (Or.inl rfl) rfl (bCk_mk (n := 0) (k := 1) (by decide +kernel) rfl rfl) (pu198  ?_)
  refine b_stk [uI (if ((M 84 12) = 0) then 1 else 0)] rfl ?_
  refine b_ifeqP (d203 (j := 2) rfl) (fun c1 => ?_) (fun c1 => ?_)
  ·
    exact (k1 c1)
  ·
    refine b_aload_n (d203 (j := 3) rfl) rfl ?_
    refine b_getI (d203 (j := 4) rfl) rfl rfl rfl rfl (Or.inl rfl) ?_
    refine b_stk [uI (M 84 10)] rfl ?_
    refine b_iconst (d203 (j := 5) rfl) (by decide) ?_
    refine b_icmp_eq (d203 (j := 6) rfl) (fun c2 => ?_) (fun c2 => ?_)
    ·
      exact (k2 c1 c2)
    ·
      refine b_aload_n (d203 (j := 7) rfl) rfl ?_
      refine b_iconst (d203 (j := 8) rfl) (by decide) ?_
      refine b_callV (d203 (j := 9) rfl) rfl rfl (Or.inl rfl) rfl (bCk_mk (n := 0) (k := 2) (by decide +kernel) rfl rfl) ((hA1 c1 c2) _ (fun M1 hR1 => ?_))
      refine b_stk [] rfl ?_
      exact (k3 c1 c2 M1 hR1)
set_option maxRecDepth 100000 in
set_option maxHeartbeats 4000000 in
theorem r203n_20 {x1 x2 : Int} {R1 : dsMem → Prop} {M : dsMem} {Q : bQT} (k1 : (¬ ((M 84 12) = 0)) → bB 203 47 [uR 11 84, uX 0, uX 0, uX 0] [] M Q) (k2 : (((M 84 12) = 0)) → ((x1 ≤ (M 84 11) ∧ (M 84 11) ≤ x2)) → bB 203 47 [uR 11 84, uX 0, uX 0, uX 0] [] M Q) (hA1 : (((M 84 12) = 0)) → (¬ (x1 ≤ (M 84 11) ∧ (M 84 11) ≤ x2)) → bCt 199 [uR 11 84, uI 2] M (fun _ => []) R1) (k3 : (((M 84 12) = 0)) → (¬ (x1 ≤ (M 84 11) ∧ (M 84 11) ≤ x2)) → ∀ M1 : dsMem, R1 M1 → bB 203 47 [uR 11 84, uX 0, uX 0, uX 0] [] M1 Q) :
    bB 203 20 [uR 11 84, uI x1, uI x2, uX 0] [] M Q := by
  refine b_aload_n (d203 (j := 10) rfl) rfl ?_
  refine b_callV (d203 (j := 11) rfl) rfl rfl (Or.inl rfl) rfl (bCk_mk (n := 0) (k := 1) (by decide +kernel) rfl rfl) (pu198  ?_)
  refine b_stk [uI (if ((M 84 12) = 0) then 1 else 0)] rfl ?_
  refine b_ifeqP (d203 (j := 12) rfl) (fun c1 => ?_) (fun c1 => ?_)
  ·
    exact bB_le _ (bLe_s (bLe_x (bLe_x (bLe_s bLe_nil)))) (k1 c1)
  ·
    refine b_aload_n (d203 (j := 13) rfl) rfl ?_
    refine b_getI (d203 (j := 14) rfl) rfl rfl rfl rfl (Or.inl rfl) ?_
    refine b_stk [uI (M 84 11)] rfl ?_
    refine b_i2l (d203 (j := 15) rfl) ?_
    refine b_iload_n (d203 (j := 16) rfl) rfl ?_
    refine b_i2l (d203 (j := 17) rfl) ?_
    refine b_iload_n (d203 (j := 18) rfl) rfl ?_
    refine b_i2l (d203 (j := 19) rfl) ?_
    refine b_callS (d203 (j := 20) rfl) (Or.inl rfl) rfl (bCk_mk (n := 0) (k := 6) (by decide +kernel) rfl rfl) (pu177  ?_)
    refine b_stk [uI (if (x1 ≤ (M 84 11) ∧ (M 84 11) ≤ x2) then 1 else 0)] rfl ?_
    refine b_ifneP (d203 (j := 21) rfl) (fun c2 => ?_) (fun c2 => ?_)
    ·
      exact bB_le _ (bLe_s (bLe_x (bLe_x (bLe_s bLe_nil)))) (k2 c1 c2)
    ·
      refine b_aload_n (d203 (j := 22) rfl) rfl ?_
      refine b_iconst (d203 (j := 23) rfl) (by decide) ?_
      refine b_callV (d203 (j := 24) rfl) rfl rfl (Or.inl rfl) rfl (bCk_mk (n := 0) (k := 2) (by decide +kernel) rfl rfl) ((hA1 c1 c2) _ (fun M1 hR1 => ?_))
      refine b_stk [] rfl ?_
      exact bB_le _ (bLe_s (bLe_x (bLe_x (bLe_s bLe_nil)))) (k3 c1 c2 M1 hR1)
set_option maxRecDepth 100000 in
set_option maxHeartbeats 4000000 in
theorem r203n_47  {R1 : dsMem → Prop} {M : dsMem} {Q : bQT} (hA1 : (((M 84 12) = 0)) → bCt 197 [uR 11 84, uX 0] M (fun _ => []) R1) (k1 : (((M 84 12) = 0)) → ∀ M1 : dsMem, R1 M1 → Q [uI (M 84 11)] M1) (k2 : (¬ ((M 84 12) = 0)) → Q [uI 0] M) :
    bB 203 47 [uR 11 84, uX 0, uX 0, uX 0] [] M Q := by
  refine b_aload_n (d203 (j := 25) rfl) rfl ?_
  refine b_callV (d203 (j := 26) rfl) rfl rfl (Or.inl rfl) rfl (bCk_mk (n := 0) (k := 1) (by decide +kernel) rfl rfl) (pu198  ?_)
  refine b_stk [uI (if ((M 84 12) = 0) then 1 else 0)] rfl ?_
  refine b_ifneP (d203 (j := 27) rfl) (fun c1 => ?_) (fun c1 => ?_)
  ·
    refine b_aload_n (d203 (j := 30) rfl) rfl ?_
    refine b_getI (d203 (j := 31) rfl) rfl rfl rfl rfl (Or.inl rfl) ?_
    refine b_stk [uI (M 84 11)] rfl ?_
    refine b_istore_n [uR 11 84, uX 0, uX 0, uI (M 84 11)] (d203 (j := 32) rfl) (by decide) rfl ?_
    refine b_aload_n (d203 (j := 33) rfl) rfl ?_
    refine b_callV (d203 (j := 34) rfl) rfl rfl (Or.inl rfl) rfl (bCk_mk (n := 0) (k := 1) (by decide +kernel) rfl rfl) ((hA1 c1) _ (fun M1 hR1 => ?_))
    refine b_stk [] rfl ?_
    refine b_iload_n (d203 (j := 35) rfl) rfl ?_
    exact b_iret (d203 (j := 36) rfl) rfl (k1 c1 M1 hR1)
  ·
    refine b_iconst (d203 (j := 28) rfl) (by decide) ?_
    exact b_iret (d203 (j := 29) rfl) rfl (k2 c1)
set_option maxRecDepth 100000 in
set_option maxHeartbeats 4000000 in
theorem r211n_0  {R1 : dsMem → Prop} {g1 : dsMem → Int} {M : dsMem} {Q : bQT} (hA1 : bCt 200 [uR 11 84, uX 6, uX 0, uX 0] M (fun M1 => [uI (g1 M1)]) R1) (k1 : ∀ M1 : dsMem, R1 M1 → ((g1 M1) = 0) → bB 211 19 [uR 11 84] [] M1 Q) (k2 : ∀ M1 : dsMem, R1 M1 → (¬ (g1 M1) = 0) → ((M1 90 3) = 3) → Q [uI 1] M1) (k3 : ∀ M1 : dsMem, R1 M1 → (¬ (g1 M1) = 0) → (¬ (M1 90 3) = 3) → bB 211 19 [uR 11 84] [] M1 Q) :
    bB 211 0 [uR 11 84] [] M Q := by
  refine b_aload_n (d211 (j := 0) rfl) rfl ?_
  refine b_ldcS (d211 (j := 1) rfl) rfl rfl ?_
  refine b_stk [uX 6, uR 11 84] rfl ?_
  refine b_callV (d211 (j := 2) rfl) rfl rfl (Or.inl rfl) rfl (bCk_mk (n := 0) (k := 2) (by decide +kernel) rfl rfl) ((hA1) _ (fun M1 hR1 => ?_))
  refine b_stk [uI (g1 M1)] rfl ?_
  refine b_if_eq (d211 (j := 3) rfl) (fun c1 => ?_) (fun c1 => ?_)
  ·
    exact (k1 M1 hR1 c1)
  ·
    refine b_aload_n (d211 (j := 4) rfl) rfl ?_
    refine b_getR (d211 (j := 5) rfl) rfl rfl rfl rfl ?_
    refine b_stk [uR 38 90] rfl ?_
    refine b_iconst (d211 (j := 6) rfl) (by decide) ?_
    refine b_iaload (d211 (j := 7) rfl) rfl (by decide) ?_
    refine b_iconst (d211 (j := 8) rfl) (by decide) ?_
    refine b_icmp_eq (d211 (j := 9) rfl) (fun c2 => ?_) (fun c2 => ?_)
    ·
      refine b_iconst (d211 (j := 20) rfl) (by decide) ?_
      exact b_zret (d211 (j := 21) rfl) rfl (by decide) (k2 M1 hR1 c1 c2)
    ·
      exact (k3 M1 hR1 c1 c2)
set_option maxRecDepth 100000 in
set_option maxHeartbeats 4000000 in
theorem r211n_19  {R1 : dsMem → Prop} {g1 : dsMem → Int} {M : dsMem} {Q : bQT} (hA1 : bCt 200 [uR 11 84, uX 9, uX 0, uX 0] M (fun M1 => [uI (g1 M1)]) R1) (k1 : ∀ M1 : dsMem, R1 M1 → ((g1 M1) = 0) → bB 211 41 [uR 11 84] [] M1 Q) (k2 : ∀ M1 : dsMem, R1 M1 → (¬ (g1 M1) = 0) → (¬ (M1 90 4) = 6) → bB 211 41 [uR 11 84] [] M1 Q) (k3 : ∀ M1 : dsMem, R1 M1 → (¬ (g1 M1) = 0) → ((M1 90 4) = 6) → Q [uI 1] M1) :
    bB 211 19 [uR 11 84] [] M Q := by
  refine b_aload_n (d211 (j := 10) rfl) rfl ?_
  refine b_ldcS (d211 (j := 11) rfl) rfl rfl ?_
  refine b_stk [uX 9, uR 11 84] rfl ?_
  refine b_callV (d211 (j := 12) rfl) rfl rfl (Or.inl rfl) rfl (bCk_mk (n := 0) (k := 2) (by decide +kernel) rfl rfl) ((hA1) _ (fun M1 hR1 => ?_))
  refine b_stk [uI (g1 M1)] rfl ?_
  refine b_if_eq (d211 (j := 13) rfl) (fun c1 => ?_) (fun c1 => ?_)
  ·
    exact (k1 M1 hR1 c1)
  ·
    refine b_aload_n (d211 (j := 14) rfl) rfl ?_
    refine b_getR (d211 (j := 15) rfl) rfl rfl rfl rfl ?_
    refine b_stk [uR 38 90] rfl ?_
    refine b_iconst (d211 (j := 16) rfl) (by decide) ?_
    refine b_iaload (d211 (j := 17) rfl) rfl (by decide) ?_
    refine b_bipush (d211 (j := 18) rfl) (by decide) ?_
    refine b_icmp_ne (d211 (j := 19) rfl) (fun c2 => ?_) (fun c2 => ?_)
    ·
      exact (k2 M1 hR1 c1 c2)
    ·
      refine b_iconst (d211 (j := 20) rfl) (by decide) ?_
      exact b_zret (d211 (j := 21) rfl) rfl (by decide) (k3 M1 hR1 c1 c2)
set_option maxRecDepth 100000 in
set_option maxHeartbeats 4000000 in
theorem r211n_41  {R1 : dsMem → Prop} {g1 : dsMem → Int} {M : dsMem} {Q : bQT} (hA1 : bCt 200 [uR 11 84, uX 13, uX 0, uX 0] M (fun M1 => [uI (g1 M1)]) R1) (k1 : ∀ M1 : dsMem, R1 M1 → ((g1 M1) = 0) → bB 211 61 [uR 11 84] [] M1 Q) (k2 : ∀ M1 : dsMem, R1 M1 → (¬ (g1 M1) = 0) → ((M1 90 5) = 8) → Q [uI 1] M1) (k3 : ∀ M1 : dsMem, R1 M1 → (¬ (g1 M1) = 0) → (¬ (M1 90 5) = 8) → bB 211 61 [uR 11 84] [] M1 Q) :
    bB 211 41 [uR 11 84] [] M Q := by
  refine b_aload_n (d211 (j := 22) rfl) rfl ?_
  refine b_ldcS (d211 (j := 23) rfl) rfl rfl ?_
  refine b_stk [uX 13, uR 11 84] rfl ?_
  refine b_callV (d211 (j := 24) rfl) rfl rfl (Or.inl rfl) rfl (bCk_mk (n := 0) (k := 2) (by decide +kernel) rfl rfl) ((hA1) _ (fun M1 hR1 => ?_))
  refine b_stk [uI (g1 M1)] rfl ?_
  refine b_if_eq (d211 (j := 25) rfl) (fun c1 => ?_) (fun c1 => ?_)
  ·
    exact (k1 M1 hR1 c1)
  ·
    refine b_aload_n (d211 (j := 26) rfl) rfl ?_
    refine b_getR (d211 (j := 27) rfl) rfl rfl rfl rfl ?_
    refine b_stk [uR 38 90] rfl ?_
    refine b_iconst (d211 (j := 28) rfl) (by decide) ?_
    refine b_iaload (d211 (j := 29) rfl) rfl (by decide) ?_
    refine b_bipush (d211 (j := 30) rfl) (by decide) ?_
    refine b_icmp_eq (d211 (j := 31) rfl) (fun c2 => ?_) (fun c2 => ?_)
    ·
      refine b_iconst (d211 (j := 42) rfl) (by decide) ?_
      refine b_goto (d211 (j := 43) rfl) ?_
      exact b_zret (d211 (j := 45) rfl) rfl (by decide) (k2 M1 hR1 c1 c2)
    ·
      exact (k3 M1 hR1 c1 c2)
set_option maxRecDepth 100000 in
set_option maxHeartbeats 4000000 in
theorem r211n_61  {R1 : dsMem → Prop} {g1 : dsMem → Int} {M : dsMem} {Q : bQT} (hA1 : bCt 200 [uR 11 84, uX 16, uX 0, uX 0] M (fun M1 => [uI (g1 M1)]) R1) (k1 : ∀ M1 : dsMem, R1 M1 → ((g1 M1) = 0) → Q [uI 0] M1) (k2 : ∀ M1 : dsMem, R1 M1 → (¬ (g1 M1) = 0) → (¬ (M1 90 6) = 6) → Q [uI 0] M1) (k3 : ∀ M1 : dsMem, R1 M1 → (¬ (g1 M1) = 0) → ((M1 90 6) = 6) → Q [uI 1] M1) :
    bB 211 61 [uR 11 84] [] M Q := by
  refine b_aload_n (d211 (j := 32) rfl) rfl ?_
  refine b_ldcS (d211 (j := 33) rfl) rfl rfl ?_
  refine b_stk [uX 16, uR 11 84] rfl ?_
  refine b_callV (d211 (j := 34) rfl) rfl rfl (Or.inl rfl) rfl (bCk_mk (n := 0) (k := 2) (by decide +kernel) rfl rfl) ((hA1) _ (fun M1 hR1 => ?_))
  refine b_stk [uI (g1 M1)] rfl ?_
  refine b_if_eq (d211 (j := 35) rfl) (fun c1 => ?_) (fun c1 => ?_)
  ·
    refine b_iconst (d211 (j := 44) rfl) (by decide) ?_
    exact b_zret (d211 (j := 45) rfl) rfl (by decide) (k1 M1 hR1 c1)
  ·
    refine b_aload_n (d211 (j := 36) rfl) rfl ?_
    refine b_getR (d211 (j := 37) rfl) rfl rfl rfl rfl ?_
    refine b_stk [uR 38 90] rfl ?_
    refine b_bipush (d211 (j := 38) rfl) (by decide) ?_
    refine b_iaload (d211 (j := 39) rfl) rfl (by decide) ?_
    refine b_bipush (d211 (j := 40) rfl) (by decide) ?_
    refine b_icmp_ne (d211 (j := 41) rfl) (fun c2 => ?_) (fun c2 => ?_)
    ·
      refine b_iconst (d211 (j := 44) rfl) (by decide) ?_
      exact b_zret (d211 (j := 45) rfl) rfl (by decide) (k2 M1 hR1 c1 c2)
    ·
      refine b_iconst (d211 (j := 42) rfl) (by decide) ?_
      refine b_goto (d211 (j := 43) rfl) ?_
      exact b_zret (d211 (j := 45) rfl) rfl (by decide) (k3 M1 hR1 c1 c2)
set_option maxRecDepth 100000 in
set_option maxHeartbeats 4000000 in
theorem r212n_0  {R1 : dsMem → Prop} {g1 : dsMem → Int} {R2 : dsMem → dsMem → Prop} {g2 : dsMem → dsMem → Int} {R3 : dsMem → dsMem → dsMem → Prop} {g3 : dsMem → dsMem → dsMem → Int} {R4 : dsMem → dsMem → dsMem → dsMem → Prop} {g4 : dsMem → dsMem → dsMem → dsMem → Int} {M : dsMem} {Q : bQT} (hA1 : bCt 200 [uR 11 84, uX 6, uX 0, uX 0] M (fun M1 => [uI (g1 M1)]) R1) (k1 : ∀ M1 : dsMem, R1 M1 → (¬ (g1 M1) = 0) → bB 212 36 [uR 11 84, uX 0] [] M1 Q) (hA2 : ∀ M1 : dsMem, R1 M1 → ((g1 M1) = 0) → bCt 200 [uR 11 84, uX 9, uX 0, uX 0] M1 (fun M2 => [uI (g2 M1 M2)]) (R2 M1)) (k2 : ∀ M1 : dsMem, R1 M1 → ((g1 M1) = 0) → ∀ M2 : dsMem, R2 M1 M2 → (¬ (g2 M1 M2) = 0) → bB 212 36 [uR 11 84, uX 0] [] M2 Q) (hA3 : ∀ M1 : dsMem, R1 M1 → ((g1 M1) = 0) → ∀ M2 : dsMem, R2 M1 M2 → ((g2 M1 M2) = 0) → bCt 200 [uR 11 84, uX 13, uX 0, uX 0] M2 (fun M3 => [uI (g3 M1 M2 M3)]) (R3 M1 M2)) (k3 : ∀ M1 : dsMem, R1 M1 → ((g1 M1) = 0) → ∀ M2 : dsMem, R2 M1 M2 → ((g2 M1 M2) = 0) → ∀ M3 : dsMem, R3 M1 M2 M3 → (¬ (g3 M1 M2 M3) = 0) → bB 212 36 [uR 11 84, uX 0] [] M3 Q) (hA4 : ∀ M1 : dsMem, R1 M1 → ((g1 M1) = 0) → ∀ M2 : dsMem, R2 M1 M2 → ((g2 M1 M2) = 0) → ∀ M3 : dsMem, R3 M1 M2 M3 → ((g3 M1 M2 M3) = 0) → bCt 200 [uR 11 84, uX 16, uX 0, uX 0] M3 (fun M4 => [uI (g4 M1 M2 M3 M4)]) (R4 M1 M2 M3)) (k4 : ∀ M1 : dsMem, R1 M1 → ((g1 M1) = 0) → ∀ M2 : dsMem, R2 M1 M2 → ((g2 M1 M2) = 0) → ∀ M3 : dsMem, R3 M1 M2 M3 → ((g3 M1 M2 M3) = 0) → ∀ M4 : dsMem, R4 M1 M2 M3 M4 → ((g4 M1 M2 M3 M4) = 0) → bB 212 40 [uR 11 84, uX 0] [] M4 Q) (k5 : ∀ M1 : dsMem, R1 M1 → ((g1 M1) = 0) → ∀ M2 : dsMem, R2 M1 M2 → ((g2 M1 M2) = 0) → ∀ M3 : dsMem, R3 M1 M2 M3 → ((g3 M1 M2 M3) = 0) → ∀ M4 : dsMem, R4 M1 M2 M3 M4 → (¬ (g4 M1 M2 M3 M4) = 0) → bB 212 36 [uR 11 84, uX 0] [] M4 Q) :
    bB 212 0 [uR 11 84, uX 0] [] M Q := by
  refine b_aload_n (d212 (j := 0) rfl) rfl ?_
  refine b_ldcS (d212 (j := 1) rfl) rfl rfl ?_
  refine b_stk [uX 6, uR 11 84] rfl ?_
  refine b_callV (d212 (j := 2) rfl) rfl rfl (Or.inl rfl) rfl (bCk_mk (n := 0) (k := 2) (by decide +kernel) rfl rfl) ((hA1) _ (fun M1 hR1 => ?_))
  refine b_stk [uI (g1 M1)] rfl ?_
  refine b_if_ne (d212 (j := 3) rfl) (fun c1 => ?_) (fun c1 => ?_)
  ·
    exact (k1 M1 hR1 c1)
  ·
    refine b_aload_n (d212 (j := 4) rfl) rfl ?_
    refine b_ldcS (d212 (j := 5) rfl) rfl rfl ?_
    refine b_stk [uX 9, uR 11 84] rfl ?_
    refine b_callV (d212 (j := 6) rfl) rfl rfl (Or.inl rfl) rfl (bCk_mk (n := 0) (k := 2) (by decide +kernel) rfl rfl) ((hA2 M1 hR1 c1) _ (fun M2 hR2 => ?_))
    refine b_stk [uI (g2 M1 M2)] rfl ?_
    refine b_if_ne (d212 (j := 7) rfl) (fun c2 => ?_) (fun c2 => ?_)
    ·
      exact (k2 M1 hR1 c1 M2 hR2 c2)
    ·
      refine b_aload_n (d212 (j := 8) rfl) rfl ?_
      refine b_ldcS (d212 (j := 9) rfl) rfl rfl ?_
      refine b_stk [uX 13, uR 11 84] rfl ?_
      refine b_callV (d212 (j := 10) rfl) rfl rfl (Or.inl rfl) rfl (bCk_mk (n := 0) (k := 2) (by decide +kernel) rfl rfl) ((hA3 M1 hR1 c1 M2 hR2 c2) _ (fun M3 hR3 => ?_))
      refine b_stk [uI (g3 M1 M2 M3)] rfl ?_
      refine b_if_ne (d212 (j := 11) rfl) (fun c3 => ?_) (fun c3 => ?_)
      ·
        exact (k3 M1 hR1 c1 M2 hR2 c2 M3 hR3 c3)
      ·
        refine b_aload_n (d212 (j := 12) rfl) rfl ?_
        refine b_ldcS (d212 (j := 13) rfl) rfl rfl ?_
        refine b_stk [uX 16, uR 11 84] rfl ?_
        refine b_callV (d212 (j := 14) rfl) rfl rfl (Or.inl rfl) rfl (bCk_mk (n := 0) (k := 2) (by decide +kernel) rfl rfl) ((hA4 M1 hR1 c1 M2 hR2 c2 M3 hR3 c3) _ (fun M4 hR4 => ?_))
        refine b_stk [uI (g4 M1 M2 M3 M4)] rfl ?_
        refine b_if_eq (d212 (j := 15) rfl) (fun c4 => ?_) (fun c4 => ?_)
        ·
          exact (k4 M1 hR1 c1 M2 hR2 c2 M3 hR3 c3 M4 hR4 c4)
        ·
          exact (k5 M1 hR1 c1 M2 hR2 c2 M3 hR3 c3 M4 hR4 c4)
set_option maxRecDepth 100000 in
set_option maxHeartbeats 4000000 in
theorem r212n_36   {M : dsMem} {Q : bQT} (k1 : bB 212 51 [uR 11 84, uX 0] [] M Q) :
    bB 212 36 [uR 11 84, uX 0] [] M Q := by
  refine b_iconst (d212 (j := 16) rfl) (by decide) ?_
  refine b_goto (d212 (j := 17) rfl) ?_
  refine b_istore_n [uR 11 84, uI 1] (d212 (j := 19) rfl) (by decide) rfl ?_
  refine b_iload_n (d212 (j := 20) rfl) rfl ?_
  refine b_if_ne (d212 (j := 21) rfl) (fun _ => ?_) (fun q => absurd q (by decide))
  exact bB_le _ (bLe_s (bLe_x bLe_nil)) k1
set_option maxRecDepth 100000 in
set_option maxHeartbeats 4000000 in
theorem r212n_40  {R1 : dsMem → Prop} {M : dsMem} {Q : bQT} (hA1 : bCt 199 [uR 11 84, uI 1] M (fun _ => []) R1) (k1 : ∀ M1 : dsMem, R1 M1 → bB 212 51 [uR 11 84, uX 0] [] M1 Q) :
    bB 212 40 [uR 11 84, uX 0] [] M Q := by
  refine b_iconst (d212 (j := 18) rfl) (by decide) ?_
  refine b_istore_n [uR 11 84, uI 0] (d212 (j := 19) rfl) (by decide) rfl ?_
  refine b_iload_n (d212 (j := 20) rfl) rfl ?_
  refine b_if_ne (d212 (j := 21) rfl) (fun q => absurd q (by decide)) (fun _ => ?_)
  refine b_aload_n (d212 (j := 22) rfl) rfl ?_
  refine b_iconst (d212 (j := 23) rfl) (by decide) ?_
  refine b_callV (d212 (j := 24) rfl) rfl rfl (Or.inl rfl) rfl (bCk_mk (n := 0) (k := 2) (by decide +kernel) rfl rfl) ((hA1) _ (fun M1 hR1 => ?_))
  refine b_stk [] rfl ?_
  exact bB_le _ (bLe_s (bLe_x bLe_nil)) (k1 M1 hR1)
set_option maxRecDepth 100000 in
set_option maxHeartbeats 4000000 in
theorem r212n_51  {R1 : dsMem → Prop} {g1 : dsMem → Int} {R2 : dsMem → dsMem → Prop} {M : dsMem} {Q : bQT} (hA1 : bCt 211 [uR 11 84] M (fun M1 => [uI (g1 M1)]) R1) (k1 : ∀ M1 : dsMem, R1 M1 → ((g1 M1) = 0) → bB 212 63 [uR 11 84, uX 0] [] M1 Q) (hA2 : ∀ M1 : dsMem, R1 M1 → (¬ (g1 M1) = 0) → bCt 199 [uR 11 84, uI 3] M1 (fun _ => []) (R2 M1)) (k2 : ∀ M1 : dsMem, R1 M1 → (¬ (g1 M1) = 0) → ∀ M2 : dsMem, R2 M1 M2 → bB 212 63 [uR 11 84, uX 0] [] M2 Q) :
    bB 212 51 [uR 11 84, uX 0] [] M Q := by
  refine b_aload_n (d212 (j := 25) rfl) rfl ?_
  refine b_callV (d212 (j := 26) rfl) rfl rfl (Or.inl rfl) rfl (bCk_mk (n := 0) (k := 1) (by decide +kernel) rfl rfl) ((hA1) _ (fun M1 hR1 => ?_))
  refine b_stk [uI (g1 M1)] rfl ?_
  refine b_if_eq (d212 (j := 27) rfl) (fun c1 => ?_) (fun c1 => ?_)
  ·
    exact (k1 M1 hR1 c1)
  ·
    refine b_aload_n (d212 (j := 28) rfl) rfl ?_
    refine b_iconst (d212 (j := 29) rfl) (by decide) ?_
    refine b_callV (d212 (j := 30) rfl) rfl rfl (Or.inl rfl) rfl (bCk_mk (n := 0) (k := 2) (by decide +kernel) rfl rfl) ((hA2 M1 hR1 c1) _ (fun M2 hR2 => ?_))
    refine b_stk [] rfl ?_
    exact (k2 M1 hR1 c1 M2 hR2)
set_option maxRecDepth 100000 in
set_option maxHeartbeats 4000000 in
theorem r212n_63  {R1 : dsMem → Prop} {g1 : dsMem → Int} {R2 : dsMem → dsMem → Prop} {g2 : dsMem → dsMem → Int} {R3 : dsMem → dsMem → dsMem → Prop} {g3 : dsMem → dsMem → dsMem → Int} {R4 : dsMem → dsMem → dsMem → dsMem → Prop} {R5 : dsMem → dsMem → dsMem → dsMem → dsMem → Prop} {R6 : dsMem → dsMem → dsMem → dsMem → Prop} {R7 : dsMem → dsMem → dsMem → Prop} {R8 : dsMem → dsMem → Prop} {M : dsMem} {Q : bQT} (hA1 : (((M 84 12) = 0)) → bCt 201 [uR 11 84, uX 6, uX 0] M (fun M1 => [uI (g1 M1)]) R1) (hA2 : (((M 84 12) = 0)) → ∀ M1 : dsMem, R1 M1 → ((g1 M1) = 0) → bCt 201 [uR 11 84, uX 9, uX 0] M1 (fun M2 => [uI (g2 M1 M2)]) (R2 M1)) (hA3 : (((M 84 12) = 0)) → ∀ M1 : dsMem, R1 M1 → ((g1 M1) = 0) → ∀ M2 : dsMem, R2 M1 M2 → ((g2 M1 M2) = 0) → bCt 201 [uR 11 84, uX 13, uX 0] M2 (fun M3 => [uI (g3 M1 M2 M3)]) (R3 M1 M2)) (hA4 : (((M 84 12) = 0)) → ∀ M1 : dsMem, R1 M1 → ((g1 M1) = 0) → ∀ M2 : dsMem, R2 M1 M2 → ((g2 M1 M2) = 0) → ∀ M3 : dsMem, R3 M1 M2 M3 → ((g3 M1 M2 M3) = 0) → bCt 197 [uR 11 84, uX 0] M3 (fun _ => []) (R4 M1 M2 M3)) (hA5 : (((M 84 12) = 0)) → ∀ M1 : dsMem, R1 M1 → ((g1 M1) = 0) → ∀ M2 : dsMem, R2 M1 M2 → ((g2 M1 M2) = 0) → ∀ M3 : dsMem, R3 M1 M2 M3 → ((g3 M1 M2 M3) = 0) → ∀ M4 : dsMem, R4 M1 M2 M3 M4 → bCt 210 [uR 11 84, uX 0] M4 (fun _ => []) (R5 M1 M2 M3 M4)) (k1 : (((M 84 12) = 0)) → ∀ M1 : dsMem, R1 M1 → ((g1 M1) = 0) → ∀ M2 : dsMem, R2 M1 M2 → ((g2 M1 M2) = 0) → ∀ M3 : dsMem, R3 M1 M2 M3 → ((g3 M1 M2 M3) = 0) → ∀ M4 : dsMem, R4 M1 M2 M3 M4 → ∀ M5 : dsMem, R5 M1 M2 M3 M4 M5 → Q [] M5) (hA6 : (((M 84 12) = 0)) → ∀ M1 : dsMem, R1 M1 → ((g1 M1) = 0) → ∀ M2 : dsMem, R2 M1 M2 → ((g2 M1 M2) = 0) → ∀ M3 : dsMem, R3 M1 M2 M3 → (¬ (g3 M1 M2 M3) = 0) → bCt 209 [uR 11 84, uX 0] M3 (fun _ => []) (R6 M1 M2 M3)) (k2 : (((M 84 12) = 0)) → ∀ M1 : dsMem, R1 M1 → ((g1 M1) = 0) → ∀ M2 : dsMem, R2 M1 M2 → ((g2 M1 M2) = 0) → ∀ M3 : dsMem, R3 M1 M2 M3 → (¬ (g3 M1 M2 M3) = 0) → ∀ M6 : dsMem, R6 M1 M2 M3 M6 → Q [] M6) (hA7 : (((M 84 12) = 0)) → ∀ M1 : dsMem, R1 M1 → ((g1 M1) = 0) → ∀ M2 : dsMem, R2 M1 M2 → (¬ (g2 M1 M2) = 0) → bCt 208 [uR 11 84, uX 0] M2 (fun _ => []) (R7 M1 M2)) (k3 : (((M 84 12) = 0)) → ∀ M1 : dsMem, R1 M1 → ((g1 M1) = 0) → ∀ M2 : dsMem, R2 M1 M2 → (¬ (g2 M1 M2) = 0) → ∀ M7 : dsMem, R7 M1 M2 M7 → Q [] M7) (hA8 : (((M 84 12) = 0)) → ∀ M1 : dsMem, R1 M1 → (¬ (g1 M1) = 0) → bCt 207 [uR 11 84, uX 0] M1 (fun _ => []) (R8 M1)) (k4 : (((M 84 12) = 0)) → ∀ M1 : dsMem, R1 M1 → (¬ (g1 M1) = 0) → ∀ M8 : dsMem, R8 M1 M8 → Q [] M8) (k5 : (¬ ((M 84 12) = 0)) → Q [] M) :
    bB 212 63 [uR 11 84, uX 0] [] M Q := by
  refine b_aload_n (d212 (j := 31) rfl) rfl ?_
  refine b_callV (d212 (j := 32) rfl) rfl rfl (Or.inl rfl) rfl (bCk_mk (n := 0) (k := 1) (by decide +kernel) rfl rfl) (pu198  ?_)
  refine b_stk [uI (if ((M 84 12) = 0) then 1 else 0)] rfl ?_
  refine b_ifneP (d212 (j := 33) rfl) (fun c1 => ?_) (fun c1 => ?_)
  ·
    refine b_aload_n (d212 (j := 35) rfl) rfl ?_
    refine b_ldcS (d212 (j := 36) rfl) rfl rfl ?_
    refine b_stk [uX 6, uR 11 84] rfl ?_
    refine b_callV (d212 (j := 37) rfl) rfl rfl (Or.inl rfl) rfl (bCk_mk (n := 0) (k := 2) (by decide +kernel) rfl rfl) ((hA1 c1) _ (fun M1 hR1 => ?_))
    refine b_stk [uI (g1 M1)] rfl ?_
    refine b_if_eq (d212 (j := 38) rfl) (fun c2 => ?_) (fun c2 => ?_)
    ·
      refine b_aload_n (d212 (j := 42) rfl) rfl ?_
      refine b_ldcS (d212 (j := 43) rfl) rfl rfl ?_
      refine b_stk [uX 9, uR 11 84] rfl ?_
      refine b_callV (d212 (j := 44) rfl) rfl rfl (Or.inl rfl) rfl (bCk_mk (n := 0) (k := 2) (by decide +kernel) rfl rfl) ((hA2 c1 M1 hR1 c2) _ (fun M2 hR2 => ?_))
      refine b_stk [uI (g2 M1 M2)] rfl ?_
      refine b_if_eq (d212 (j := 45) rfl) (fun c3 => ?_) (fun c3 => ?_)
      ·
        refine b_aload_n (d212 (j := 49) rfl) rfl ?_
        refine b_ldcS (d212 (j := 50) rfl) rfl rfl ?_
        refine b_stk [uX 13, uR 11 84] rfl ?_
        refine b_callV (d212 (j := 51) rfl) rfl rfl (Or.inl rfl) rfl (bCk_mk (n := 0) (k := 2) (by decide +kernel) rfl rfl) ((hA3 c1 M1 hR1 c2 M2 hR2 c3) _ (fun M3 hR3 => ?_))
        refine b_stk [uI (g3 M1 M2 M3)] rfl ?_
        refine b_if_eq (d212 (j := 52) rfl) (fun c4 => ?_) (fun c4 => ?_)
        ·
          refine b_aload_n (d212 (j := 56) rfl) rfl ?_
          refine b_callV (d212 (j := 57) rfl) rfl rfl (Or.inl rfl) rfl (bCk_mk (n := 0) (k := 1) (by decide +kernel) rfl rfl) ((hA4 c1 M1 hR1 c2 M2 hR2 c3 M3 hR3 c4) _ (fun M4 hR4 => ?_))
          refine b_stk [] rfl ?_
          refine b_aload_n (d212 (j := 58) rfl) rfl ?_
          refine b_callV (d212 (j := 59) rfl) rfl rfl (Or.inl rfl) rfl (bCk_mk (n := 0) (k := 1) (by decide +kernel) rfl rfl) ((hA5 c1 M1 hR1 c2 M2 hR2 c3 M3 hR3 c4 M4 hR4) _ (fun M5 hR5 => ?_))
          refine b_stk [] rfl ?_
          exact b_vret (d212 (j := 60) rfl) rfl (k1 c1 M1 hR1 c2 M2 hR2 c3 M3 hR3 c4 M4 hR4 M5 hR5)
        ·
          refine b_aload_n (d212 (j := 53) rfl) rfl ?_
          refine b_callV (d212 (j := 54) rfl) rfl rfl (Or.inl rfl) rfl (bCk_mk (n := 0) (k := 1) (by decide +kernel) rfl rfl) ((hA6 c1 M1 hR1 c2 M2 hR2 c3 M3 hR3 c4) _ (fun M6 hR6 => ?_))
          refine b_stk [] rfl ?_
          refine b_goto (d212 (j := 55) rfl) ?_
          exact b_vret (d212 (j := 60) rfl) rfl (k2 c1 M1 hR1 c2 M2 hR2 c3 M3 hR3 c4 M6 hR6)
      ·
        refine b_aload_n (d212 (j := 46) rfl) rfl ?_
        refine b_callV (d212 (j := 47) rfl) rfl rfl (Or.inl rfl) rfl (bCk_mk (n := 0) (k := 1) (by decide +kernel) rfl rfl) ((hA7 c1 M1 hR1 c2 M2 hR2 c3) _ (fun M7 hR7 => ?_))
        refine b_stk [] rfl ?_
        refine b_goto (d212 (j := 48) rfl) ?_
        exact b_vret (d212 (j := 60) rfl) rfl (k3 c1 M1 hR1 c2 M2 hR2 c3 M7 hR7)
    ·
      refine b_aload_n (d212 (j := 39) rfl) rfl ?_
      refine b_callV (d212 (j := 40) rfl) rfl rfl (Or.inl rfl) rfl (bCk_mk (n := 0) (k := 1) (by decide +kernel) rfl rfl) ((hA8 c1 M1 hR1 c2) _ (fun M8 hR8 => ?_))
      refine b_stk [] rfl ?_
      refine b_goto (d212 (j := 41) rfl) ?_
      exact b_vret (d212 (j := 60) rfl) rfl (k4 c1 M1 hR1 c2 M8 hR8)
  ·
    exact b_vret (d212 (j := 34) rfl) rfl (k5 c1)
set_option maxRecDepth 100000 in
set_option maxHeartbeats 4000000 in
theorem r213n_0  {R1 : dsMem → Prop} {R2 : dsMem → Prop} {M : dsMem} {Q : bQT} (hA1 : (¬ (M 90 8) = 0) → bCt 212 [uR 11 84, uX 0] M (fun _ => []) R1) (k1 : (¬ (M 90 8) = 0) → ∀ M1 : dsMem, R1 M1 → bB 213 21 [uR 11 84] [] M1 Q) (hA2 : ((M 90 8) = 0) → bCt 206 [uR 11 84] M (fun _ => []) R2) (k2 : ((M 90 8) = 0) → ∀ M2 : dsMem, R2 M2 → bB 213 21 [uR 11 84] [] M2 Q) :
    bB 213 0 [uR 11 84] [] M Q := by
  refine b_aload_n (d213 (j := 0) rfl) rfl ?_
  refine b_getR (d213 (j := 1) rfl) rfl rfl rfl rfl ?_
  refine b_stk [uR 38 90] rfl ?_
  refine b_bipush (d213 (j := 2) rfl) (by decide) ?_
  refine b_iaload (d213 (j := 3) rfl) rfl (by decide) ?_
  refine b_if_ne (d213 (j := 4) rfl) (fun c1 => ?_) (fun c1 => ?_)
  ·
    refine b_aload_n (d213 (j := 8) rfl) rfl ?_
    refine b_callV (d213 (j := 9) rfl) rfl rfl (Or.inl rfl) rfl (bCk_mk (n := 0) (k := 1) (by decide +kernel) rfl rfl) ((hA1 c1) _ (fun M1 hR1 => ?_))
    refine b_stk [] rfl ?_
    exact (k1 c1 M1 hR1)
  ·
    refine b_aload_n (d213 (j := 5) rfl) rfl ?_
    refine b_callV (d213 (j := 6) rfl) rfl rfl (Or.inl rfl) rfl (bCk_mk (n := 0) (k := 1) (by decide +kernel) rfl rfl) ((hA2 c1) _ (fun M2 hR2 => ?_))
    refine b_stk [] rfl ?_
    refine b_goto (d213 (j := 7) rfl) ?_
    exact (k2 c1 M2 hR2)
set_option maxRecDepth 100000 in
set_option maxHeartbeats 4000000 in
theorem r213n_21  {R1 : dsMem → Prop} {M : dsMem} {Q : bQT} (k1 : (¬ ((M 84 12) = 0)) → bB 213 41 [uR 11 84] [] M Q) (k2 : (((M 84 12) = 0)) → ((M 84 10) = 3) → bB 213 41 [uR 11 84] [] M Q) (hA1 : (((M 84 12) = 0)) → (¬ (M 84 10) = 3) → bCt 199 [uR 11 84, uI 1] M (fun _ => []) R1) (k3 : (((M 84 12) = 0)) → (¬ (M 84 10) = 3) → ∀ M1 : dsMem, R1 M1 → bB 213 41 [uR 11 84] [] M1 Q) :
    bB 213 21 [uR 11 84] [] M Q := by
  refine b_aload_n (d213 (j := 10) rfl) rfl ?_
  refine b_callV (d213 (j := 11) rfl) rfl rfl (Or.inl rfl) rfl (bCk_mk (n := 0) (k := 1) (by decide +kernel) rfl rfl) (pu198  ?_)
  refine b_stk [uI (if ((M 84 12) = 0) then 1 else 0)] rfl ?_
  refine b_ifeqP (d213 (j := 12) rfl) (fun c1 => ?_) (fun c1 => ?_)
  ·
    exact (k1 c1)
  ·
    refine b_aload_n (d213 (j := 13) rfl) rfl ?_
    refine b_getI (d213 (j := 14) rfl) rfl rfl rfl rfl (Or.inl rfl) ?_
    refine b_stk [uI (M 84 10)] rfl ?_
    refine b_iconst (d213 (j := 15) rfl) (by decide) ?_
    refine b_icmp_eq (d213 (j := 16) rfl) (fun c2 => ?_) (fun c2 => ?_)
    ·
      exact (k2 c1 c2)
    ·
      refine b_aload_n (d213 (j := 17) rfl) rfl ?_
      refine b_iconst (d213 (j := 18) rfl) (by decide) ?_
      refine b_callV (d213 (j := 19) rfl) rfl rfl (Or.inl rfl) rfl (bCk_mk (n := 0) (k := 2) (by decide +kernel) rfl rfl) ((hA1 c1 c2) _ (fun M1 hR1 => ?_))
      refine b_stk [] rfl ?_
      exact (k3 c1 c2 M1 hR1)
set_option maxRecDepth 100000 in
set_option maxHeartbeats 4000000 in
theorem r213n_41  {R1 : dsMem → Prop} {M : dsMem} {Q : bQT} (k1 : (¬ ((M 84 12) = 0)) → bB 213 52 [uR 11 84] [] M Q) (hA1 : (((M 84 12) = 0)) → bCt 197 [uR 11 84, uX 0] M (fun _ => []) R1) (k2 : (((M 84 12) = 0)) → ∀ M1 : dsMem, R1 M1 → bB 213 52 [uR 11 84] [] M1 Q) :
    bB 213 41 [uR 11 84] [] M Q := by
  refine b_aload_n (d213 (j := 20) rfl) rfl ?_
  refine b_callV (d213 (j := 21) rfl) rfl rfl (Or.inl rfl) rfl (bCk_mk (n := 0) (k := 1) (by decide +kernel) rfl rfl) (pu198  ?_)
  refine b_stk [uI (if ((M 84 12) = 0) then 1 else 0)] rfl ?_
  refine b_ifeqP (d213 (j := 22) rfl) (fun c1 => ?_) (fun c1 => ?_)
  ·
    exact (k1 c1)
  ·
    refine b_aload_n (d213 (j := 23) rfl) rfl ?_
    refine b_callV (d213 (j := 24) rfl) rfl rfl (Or.inl rfl) rfl (bCk_mk (n := 0) (k := 1) (by decide +kernel) rfl rfl) ((hA1 c1) _ (fun M1 hR1 => ?_))
    refine b_stk [] rfl ?_
    exact (k2 c1 M1 hR1)
set_option maxRecDepth 100000 in
set_option maxHeartbeats 4000000 in
theorem r213n_52   {M : dsMem} {Q : bQT} (s1 : -2147483648 ≤ ((M 90 8) + 1) ∧ ((M 90 8) + 1) < 2147483648 := by intros; omega) (k1 : Q [] (dsSet M 90 8 ((M 90 8) + 1))) :
    bB 213 52 [uR 11 84] [] M Q := by
  refine b_aload_n (d213 (j := 25) rfl) rfl ?_
  refine b_getR (d213 (j := 26) rfl) rfl rfl rfl rfl ?_
  refine b_stk [uR 38 90] rfl ?_
  refine b_bipush (d213 (j := 27) rfl) (by decide) ?_
  refine b_dup2 (d213 (j := 28) rfl) ?_
  refine b_iaload (d213 (j := 29) rfl) rfl (by decide) ?_
  refine b_iconst (d213 (j := 30) rfl) (by decide) ?_
  refine b_iadd (d213 (j := 31) rfl) rfl rfl ?_
  refine b_stk [uI ((M 90 8) + 1), uI 8, uR 38 90] (by rw [dsw_r s1]) ?_
  refine b_iastore (d213 (j := 32) rfl) rfl (by decide) ?_
  exact b_vret (d213 (j := 33) rfl) rfl k1
