/-! World.takeOver from an image -/
set_option maxRecDepth 100000 in
set_option maxHeartbeats 4000000 in
theorem r62n_0 {x0 x1 : Int} {R1 : dsMem → Prop} {R2 : dsMem → dsMem → Prop} {R3 : dsMem → dsMem → dsMem → Prop} {M : dsMem} {Q : bQT} (s1 : 0 ≤ x1 := by intros; omega) (hA1 : bCt 5 [uR 1 (x0 + 6), uR 1 (x1 + 6), uX 0] (dsCpy (dsCpy (dsCpy (dsCpy (dsCpy (dsSet (dsSet (dsSet (dsSet (dsSet (dsSet M x0 0 (M x1 0)) x0 1 ((dsSet M x0 0 (M x1 0)) x1 1)) x0 2 ((dsSet (dsSet M x0 0 (M x1 0)) x0 1 ((dsSet M x0 0 (M x1 0)) x1 1)) x1 2)) x0 3 ((dsSet (dsSet (dsSet M x0 0 (M x1 0)) x0 1 ((dsSet M x0 0 (M x1 0)) x1 1)) x0 2 ((dsSet (dsSet M x0 0 (M x1 0)) x0 1 ((dsSet M x0 0 (M x1 0)) x1 1)) x1 2)) x1 3)) x0 4 ((dsSet (dsSet (dsSet (dsSet M x0 0 (M x1 0)) x0 1 ((dsSet M x0 0 (M x1 0)) x1 1)) x0 2 ((dsSet (dsSet M x0 0 (M x1 0)) x0 1 ((dsSet M x0 0 (M x1 0)) x1 1)) x1 2)) x0 3 ((dsSet (dsSet (dsSet M x0 0 (M x1 0)) x0 1 ((dsSet M x0 0 (M x1 0)) x1 1)) x0 2 ((dsSet (dsSet M x0 0 (M x1 0)) x0 1 ((dsSet M x0 0 (M x1 0)) x1 1)) x1 2)) x1 3)) x1 4)) x0 5 ((dsSet (dsSet (dsSet (dsSet (dsSet M x0 0 (M x1 0)) x0 1 ((dsSet M x0 0 (M x1 0)) x1 1)) x0 2 ((dsSet (dsSet M x0 0 (M x1 0)) x0 1 ((dsSet M x0 0 (M x1 0)) x1 1)) x1 2)) x0 3 ((dsSet (dsSet (dsSet M x0 0 (M x1 0)) x0 1 ((dsSet M x0 0 (M x1 0)) x1 1)) x0 2 ((dsSet (dsSet M x0 0 (M x1 0)) x0 1 ((dsSet M x0 0 (M x1 0)) x1 1)) x1 2)) x1 3)) x0 4 ((dsSet (dsSet (dsSet (dsSet M x0 0 (M x1 0)) x0 1 ((dsSet M x0 0 (M x1 0)) x1 1)) x0 2 ((dsSet (dsSet M x0 0 (M x1 0)) x0 1 ((dsSet M x0 0 (M x1 0)) x1 1)) x1 2)) x0 3 ((dsSet (dsSet (dsSet M x0 0 (M x1 0)) x0 1 ((dsSet M x0 0 (M x1 0)) x1 1)) x0 2 ((dsSet (dsSet M x0 0 (M x1 0)) x0 1 ((dsSet M x0 0 (M x1 0)) x1 1)) x1 2)) x1 3)) x1 4)) x1 5)) (x1 + 1) 0 (x0 + 1) 0 3) (x1 + 2) 0 (x0 + 2) 0 3) (x1 + 3) 0 (x0 + 3) 0 6) (x1 + 4) 0 (x0 + 4) 0 6) (x1 + 5) 0 (x0 + 5) 0 6) (fun _ => []) R1) (hA2 : ∀ M1 : dsMem, R1 M1 → bCt 5 [uR 2 (x0 + 11), uR 2 (x1 + 11), uX 0] M1 (fun _ => []) (R2 M1)) (hA3 : ∀ M1 : dsMem, R1 M1 → ∀ M2 : dsMem, R2 M1 M2 → bCt 5 [uR 3 (x0 + 16), uR 3 (x1 + 16), uX 0] M2 (fun _ => []) (R3 M1 M2)) (k1 : ∀ M1 : dsMem, R1 M1 → ∀ M2 : dsMem, R2 M1 M2 → ∀ M3 : dsMem, R3 M1 M2 M3 → Q [] M3) :
    bB 62 0 [uR 4 x0, uR 12 x1] [] M Q := by
  refine b_aload_n (d62 (j := 0) rfl) rfl ?_
  refine b_aload_n (d62 (j := 1) rfl) rfl ?_
  refine b_getIN (d62 (j := 2) rfl) rfl rfl s1 rfl (Or.inl rfl) ?_
  refine b_stk [uI (M x1 0), uR 4 x0] rfl ?_
  refine b_putI (d62 (j := 3) rfl) rfl ⟨rfl, rfl⟩ rfl rfl ?_
  refine b_aload_n (d62 (j := 4) rfl) rfl ?_
  refine b_aload_n (d62 (j := 5) rfl) rfl ?_
  refine b_getIN (d62 (j := 6) rfl) rfl rfl s1 rfl (Or.inl rfl) ?_
  refine b_stk [uI ((dsSet M x0 0 (M x1 0)) x1 1), uR 4 x0] rfl ?_
  refine b_putI (d62 (j := 7) rfl) rfl ⟨rfl, rfl⟩ rfl rfl ?_
  refine b_aload_n (d62 (j := 8) rfl) rfl ?_
  refine b_aload_n (d62 (j := 9) rfl) rfl ?_
  refine b_getIN (d62 (j := 10) rfl) rfl rfl s1 rfl (Or.inl rfl) ?_
  refine b_stk [uI ((dsSet (dsSet M x0 0 (M x1 0)) x0 1 ((dsSet M x0 0 (M x1 0)) x1 1)) x1 2), uR 4 x0] rfl ?_
  refine b_putI (d62 (j := 11) rfl) rfl ⟨rfl, rfl⟩ rfl rfl ?_
  refine b_aload_n (d62 (j := 12) rfl) rfl ?_
  refine b_aload_n (d62 (j := 13) rfl) rfl ?_
  refine b_getIN (d62 (j := 14) rfl) rfl rfl s1 rfl (Or.inl rfl) ?_
  refine b_stk [uI ((dsSet (dsSet (dsSet M x0 0 (M x1 0)) x0 1 ((dsSet M x0 0 (M x1 0)) x1 1)) x0 2 ((dsSet (dsSet M x0 0 (M x1 0)) x0 1 ((dsSet M x0 0 (M x1 0)) x1 1)) x1 2)) x1 3), uR 4 x0] rfl ?_
  refine b_putI (d62 (j := 15) rfl) rfl ⟨rfl, rfl⟩ rfl rfl ?_
  refine b_aload_n (d62 (j := 16) rfl) rfl ?_
  refine b_aload_n (d62 (j := 17) rfl) rfl ?_
  refine b_getIN (d62 (j := 18) rfl) rfl rfl s1 rfl (Or.inl rfl) ?_
  refine b_stk [uI ((dsSet (dsSet (dsSet (dsSet M x0 0 (M x1 0)) x0 1 ((dsSet M x0 0 (M x1 0)) x1 1)) x0 2 ((dsSet (dsSet M x0 0 (M x1 0)) x0 1 ((dsSet M x0 0 (M x1 0)) x1 1)) x1 2)) x0 3 ((dsSet (dsSet (dsSet M x0 0 (M x1 0)) x0 1 ((dsSet M x0 0 (M x1 0)) x1 1)) x0 2 ((dsSet (dsSet M x0 0 (M x1 0)) x0 1 ((dsSet M x0 0 (M x1 0)) x1 1)) x1 2)) x1 3)) x1 4), uR 4 x0] rfl ?_
  refine b_putI (d62 (j := 19) rfl) rfl ⟨rfl, rfl⟩ rfl rfl ?_
  refine b_aload_n (d62 (j := 20) rfl) rfl ?_
  refine b_aload_n (d62 (j := 21) rfl) rfl ?_
  refine b_getIN (d62 (j := 22) rfl) rfl rfl s1 rfl (Or.inl rfl) ?_
  refine b_stk [uI ((dsSet (dsSet (dsSet (dsSet (dsSet M x0 0 (M x1 0)) x0 1 ((dsSet M x0 0 (M x1 0)) x1 1)) x0 2 ((dsSet (dsSet M x0 0 (M x1 0)) x0 1 ((dsSet M x0 0 (M x1 0)) x1 1)) x1 2)) x0 3 ((dsSet (dsSet (dsSet M x0 0 (M x1 0)) x0 1 ((dsSet M x0 0 (M x1 0)) x1 1)) x0 2 ((dsSet (dsSet M x0 0 (M x1 0)) x0 1 ((dsSet M x0 0 (M x1 0)) x1 1)) x1 2)) x1 3)) x0 4 ((dsSet (dsSet (dsSet (dsSet M x0 0 (M x1 0)) x0 1 ((dsSet M x0 0 (M x1 0)) x1 1)) x0 2 ((dsSet (dsSet M x0 0 (M x1 0)) x0 1 ((dsSet M x0 0 (M x1 0)) x1 1)) x1 2)) x0 3 ((dsSet (dsSet (dsSet M x0 0 (M x1 0)) x0 1 ((dsSet M x0 0 (M x1 0)) x1 1)) x0 2 ((dsSet (dsSet M x0 0 (M x1 0)) x0 1 ((dsSet M x0 0 (M x1 0)) x1 1)) x1 2)) x1 3)) x1 4)) x1 5), uR 4 x0] rfl ?_
  refine b_putI (d62 (j := 23) rfl) rfl ⟨rfl, rfl⟩ rfl rfl ?_
  refine b_aload_n (d62 (j := 24) rfl) rfl ?_
  refine b_getRN (d62 (j := 25) rfl) rfl rfl s1 rfl ?_
  refine b_iconst (d62 (j := 26) rfl) (by decide) ?_
  refine b_aload_n (d62 (j := 27) rfl) rfl ?_
  refine b_getR (d62 (j := 28) rfl) rfl rfl rfl rfl ?_
  refine b_iconst (d62 (j := 29) rfl) (by decide) ?_
  refine b_iconst (d62 (j := 30) rfl) (by decide) ?_
  refine b_copy (d62 (j := 31) rfl) rfl (by decide) (by decide) ?_
  refine b_aload_n (d62 (j := 32) rfl) rfl ?_
  refine b_getRN (d62 (j := 33) rfl) rfl rfl s1 rfl ?_
  refine b_iconst (d62 (j := 34) rfl) (by decide) ?_
  refine b_aload_n (d62 (j := 35) rfl) rfl ?_
  refine b_getR (d62 (j := 36) rfl) rfl rfl rfl rfl ?_
  refine b_iconst (d62 (j := 37) rfl) (by decide) ?_
  refine b_iconst (d62 (j := 38) rfl) (by decide) ?_
  refine b_copy (d62 (j := 39) rfl) rfl (by decide) (by decide) ?_
  refine b_aload_n (d62 (j := 40) rfl) rfl ?_
  refine b_getRN (d62 (j := 41) rfl) rfl rfl s1 rfl ?_
  refine b_iconst (d62 (j := 42) rfl) (by decide) ?_
  refine b_aload_n (d62 (j := 43) rfl) rfl ?_
  refine b_getR (d62 (j := 44) rfl) rfl rfl rfl rfl ?_
  refine b_iconst (d62 (j := 45) rfl) (by decide) ?_
  refine b_bipush (d62 (j := 46) rfl) (by decide) ?_
  refine b_copy (d62 (j := 47) rfl) rfl (by decide) (by decide) ?_
  refine b_aload_n (d62 (j := 48) rfl) rfl ?_
  refine b_getRN (d62 (j := 49) rfl) rfl rfl s1 rfl ?_
  refine b_iconst (d62 (j := 50) rfl) (by decide) ?_
  refine b_aload_n (d62 (j := 51) rfl) rfl ?_
  refine b_getR (d62 (j := 52) rfl) rfl rfl rfl rfl ?_
  refine b_iconst (d62 (j := 53) rfl) (by decide) ?_
  refine b_bipush (d62 (j := 54) rfl) (by decide) ?_
  refine b_copy (d62 (j := 55) rfl) rfl (by decide) (by decide) ?_
  refine b_aload_n (d62 (j := 56) rfl) rfl ?_
  refine b_getRN (d62 (j := 57) rfl) rfl rfl s1 rfl ?_
  refine b_iconst (d62 (j := 58) rfl) (by decide) ?_
  refine b_aload_n (d62 (j := 59) rfl) rfl ?_
  refine b_getR (d62 (j := 60) rfl) rfl rfl rfl rfl ?_
  refine b_iconst (d62 (j := 61) rfl) (by decide) ?_
  refine b_bipush (d62 (j := 62) rfl) (by decide) ?_
  refine b_copy (d62 (j := 63) rfl) rfl (by decide) (by decide) ?_
  refine b_aload_n (d62 (j := 64) rfl) rfl ?_
  refine b_getR (d62 (j := 65) rfl) rfl rfl rfl rfl ?_
  refine b_aload_n (d62 (j := 66) rfl) rfl ?_
  refine b_getRN (d62 (j := 67) rfl) rfl rfl s1 rfl ?_
  refine b_callV (d62 (j := 68) rfl) rfl rfl (Or.inl rfl) rfl (bCk_mk (n := 0) (k := 2) (by decide +kernel) rfl rfl) ((hA1) _ (fun M1 hR1 => ?_))
  refine b_stk [] rfl ?_
  refine b_aload_n (d62 (j := 69) rfl) rfl ?_
  refine b_getR (d62 (j := 70) rfl) rfl rfl rfl rfl ?_
  refine b_aload_n (d62 (j := 71) rfl) rfl ?_
  refine b_getRN (d62 (j := 72) rfl) rfl rfl s1 rfl ?_
  refine b_callV (d62 (j := 73) rfl) rfl rfl (Or.inl rfl) rfl (bCk_mk (n := 0) (k := 2) (by decide +kernel) rfl rfl) ((hA2 M1 hR1) _ (fun M2 hR2 => ?_))
  refine b_stk [] rfl ?_
  refine b_aload_n (d62 (j := 74) rfl) rfl ?_
  refine b_getR (d62 (j := 75) rfl) rfl rfl rfl rfl ?_
  refine b_aload_n (d62 (j := 76) rfl) rfl ?_
  refine b_getRN (d62 (j := 77) rfl) rfl rfl s1 rfl ?_
  refine b_callV (d62 (j := 78) rfl) rfl rfl (Or.inl rfl) rfl (bCk_mk (n := 0) (k := 2) (by decide +kernel) rfl rfl) ((hA3 M1 hR1 M2 hR2) _ (fun M3 hR3 => ?_))
  refine b_stk [] rfl ?_
  exact b_vret (d62 (j := 79) rfl) rfl (k1 M1 hR1 M2 hR2 M3 hR3)
