/-! the class's row and image, whole -/
theorem zG_out {G : Int → Nat} {N a : Int} {ks : List Nat} (h : a < N) : zG G N ks a = G a := by
  unfold zG
  rw [if_neg (by omega)]
theorem zG_at {G : Int → Nat} {N : Int} {ks : List Nat} {i : Nat} (h : i < ks.length) : zG G N ks (N + (i : Int)) = ks.getD i 99 := by
  unfold zG
  rw [if_pos ⟨by omega, by omega⟩, show (N + (i : Int) - N).toNat = i by omega]
theorem zG_up {G : Int → Nat} {N a : Int} {ks : List Nat} (h : N + (ks.length : Int) ≤ a) (hG : ∀ a, N ≤ a → G a = 99) : zG G N ks a = 99 := by
  unfold zG
  rw [if_neg (by omega)]
  exact hG a (by omega)
set_option maxHeartbeats 2000000 in
theorem c141 {G : Int → Nat} {M : dsMem} {F : Int → Int} {s r : gST} {t w n : Int} {K : dsQT} (h : JN G M F s r)
    (hK : ∀ G' M', JN G' M' F (gW s, nRw (gS s) t w n, s.2.2) r → K [vI (aRw t w n)] M') : dsA 141 0 (dsIn 141 [vR 0, vI t, vI w, vI n]) [] (0, 0) M K := by
  show dsA 141 0 [vR 0, vI t, vI w, vI n, vX 0] [] (0, 0) M K
  obtain ⟨hL, ⟨⟨a1, a2, a3, a4, a5, a6⟩, hneg⟩, hC, hR, hF⟩ := id h
  have no : ¬ okRw t w n → ∀ v, aRw t w n = v → K [vI v] M := fun q v e => by
    have z := hK G M (by unfold nRw; rw [if_neg q]; exact h)
    rw [e] at z
    exact z
  have f2 : ¬ ((0 ≤ t ∧ t ≤ 3) ∧ (0 ≤ w ∧ w ≤ 3) ∧ n ≤ 60) → dsA 141 22 [vR 0, vI t, vI w, vI n, vX 0] [] (0, 0) M K := fun q =>
    a_bipush (d141 (j := 11) rfl) (by decide) (a_ireturn (d141 (j := 12) rfl) rfl (no (fun z => q ⟨z.1, z.2.1, z.2.2.2⟩) _ (by unfold aRw; rw [if_neg q])))
  have fin : ∀ (G1 : Int → Nat) (M1 : dsMem) (x : Int) (u1 : Nat × Nat), (u1.1 + dsMc 40 ≤ dsMc 141 ∧ u1.2 + dsMs 40 ≤ dsMs 141) → Lay G1 M1 → G1 x = 9 → (∀ M', Lay G1 M' → (M' x 0 = w ∧ M' x 1 = n ∧ (∀ j, 0 ≤ j → j < 60 → M' (x + 1) j = 0) ∧ Fr (fun a _ => a = x ∨ a = x + 1) M1 M') → K [vI 0] M') → dsA 141 62 [vR 0, vI t, vI w, vI n, vR x] [] u1 M1 K := by
    intro G1 M1 x u1 hu hL1 hg1 hk
    refine a_aload (d141 (j := 33) rfl) rfl ?_
    refine a_iload_n (d141 (j := 34) rfl) rfl ?_
    refine a_iload_n (d141 (j := 35) rfl) rfl ?_
    refine a_call (t := 40) (a := x) (as := [vI w, vI n]) (r := []) (d141 (j := 36) rfl) rfl rfl ((Lay_o hL1 hg1 (by decide)).trans (by decide +kernel)) ⟨by decide +kernel, Nat.le_of_ble_eq_true rfl, (show 3 ≤ dsMx 40 by decide +kernel)⟩ hu ?_
    refine a_ct (as := [uR 9 x, uI w, uI n]) hL1 ⟨Vd_k hg1 (by decide) rfl, trivial, trivial, trivial⟩ (show 3 ≤ dsMx 40 by decide +kernel) rfl rbegin_ct (fun M' hL' hR => ?_)
    exact a_iconst (d141 (j := 37) rfl) (by decide) (a_ireturn (d141 (j := 38) rfl) rfl (hk M' hL' hR))
  refine a_iload_n (d141 (j := 0) rfl) rfl ?_
  refine a_calls (t := 148) (as := [vI t]) (r := []) (d141 (j := 1) rfl) (Or.inl rfl) rfl ⟨by decide +kernel, Nat.le_of_ble_eq_true rfl, (show 1 ≤ dsMx 148 by decide +kernel)⟩ ⟨by decide +kernel, by decide +kernel⟩ (0, 0) (by decide +kernel) ?_
  refine a_ct (as := [uI t]) hL ⟨trivial, trivial⟩ (show 1 ≤ dsMx 148 by decide +kernel) rfl slot_ct (fun M' hL' e => ?_)
  rw [e]
  show dsA 141 4 [vR 0, vI t, vI w, vI n, vX 0] [vI (if 0 ≤ t ∧ t ≤ 3 then 1 else 0)] (0, 0) M K
  refine a_ifeq (d141 (j := 2) rfl) (fun q => f2 (fun z => by rw [if_pos z.1] at q; cases q)) (fun q => ?_)
  have qt : 0 ≤ t ∧ t ≤ 3 := by
    by_cases z : 0 ≤ t ∧ t ≤ 3
    · exact z
    · rw [if_neg z] at q; exact absurd rfl q
  refine a_iload_n (d141 (j := 3) rfl) rfl ?_
  refine a_iconst (d141 (j := 4) rfl) (by decide) ?_
  refine a_iconst (d141 (j := 5) rfl) (by decide) ?_
  refine a_calls (t := 144) (as := [vI w, vI 0, vI 3]) (r := []) (d141 (j := 6) rfl) (Or.inl rfl) rfl ⟨by decide +kernel, Nat.le_of_ble_eq_true rfl, (show 3 ≤ dsMx 144 by decide +kernel)⟩ ⟨by decide +kernel, by decide +kernel⟩ (0, 0) (by decide +kernel) ?_
  refine a_ct (as := [uI w, uI 0, uI 3]) hL ⟨trivial, trivial, trivial, trivial⟩ (show 3 ≤ dsMx 144 by decide +kernel) rfl within_ct (fun M' hL' e => ?_)
  rw [e]
  show dsA 141 13 [vR 0, vI t, vI w, vI n, vX 0] [vI (if 0 ≤ w ∧ w ≤ 3 then 1 else 0)] (0, 0) M K
  refine a_ifeq (d141 (j := 7) rfl) (fun q => f2 (fun z => by rw [if_pos z.2.1] at q; cases q)) (fun q => ?_)
  have qw : 0 ≤ w ∧ w ≤ 3 := by
    by_cases z : 0 ≤ w ∧ w ≤ 3
    · exact z
    · rw [if_neg z] at q; exact absurd rfl q
  refine a_iload_n (d141 (j := 8) rfl) rfl ?_
  refine a_bipush (d141 (j := 9) rfl) (by decide) ?_
  refine a_icmp_le (d141 (j := 10) rfl) (fun qn => ?_) (fun qn => f2 (fun z => qn z.2.2))
  refine a_iload_n (d141 (j := 13) rfl) rfl ?_
  refine a_ifge (d141 (j := 14) rfl) (fun qm => ?_) (fun qm => a_bipush (d141 (j := 15) rfl) (by decide) (a_ireturn (d141 (j := 16) rfl) rfl (no (fun z => qm z.2.2.1) _ (by unfold aRw; rw [if_pos ⟨qt, qw, qn⟩, if_neg qm]))))
  have ok : okRw t w n := ⟨qt, qw, qm, qn⟩
  have yes : ∀ G' M', JN G' M' F (gW s, dsUpd (gS s) t (n, w, fun _ => 0), s.2.2) r → K [vI 0] M' := fun G' M' z => by
    have z2 := hK G' M' (by unfold nRw; rw [if_pos ok]; exact z)
    rw [show aRw t w n = 0 by unfold aRw; rw [if_pos ⟨qt, qw, qn⟩, if_pos qm]] at z2
    exact z2
  have e4 := Lay_f (k := 4) hL a3 (by decide) rfl
  have e40 : M 0 4 = 46 := e4.1
  have g46 : G 46 = 36 := e4.2
  have m0 : M 0 (-1) = ((8 : Nat) : Int) := (Lay_o hL a3 (by decide)).trans (by decide +kernel)
  have m46 : M 46 (-1) = 105 := (Lay_o hL g46 (by decide)).trans (by decide +kernel)
  have n46 : M 46 (-2) = 4 := (Lay_n hL g46 (by decide) (by decide)).trans (by decide +kernel)
  refine a_aload_n (d141 (j := 17) rfl) rfl ?_
  refine a_getfield (c := 8) (j := 4) (d141 (j := 18) rfl) rfl m0 ?_
  show dsA 141 36 [vR 0, vI t, vI w, vI n, vX 0] [vR (M 0 4)] (0, 0) M K
  rw [e40]
  refine a_iload_n (d141 (j := 19) rfl) rfl ?_
  refine a_aaload (d141 (j := 20) rfl) ⟨Or.inr m46, qt.1, by omega⟩ ?_
  refine a_astore (i := 4) [vR 0, vI t, vI w, vI n, vR (M 46 t)] (d141 (j := 21) rfl) (by decide +kernel) rfl ?_
  refine a_aload (d141 (j := 22) rfl) rfl ?_
  refine a_ifnonnull (d141 (j := 23) rfl) (fun q3 => ?_) (fun q3 => ?_)
  · have sl := CSl_at hC.2.1 qt q3
    have gx : G (M 46 t) = 9 := by
      rcases (hL.2 46 (by rw [g46]; decide)).2 (by rw [g46]; rfl) t qt.1 (by rw [g46]; show t < 4; omega) with z | z
      · exact absurd z q3
      · exact z
    refine fin G M (M 46 t) (0, 0) ⟨by decide +kernel, by decide +kernel⟩ hL gx (fun M' hL' hv => yes G M' ?_)
    obtain ⟨v1, v2, v3, v4⟩ := hv
    have eN : M' (-1) 0 = M (-1) 0 := v4 _ _ (by omega)
    have hx5 := a5 t qt.1 (by omega) sl.1
    refine row_fin h ok hL' ⟨fun a q => a2 a (by omega), a3, a4, hneg⟩ (by omega) ⟨sl.2.2.2.2.1, by omega⟩ (v4 _ _ (by omega)) (fun u u0 u1 q n0 => ?_) (fun k k0 k1 i1 => hC.2.2.1.2.2 k t k0 k1 qt.1 (by omega) i1 sl.1) ⟨v1, v2, v3⟩ (fun a j q1 q2 q3 q4 => v4 a j (by omega))
    have z1 := hC.2.1.2 t u qt.1 (by omega) u0 u1 (Ne.symm q) sl.1 n0
    have z2 := hC.2.1.2 u t u0 u1 qt.1 (by omega) q n0 sl.1
    omega
  · refine a_new (c := 5) (d141 (j := 24) rfl) rfl ⟨by decide +kernel, by decide +kernel⟩ ?_
    refine a_dupR (d141 (j := 25) rfl) ?_
    refine a_init (t := 39) (a := M (-1) 0) (as := []) (r := [vR (M (-1) 0)]) (d141 (j := 26) rfl) (Or.inr rfl) rfl (by omega) ⟨by decide +kernel, Nat.le_of_ble_eq_true rfl, (show 1 ≤ dsMx 39 by decide +kernel)⟩ ⟨by decide +kernel, by decide +kernel⟩ ?_
    have h2 : zB M (M (-1) 0) [(5, 0, 0, [0, 0, -1])] (dsNewO M 5) := zB_obj (cs := []) (c := 5) (fs := [0, 0, -1]) zB_nil (by omega) (by decide) (by decide +kernel)
    refine ct39 (a := M (-1) 0) (by omega) h2 (fun M2 hB => ?_)
    obtain ⟨N, hN⟩ : ∃ N, N = M (-1) 0 := ⟨_, rfl⟩
    rw [← hN] at hB a1 a2 a5 a6
    show dsA 141 52 [vR 0, vI t, vI w, vI n, vR (M 46 t)] [vR (M (-1) 0)] _ M2 K
    rw [← hN]
    have o2 : ∀ a j, a < N → a ≠ -1 → M2 a j = M a j := fun a j q1 q2 => hB.2.2 a j (by omega) (by omega)
    have b2 : M2 (-1) 0 = N + 2 := hB.1
    have L1 : Lay (zG G N [9, 34]) M2 := Lay_ext (z := false) (bt := [(5, 0, 0, [(false, 0), (false, 0), (true, 1)]), (103, 60, 0, [])]) hL a2 (by omega) (fun q => by cases q) rfl hB rfl (hneg _ (by omega)) (by decide +kernel)
    have gN : zG G N [9, 34] N = 9 := by
      have := zG_at (G := G) (N := N) (ks := [9, 34]) (i := 0) (by decide)
      simpa using this
    refine a_astore (i := 4) [vR 0, vI t, vI w, vI n, vR N] (d141 (j := 27) rfl) (by decide +kernel) rfl ?_
    refine a_aload_n (d141 (j := 28) rfl) rfl ?_
    refine a_getfield (c := 8) (j := 4) (d141 (j := 29) rfl) rfl (by rw [o2 _ _ (by omega) (by omega)]; exact m0) ?_
    show dsA 141 58 [vR 0, vI t, vI w, vI n, vR N] [vR (M2 0 4)] _ M2 K
    rw [o2 0 4 (by omega) (by omega), e40]
    refine a_iload_n (d141 (j := 30) rfl) rfl ?_
    refine a_aload (d141 (j := 31) rfl) rfl ?_
    refine a_aastore (d141 (j := 32) rfl) ⟨Or.inr ⟨by rw [o2 _ _ (by omega) (by omega)]; exact m46, (Lay_o L1 gN (by decide)).trans (by decide +kernel)⟩, qt.1, by rw [o2 _ _ (by omega) (by omega)]; omega⟩ ?_
    refine fin (zG G N [9, 34]) (dsSet M2 46 t N) N _ ⟨by decide +kernel, by decide +kernel⟩ (Lay_aset L1 (Or.inr ⟨by rw [zG_out (by omega)]; exact g46, gN⟩) qt.1) gN (fun M' hL' hv => yes (zG G N [9, 34]) M' ?_)
    obtain ⟨v1, v2, v3, v4⟩ := hv
    have eN : M' (-1) 0 = N + 2 := by rw [v4 _ _ (by omega), dsSet_ne (by omega)]; exact b2
    have hnn : slN (gS s) t = -1 := by
      rcases hC.2.1.1 t qt.1 (by omega) with z | z
      · exact z.1
      · omega
    refine row_fin h ok hL' ⟨fun a q => zG_up (by show N + 2 ≤ a; omega) a2, by rw [zG_out (by omega)]; exact a3, by rw [zG_out (by omega)]; exact a4, fun a q => by rw [zG_out (by omega)]; exact hneg a q⟩ (by omega) ⟨a1, by omega⟩ ?_ (fun u u0 u1 q n0 => ?_) (fun k k0 k1 i1 => ?_) ⟨v1, v2, v3⟩ (fun a j q1 q2 q3 q4 => ?_)
    · rw [v4 _ _ (by omega), dsSet_at, if_pos rfl]
    · have := a5 u u0 u1 n0
      omega
    · have := a6 k k0 k1 i1
      omega
    · rw [v4 a j (by omega)]
      by_cases e : a = 46
      · subst e
        rw [dsSet_at, if_neg (by omega)]
        exact o2 _ _ (by omega) (by omega)
      · rw [dsSet_ne e]
        exact hB.2.2 a j (by show ¬ (N ≤ a ∧ a < N + 2); omega) q4
set_option maxHeartbeats 2000000 in
theorem c139 {G : Int → Nat} {M : dsMem} {F : Int → Int} {s r : gST} {k : Int} {K : dsQT} (h : JN G M F s r)
    (hK : ∀ G' M', JN G' M' F (gW s, gS s, nIm (gW s) (gI s) k, s.2.2.2) r → K [vI (aIm k)] M') : dsA 139 0 (dsIn 139 [vR 0, vI k]) [] (0, 0) M K := by
  show dsA 139 0 [vR 0, vI k, vX 0] [] (0, 0) M K
  obtain ⟨hL, ⟨⟨a1, a2, a3, a4, a5, a6⟩, hneg⟩, hC, hR, hF⟩ := id h
  have fin : ∀ (G1 : Int → Nat) (M1 : dsMem) (x : Int) (u1 : Nat × Nat), (u1.1 + dsMc 62 ≤ dsMc 139 ∧ u1.2 + dsMs 62 ≤ dsMs 139) → Lay G1 M1 → G1 0 = 10 → G1 x = 4 → 115 ≤ x → C24 M1 (gW s) → (∀ M', Lay G1 M' → (CWd M' x (gW s) ∧ Fr (fun a _ => x ≤ a ∧ a ≤ x + 20) M1 M') → K [vI 0] M') → dsA 139 38 [vR 0, vI k, vR x] [] u1 M1 K := by
    intro G1 M1 x u1 hu hL1 hg0 hg1 hx hc24 hk
    have e2 := Lay_f (k := 2) hL1 hg0 (by decide) rfl
    have e20 : M1 0 2 = 24 := e2.1
    have g24 : G1 24 = 4 := e2.2
    refine a_aload_n (d139 (j := 23) rfl) rfl ?_
    refine a_aload_n (d139 (j := 24) rfl) rfl ?_
    refine a_getfield (c := 8) (j := 2) (d139 (j := 25) rfl) rfl ((Lay_o hL1 hg0 (by decide)).trans (by decide +kernel)) ?_
    show dsA 139 43 [vR 0, vI k, vR x] [vR (M1 0 2), vR x] u1 M1 K
    rw [e20]
    refine a_call (t := 62) (a := x) (as := [vR 24]) (r := []) (d139 (j := 26) rfl) rfl rfl ((Lay_o hL1 hg1 (by decide)).trans (by decide +kernel)) ⟨by decide +kernel, Nat.le_of_ble_eq_true rfl, (show 2 ≤ dsMx 62 by decide +kernel)⟩ hu ?_
    refine a_ct (as := [uR 4 x, uR 4 24]) hL1 ⟨Vd_k hg1 (by decide) rfl, Vd_k g24 (by decide) rfl, trivial⟩ (show 2 ≤ dsMx 62 by decide +kernel) rfl (take_ct hC.1.1 (C24_iff.2 hc24) (by omega)) (fun M' hL' hR => ?_)
    exact a_iconst (d139 (j := 27) rfl) (by decide) (a_ireturn (d139 (j := 28) rfl) rfl (hk M' hL' hR))
  refine a_iload_n (d139 (j := 0) rfl) rfl ?_
  refine a_iconst (d139 (j := 1) rfl) (by decide) ?_
  refine a_iconst (d139 (j := 2) rfl) (by decide) ?_
  refine a_calls (t := 144) (as := [vI k, vI 0, vI 2]) (r := []) (d139 (j := 3) rfl) (Or.inl rfl) rfl ⟨by decide +kernel, Nat.le_of_ble_eq_true rfl, (show 3 ≤ dsMx 144 by decide +kernel)⟩ ⟨by decide +kernel, by decide +kernel⟩ (0, 0) (by decide +kernel) ?_
  refine a_ct (as := [uI k, uI 0, uI 2]) hL ⟨trivial, trivial, trivial, trivial⟩ (show 3 ≤ dsMx 144 by decide +kernel) rfl within_ct (fun M' hL' e => ?_)
  rw [e]
  show dsA 139 6 [vR 0, vI k, vX 0] [vI (if 0 ≤ k ∧ k ≤ 2 then 1 else 0)] (0, 0) M K
  have bad : ¬ ¬ (if 0 ≤ k ∧ k ≤ 2 then (1 : Int) else 0) = 0 → dsA 139 9 [vR 0, vI k, vX 0] [] (0, 0) M K := by
    intro q
    have qk : ¬ (0 ≤ k ∧ k ≤ 2) := fun z => by rw [if_pos z] at q; exact q (by decide)
    refine a_bipush (d139 (j := 5) rfl) (by decide) (a_ireturn (d139 (j := 6) rfl) rfl ?_)
    have z := hK G M (by unfold nIm; rw [if_neg qk]; exact h)
    rw [show aIm k = -2 by unfold aIm; rw [if_neg qk]] at z
    exact z
  refine a_ifne (d139 (j := 4) rfl) (fun q => ?_) bad
  have qk : 0 ≤ k ∧ k ≤ 2 := by
    by_cases z : 0 ≤ k ∧ k ≤ 2
    · exact z
    · rw [if_neg z] at q; exact absurd rfl q
  have yes : ∀ G' M', JN G' M' F (gW s, gS s, dsUpd (gI s) k (1, gW s), s.2.2.2) r → K [vI 0] M' := fun G' M' z => by
    have z2 := hK G' M' (by unfold nIm; rw [if_pos qk]; exact z)
    rw [show aIm k = 0 by unfold aIm; rw [if_pos qk]] at z2
    exact z2
  have e3 := Lay_f (k := 3) hL a3 (by decide) rfl
  have e30 : M 0 3 = 45 := e3.1
  have g45 : G 45 = 35 := e3.2
  have m0 : M 0 (-1) = ((8 : Nat) : Int) := (Lay_o hL a3 (by decide)).trans (by decide +kernel)
  have m45 : M 45 (-1) = 104 := (Lay_o hL g45 (by decide)).trans (by decide +kernel)
  have n45 : M 45 (-2) = 3 := (Lay_n hL g45 (by decide) (by decide)).trans (by decide +kernel)
  refine a_aload_n (d139 (j := 7) rfl) rfl ?_
  refine a_getfield (c := 8) (j := 3) (d139 (j := 8) rfl) rfl m0 ?_
  show dsA 139 16 [vR 0, vI k, vX 0] [vR (M 0 3)] (0, 0) M K
  rw [e30]
  refine a_iload_n (d139 (j := 9) rfl) rfl ?_
  refine a_aaload (d139 (j := 10) rfl) ⟨Or.inl m45, qk.1, by omega⟩ ?_
  refine a_astore_n [vR 0, vI k, vR (M 45 k)] (d139 (j := 11) rfl) (by decide +kernel) rfl ?_
  refine a_aload_n (d139 (j := 12) rfl) rfl ?_
  refine a_ifnonnull (d139 (j := 13) rfl) (fun q3 => ?_) (fun q3 => ?_)
  · have im : (gI s k).1 = 1 ∧ WOK (gI s k).2 ∧ 115 ≤ M 45 k ∧ CWd M (M 45 k) (gI s k).2 := by
      rcases hC.2.2.1.1 k qk.1 (by omega) with z | z
      · omega
      · exact z
    have gx : G (M 45 k) = 4 := by
      rcases (hL.2 45 (by rw [g45]; decide)).1 (by rw [g45]; rfl) k qk.1 (by rw [g45]; show k < 3; omega) with z | z
      · exact absurd z q3
      · exact z
    refine fin G M (M 45 k) (0, 0) ⟨by decide +kernel, by decide +kernel⟩ hL a3 gx im.2.2.1 hC.1.2.1 (fun M' hL' hv => yes G M' ?_)
    obtain ⟨v1, v4⟩ := hv
    have eN : M' (-1) 0 = M (-1) 0 := v4 _ _ (by omega)
    have hx5 := a6 k qk.1 (by omega) im.1
    exact img_fin h qk hL' ⟨fun a q => a2 a (by omega), a3, a4, hneg⟩ (by omega) ⟨im.2.2.1, by omega⟩ (v4 _ _ (by omega)) (fun l l0 l1 q i1 => hC.2.2.1.2.1 l k l0 l1 qk.1 (by omega) q i1 im.1) (fun u u0 u1 n0 => hC.2.2.1.2.2 k u qk.1 (by omega) u0 u1 im.1 n0) v1 (fun a j q1 q2 q4 => v4 a j (by omega))
  · refine a_new (c := 7) (d139 (j := 14) rfl) rfl ⟨by decide +kernel, by decide +kernel⟩ ?_
    refine a_dupR (d139 (j := 15) rfl) ?_
    refine a_init (t := 60) (a := M (-1) 0) (as := []) (r := [vR (M (-1) 0)]) (d139 (j := 16) rfl) (Or.inr rfl) rfl (by omega) ⟨by decide +kernel, Nat.le_of_ble_eq_true rfl, (show 1 ≤ dsMx 60 by decide +kernel)⟩ ⟨by decide +kernel, by decide +kernel⟩ ?_
    have h2 : zB M (M (-1) 0) [(7, 0, 0, [0, 0, 0, 0, 0, 0, -1, -1, -1, -1, -1, -1, -1, -1])] (dsNewO M 7) := zB_obj (cs := []) (c := 7) (fs := [0, 0, 0, 0, 0, 0, -1, -1, -1, -1, -1, -1, -1, -1]) zB_nil (by omega) (by decide) (by decide +kernel)
    refine ct60 (a := M (-1) 0) (by omega) h2 (fun M2 hB => ?_)
    obtain ⟨N, hN⟩ : ∃ N, N = M (-1) 0 := ⟨_, rfl⟩
    rw [← hN] at hB a1 a2 a5 a6
    show dsA 139 30 [vR 0, vI k, vR (M 45 k)] [vR (M (-1) 0)] _ M2 K
    rw [← hN]
    have o2 : ∀ a j, a < N → a ≠ -1 → M2 a j = M a j := fun a j q1 q2 => hB.2.2 a j (by omega) (by omega)
    have b2 : M2 (-1) 0 = N + 21 := hB.1
    have L1 : Lay (zG G N [4, 23, 23, 21, 21, 21, 1, 20, 20, 20, 20, 2, 21, 21, 21, 21, 3, 22, 22, 22, 22]) M2 := Lay_ext (z := false) (bt := [(7, 0, 0, [(false, 0), (false, 0), (false, 0), (false, 0), (false, 0), (false, 0), (true, 1), (true, 2), (true, 3), (true, 4), (true, 5), (true, 6), (true, 11), (true, 16)]), (100, 3, 0, []), (100, 3, 0, []), (100, 6, 0, []), (100, 6, 0, []), (100, 6, 0, []), (1, 0, 0, [(false, 0), (true, 7), (true, 8), (true, 9), (true, 10)]), (100, 8, 0, []), (100, 8, 0, []), (100, 8, 0, []), (100, 8, 0, []), (1, 0, 0, [(false, 0), (true, 12), (true, 13), (true, 14), (true, 15)]), (100, 6, 0, []), (100, 6, 0, []), (100, 6, 0, []), (100, 6, 0, []), (1, 0, 0, [(false, 0), (true, 17), (true, 18), (true, 19), (true, 20)]), (100, 30, 0, []), (100, 30, 0, []), (100, 30, 0, []), (100, 30, 0, [])]) hL a2 (by omega) (fun q => by cases q) rfl hB rfl (hneg _ (by omega)) (by decide +kernel)
    obtain ⟨ks, hks⟩ : ∃ ks : List Nat, ks = [4, 23, 23, 21, 21, 21, 1, 20, 20, 20, 20, 2, 21, 21, 21, 21, 3, 22, 22, 22, 22] := ⟨_, rfl⟩
    rw [← hks] at L1
    have kl : ks.length = 21 := by rw [hks]; rfl
    have gN : zG G N ks N = 4 := by
      have := zG_at (G := G) (N := N) (ks := ks) (i := 0) (by omega)
      rw [hks] at this ⊢
      simpa using this
    refine a_astore_n [vR 0, vI k, vR N] (d139 (j := 17) rfl) (by decide +kernel) rfl ?_
    refine a_aload_n (d139 (j := 18) rfl) rfl ?_
    refine a_getfield (c := 8) (j := 3) (d139 (j := 19) rfl) rfl (by rw [o2 _ _ (by omega) (by omega)]; exact m0) ?_
    show dsA 139 35 [vR 0, vI k, vR N] [vR (M2 0 3)] _ M2 K
    rw [o2 0 3 (by omega) (by omega), e30]
    refine a_iload_n (d139 (j := 20) rfl) rfl ?_
    refine a_aload_n (d139 (j := 21) rfl) rfl ?_
    refine a_aastore (d139 (j := 22) rfl) ⟨Or.inl ⟨by rw [o2 _ _ (by omega) (by omega)]; exact m45, (Lay_o L1 gN (by decide)).trans (by decide +kernel)⟩, qk.1, by rw [o2 _ _ (by omega) (by omega)]; omega⟩ ?_
    refine fin (zG G N ks) (dsSet M2 45 k N) N _ ⟨by decide +kernel, by decide +kernel⟩ (Lay_aset L1 (Or.inl ⟨by rw [zG_out (by omega)]; exact g45, gN⟩) qk.1) (by rw [zG_out (by omega)]; exact a3) gN a1 (C24_e hC.1.2.1 (fun a j q1 q2 => by rw [dsSet_ne (by omega)]; exact o2 _ _ (by omega) (by omega))) (fun M' hL' hv => yes (zG G N ks) M' ?_)
    obtain ⟨v1, v4⟩ := hv
    have eN : M' (-1) 0 = N + 21 := by rw [v4 _ _ (by omega), dsSet_ne (by omega)]; exact b2
    refine img_fin h qk hL' ⟨fun a q => zG_up (by rw [kl]; show N + 21 ≤ a; omega) a2, by rw [zG_out (by omega)]; exact a3, by rw [zG_out (by omega)]; exact a4, fun a q => by rw [zG_out (by omega)]; exact hneg a q⟩ (by omega) ⟨a1, by omega⟩ ?_ (fun l l0 l1 q i1 => ?_) (fun u u0 u1 n0 => ?_) v1 (fun a j q1 q2 q4 => ?_)
    · rw [v4 _ _ (by omega), dsSet_at, if_pos rfl]
    · have := a6 l l0 l1 i1
      omega
    · have := a5 u u0 u1 n0
      omega
    · rw [v4 a j (by omega)]
      by_cases e : a = 45
      · subst e
        rw [dsSet_at, if_neg (by omega)]
        exact o2 _ _ (by omega) (by omega)
      · rw [dsSet_ne e]
        exact hB.2.2 a j (by show ¬ (N ≤ a ∧ a < N + 21); omega) q4
