/-! cases of the law -/
set_option maxHeartbeats 2000000 in
theorem case30 : lwC 1208 := by
  intro G M F s i L u Q h hi hL hr hu nx
  obtain ⟨m0, m84, V0, V84⟩ := JN_0 h
  have HF := h.2.2.2.2
  refine a_aload_n (d334_14 (j := 2) rfl) rfl ?_
  refine st_arg (F := F) (n := 1) rfl rfl (d334_14 (j := 3) rfl) (d334_14 (j := 4) rfl) (d334_14 (j := 5) rfl) (d334_14 (j := 6) rfl) (d334_14 (j := 7) rfl) (by decide) hi hL HF ?_
  refine lw_call (t := 99) (a := 0) (as := [vI (F (i + 1))]) (r := []) (n1 := 0) (n2 := 0) (d334_14 (j := 8) rfl) rfl rfl (m0.trans (by decide +kernel)) ⟨by decide +kernel, Nat.le_of_ble_eq_true rfl, (show 2 ≤ dsMx 99 by decide +kernel)⟩ ⟨by decide +kernel, by decide +kernel⟩ (by omega) ?_
  refine a_ct (as := [uR 10 0, uI (F (i + 1))]) h.1 ⟨V0, trivial, trivial⟩ (show 2 ≤ dsMx 99 by decide +kernel) rfl (cq99 h.2.2.1.1) (fun M1 hL1 q1 => ?_)
  have h1 := JN_cq h hL1 q1
  obtain ⟨m0, m84, V0, V84⟩ := JN_0 h1
  have HF := h1.2.2.2.2
  refine a_aload_n (d334_14 (j := 9) rfl) rfl ?_
  refine st_arg (F := F) (n := 1) rfl rfl (d334_14 (j := 10) rfl) (d334_14 (j := 11) rfl) (d334_14 (j := 12) rfl) (d334_14 (j := 13) rfl) (d334_14 (j := 14) rfl) (by decide) hi hL HF ?_
  refine lw_call (t := 269) (a := 84) (as := [vI (F (i + 1))]) (r := [vI _]) (n1 := 0) (n2 := 0) (d334_14 (j := 15) rfl) rfl rfl (m84.trans (by decide +kernel)) ⟨by decide +kernel, Nat.le_of_ble_eq_true rfl, (show 2 ≤ dsMx 269 by decide +kernel)⟩ ⟨by decide +kernel, by decide +kernel⟩ (by dsimp only; omega) ?_
  refine a_ct (as := [uR 11 84, uI (F (i + 1))]) h1.1 ⟨V84, trivial, trivial⟩ (show 2 ≤ dsMx 269 by decide +kernel) rfl (rq269 h1.2.2.2.1.1) (fun M2 hL2 q2 => ?_)
  have h2 := JN_rq h1 hL2 q2
  exact a_icmp_eq (d334_14 (j := 16) rfl) (fun _ => nx _ _ _ _ h2 (by dsimp only; omega)) (fun q => absurd rfl q)
set_option maxHeartbeats 2000000 in
theorem case31 : lwC 1231 := by
  intro G M F s i L u Q h hi hL hr hu nx
  obtain ⟨m0, m84, V0, V84⟩ := JN_0 h
  have HF := h.2.2.2.2
  refine a_aload_n (d334_14 (j := 19) rfl) rfl ?_
  refine st_arg (F := F) (n := 1) rfl rfl (d334_14 (j := 20) rfl) (d334_14 (j := 21) rfl) (d334_14 (j := 22) rfl) (d334_14 (j := 23) rfl) (d334_14 (j := 24) rfl) (by decide) hi hL HF ?_
  refine lw_call (t := 100) (a := 0) (as := [vI (F (i + 1))]) (r := []) (n1 := 0) (n2 := 0) (d334_14 (j := 25) rfl) rfl rfl (m0.trans (by decide +kernel)) ⟨by decide +kernel, Nat.le_of_ble_eq_true rfl, (show 2 ≤ dsMx 100 by decide +kernel)⟩ ⟨by decide +kernel, by decide +kernel⟩ (by omega) ?_
  refine a_ct (as := [uR 10 0, uI (F (i + 1))]) h.1 ⟨V0, trivial, trivial⟩ (show 2 ≤ dsMx 100 by decide +kernel) rfl (cq100 h.2.2.1.1) (fun M1 hL1 q1 => ?_)
  have h1 := JN_cq h hL1 q1
  obtain ⟨m0, m84, V0, V84⟩ := JN_0 h1
  have HF := h1.2.2.2.2
  refine a_aload_n (d334_14 (j := 26) rfl) rfl ?_
  refine st_arg (F := F) (n := 1) rfl rfl (d334_14 (j := 27) rfl) (d334_14 (j := 28) rfl) (d334_14 (j := 29) rfl) (d334_14 (j := 30) rfl) (d334_14 (j := 31) rfl) (by decide) hi hL HF ?_
  refine lw_call (t := 270) (a := 84) (as := [vI (F (i + 1))]) (r := [vI _]) (n1 := 0) (n2 := 0) (d334_14 (j := 32) rfl) rfl rfl (m84.trans (by decide +kernel)) ⟨by decide +kernel, Nat.le_of_ble_eq_true rfl, (show 2 ≤ dsMx 270 by decide +kernel)⟩ ⟨by decide +kernel, by decide +kernel⟩ (by dsimp only; omega) ?_
  refine a_ct (as := [uR 11 84, uI (F (i + 1))]) h1.1 ⟨V84, trivial, trivial⟩ (show 2 ≤ dsMx 270 by decide +kernel) rfl (rq270 h1.2.2.2.1.1) (fun M2 hL2 q2 => ?_)
  have h2 := JN_rq h1 hL2 q2
  exact a_icmp_eq (d334_14 (j := 33) rfl) (fun _ => nx _ _ _ _ h2 (by dsimp only; omega)) (fun q => absurd rfl q)
set_option maxHeartbeats 2000000 in
theorem case32 : lwC 1254 := by
  intro G M F s i L u Q h hi hL hr hu nx
  obtain ⟨m0, m84, V0, V84⟩ := JN_0 h
  have HF := h.2.2.2.2
  refine a_aload_n (d334_14 (j := 36) rfl) rfl ?_
  refine lw_call (t := 101) (a := 0) (as := []) (r := []) (n1 := 0) (n2 := 0) (d334_14 (j := 37) rfl) rfl rfl (m0.trans (by decide +kernel)) ⟨by decide +kernel, Nat.le_of_ble_eq_true rfl, (show 1 ≤ dsMx 101 by decide +kernel)⟩ ⟨by decide +kernel, by decide +kernel⟩ (by omega) ?_
  refine a_ct (as := [uR 10 0]) h.1 ⟨V0, trivial⟩ (show 1 ≤ dsMx 101 by decide +kernel) rfl (cq101 h.2.2.1.1) (fun M1 hL1 q1 => ?_)
  have h1 := JN_cq h hL1 q1
  obtain ⟨m0, m84, V0, V84⟩ := JN_0 h1
  have HF := h1.2.2.2.2
  refine a_aload_n (d334_14 (j := 38) rfl) rfl ?_
  refine lw_call (t := 271) (a := 84) (as := []) (r := [vI _]) (n1 := 0) (n2 := 0) (d334_14 (j := 39) rfl) rfl rfl (m84.trans (by decide +kernel)) ⟨by decide +kernel, Nat.le_of_ble_eq_true rfl, (show 1 ≤ dsMx 271 by decide +kernel)⟩ ⟨by decide +kernel, by decide +kernel⟩ (by dsimp only; omega) ?_
  refine a_ct (as := [uR 11 84]) h1.1 ⟨V84, trivial⟩ (show 1 ≤ dsMx 271 by decide +kernel) rfl (rq271 h1.2.2.2.1.1) (fun M2 hL2 q2 => ?_)
  have h2 := JN_rq h1 hL2 q2
  exact a_icmp_eq (d334_14 (j := 40) rfl) (fun _ => nx _ _ _ _ h2 (by dsimp only; omega)) (fun q => absurd rfl q)
set_option maxHeartbeats 2000000 in
theorem case33 : lwC 1267 := by
  intro G M F s i L u Q h hi hL hr hu nx
  obtain ⟨m0, m84, V0, V84⟩ := JN_0 h
  have HF := h.2.2.2.2
  refine a_aload_n (d334_14 (j := 43) rfl) rfl ?_
  refine st_arg (F := F) (n := 1) rfl rfl (d334_14 (j := 44) rfl) (d334_14 (j := 45) rfl) (d334_14 (j := 46) rfl) (d334_14 (j := 47) rfl) (d334_14 (j := 48) rfl) (by decide) hi hL HF ?_
  refine lw_call (t := 102) (a := 0) (as := [vI (F (i + 1))]) (r := []) (n1 := 0) (n2 := 0) (d334_14 (j := 49) rfl) rfl rfl (m0.trans (by decide +kernel)) ⟨by decide +kernel, Nat.le_of_ble_eq_true rfl, (show 2 ≤ dsMx 102 by decide +kernel)⟩ ⟨by decide +kernel, by decide +kernel⟩ (by omega) ?_
  refine a_ct (as := [uR 10 0, uI (F (i + 1))]) h.1 ⟨V0, trivial, trivial⟩ (show 2 ≤ dsMx 102 by decide +kernel) rfl (cq102 h.2.2.1.1) (fun M1 hL1 q1 => ?_)
  have h1 := JN_cq h hL1 q1
  obtain ⟨m0, m84, V0, V84⟩ := JN_0 h1
  have HF := h1.2.2.2.2
  refine a_aload_n (d334_15 (j := 0) rfl) rfl ?_
  refine st_arg (F := F) (n := 1) rfl rfl (d334_15 (j := 1) rfl) (d334_15 (j := 2) rfl) (d334_15 (j := 3) rfl) (d334_15 (j := 4) rfl) (d334_15 (j := 5) rfl) (by decide) hi hL HF ?_
  refine lw_call (t := 272) (a := 84) (as := [vI (F (i + 1))]) (r := [vI _]) (n1 := 0) (n2 := 0) (d334_15 (j := 6) rfl) rfl rfl (m84.trans (by decide +kernel)) ⟨by decide +kernel, Nat.le_of_ble_eq_true rfl, (show 2 ≤ dsMx 272 by decide +kernel)⟩ ⟨by decide +kernel, by decide +kernel⟩ (by dsimp only; omega) ?_
  refine a_ct (as := [uR 11 84, uI (F (i + 1))]) h1.1 ⟨V84, trivial, trivial⟩ (show 2 ≤ dsMx 272 by decide +kernel) rfl (rq272 h1.2.2.2.1.1) (fun M2 hL2 q2 => ?_)
  have h2 := JN_rq h1 hL2 q2
  exact a_icmp_eq (d334_15 (j := 7) rfl) (fun _ => nx _ _ _ _ h2 (by dsimp only; omega)) (fun q => absurd rfl q)
set_option maxHeartbeats 2000000 in
theorem case34 : lwC 1290 := by
  intro G M F s i L u Q h hi hL hr hu nx
  obtain ⟨m0, m84, V0, V84⟩ := JN_0 h
  have HF := h.2.2.2.2
  refine a_aload_n (d334_15 (j := 10) rfl) rfl ?_
  refine st_arg (F := F) (n := 1) rfl rfl (d334_15 (j := 11) rfl) (d334_15 (j := 12) rfl) (d334_15 (j := 13) rfl) (d334_15 (j := 14) rfl) (d334_15 (j := 15) rfl) (by decide) hi hL HF ?_
  refine lw_call (t := 103) (a := 0) (as := [vI (F (i + 1))]) (r := []) (n1 := 0) (n2 := 0) (d334_15 (j := 16) rfl) rfl rfl (m0.trans (by decide +kernel)) ⟨by decide +kernel, Nat.le_of_ble_eq_true rfl, (show 2 ≤ dsMx 103 by decide +kernel)⟩ ⟨by decide +kernel, by decide +kernel⟩ (by omega) ?_
  refine a_ct (as := [uR 10 0, uI (F (i + 1))]) h.1 ⟨V0, trivial, trivial⟩ (show 2 ≤ dsMx 103 by decide +kernel) rfl (cq103 h.2.2.1.1) (fun M1 hL1 q1 => ?_)
  have h1 := JN_cq h hL1 q1
  obtain ⟨m0, m84, V0, V84⟩ := JN_0 h1
  have HF := h1.2.2.2.2
  refine a_aload_n (d334_15 (j := 17) rfl) rfl ?_
  refine st_arg (F := F) (n := 1) rfl rfl (d334_15 (j := 18) rfl) (d334_15 (j := 19) rfl) (d334_15 (j := 20) rfl) (d334_15 (j := 21) rfl) (d334_15 (j := 22) rfl) (by decide) hi hL HF ?_
  refine lw_call (t := 273) (a := 84) (as := [vI (F (i + 1))]) (r := [vI _]) (n1 := 0) (n2 := 0) (d334_15 (j := 23) rfl) rfl rfl (m84.trans (by decide +kernel)) ⟨by decide +kernel, Nat.le_of_ble_eq_true rfl, (show 2 ≤ dsMx 273 by decide +kernel)⟩ ⟨by decide +kernel, by decide +kernel⟩ (by dsimp only; omega) ?_
  refine a_ct (as := [uR 11 84, uI (F (i + 1))]) h1.1 ⟨V84, trivial, trivial⟩ (show 2 ≤ dsMx 273 by decide +kernel) rfl (rq273 h1.2.2.2.1.1) (fun M2 hL2 q2 => ?_)
  have h2 := JN_rq h1 hL2 q2
  exact a_icmp_eq (d334_15 (j := 24) rfl) (fun _ => nx _ _ _ _ h2 (by dsimp only; omega)) (fun q => absurd rfl q)
set_option maxHeartbeats 2000000 in
theorem case35 : lwC 1313 := by
  intro G M F s i L u Q h hi hL hr hu nx
  obtain ⟨m0, m84, V0, V84⟩ := JN_0 h
  have HF := h.2.2.2.2
  refine a_aload_n (d334_15 (j := 27) rfl) rfl ?_
  refine st_arg (F := F) (n := 1) rfl rfl (d334_15 (j := 28) rfl) (d334_15 (j := 29) rfl) (d334_15 (j := 30) rfl) (d334_15 (j := 31) rfl) (d334_15 (j := 32) rfl) (by decide) hi hL HF ?_
  refine lw_call (t := 104) (a := 0) (as := [vI (F (i + 1))]) (r := []) (n1 := 0) (n2 := 0) (d334_15 (j := 33) rfl) rfl rfl (m0.trans (by decide +kernel)) ⟨by decide +kernel, Nat.le_of_ble_eq_true rfl, (show 2 ≤ dsMx 104 by decide +kernel)⟩ ⟨by decide +kernel, by decide +kernel⟩ (by omega) ?_
  refine a_ct (as := [uR 10 0, uI (F (i + 1))]) h.1 ⟨V0, trivial, trivial⟩ (show 2 ≤ dsMx 104 by decide +kernel) rfl (cq104 h.2.2.1.1) (fun M1 hL1 q1 => ?_)
  have h1 := JN_cq h hL1 q1
  obtain ⟨m0, m84, V0, V84⟩ := JN_0 h1
  have HF := h1.2.2.2.2
  refine a_aload_n (d334_15 (j := 34) rfl) rfl ?_
  refine st_arg (F := F) (n := 1) rfl rfl (d334_15 (j := 35) rfl) (d334_15 (j := 36) rfl) (d334_15 (j := 37) rfl) (d334_15 (j := 38) rfl) (d334_15 (j := 39) rfl) (by decide) hi hL HF ?_
  refine lw_call (t := 274) (a := 84) (as := [vI (F (i + 1))]) (r := [vI _]) (n1 := 0) (n2 := 0) (d334_15 (j := 40) rfl) rfl rfl (m84.trans (by decide +kernel)) ⟨by decide +kernel, Nat.le_of_ble_eq_true rfl, (show 2 ≤ dsMx 274 by decide +kernel)⟩ ⟨by decide +kernel, by decide +kernel⟩ (by dsimp only; omega) ?_
  refine a_ct (as := [uR 11 84, uI (F (i + 1))]) h1.1 ⟨V84, trivial, trivial⟩ (show 2 ≤ dsMx 274 by decide +kernel) rfl (rq274 h1.2.2.2.1.1) (fun M2 hL2 q2 => ?_)
  have h2 := JN_rq h1 hL2 q2
  exact a_icmp_eq (d334_15 (j := 41) rfl) (fun _ => nx _ _ _ _ h2 (by dsimp only; omega)) (fun q => absurd rfl q)
set_option maxHeartbeats 2000000 in
theorem case36 : lwC 1336 := by
  intro G M F s i L u Q h hi hL hr hu nx
  obtain ⟨m0, m84, V0, V84⟩ := JN_0 h
  have HF := h.2.2.2.2
  refine a_aload_n (d334_15 (j := 44) rfl) rfl ?_
  refine st_arg (F := F) (n := 1) rfl rfl (d334_15 (j := 45) rfl) (d334_15 (j := 46) rfl) (d334_15 (j := 47) rfl) (d334_15 (j := 48) rfl) (d334_15 (j := 49) rfl) (by decide) hi hL HF ?_
  refine lw_call (t := 105) (a := 0) (as := [vI (F (i + 1))]) (r := []) (n1 := 0) (n2 := 0) (d334_16 (j := 0) rfl) rfl rfl (m0.trans (by decide +kernel)) ⟨by decide +kernel, Nat.le_of_ble_eq_true rfl, (show 2 ≤ dsMx 105 by decide +kernel)⟩ ⟨by decide +kernel, by decide +kernel⟩ (by omega) ?_
  refine a_ct (as := [uR 10 0, uI (F (i + 1))]) h.1 ⟨V0, trivial, trivial⟩ (show 2 ≤ dsMx 105 by decide +kernel) rfl (cq105 h.2.2.1.1) (fun M1 hL1 q1 => ?_)
  have h1 := JN_cq h hL1 q1
  obtain ⟨m0, m84, V0, V84⟩ := JN_0 h1
  have HF := h1.2.2.2.2
  refine a_aload_n (d334_16 (j := 1) rfl) rfl ?_
  refine st_arg (F := F) (n := 1) rfl rfl (d334_16 (j := 2) rfl) (d334_16 (j := 3) rfl) (d334_16 (j := 4) rfl) (d334_16 (j := 5) rfl) (d334_16 (j := 6) rfl) (by decide) hi hL HF ?_
  refine lw_call (t := 275) (a := 84) (as := [vI (F (i + 1))]) (r := [vI _]) (n1 := 0) (n2 := 0) (d334_16 (j := 7) rfl) rfl rfl (m84.trans (by decide +kernel)) ⟨by decide +kernel, Nat.le_of_ble_eq_true rfl, (show 2 ≤ dsMx 275 by decide +kernel)⟩ ⟨by decide +kernel, by decide +kernel⟩ (by dsimp only; omega) ?_
  refine a_ct (as := [uR 11 84, uI (F (i + 1))]) h1.1 ⟨V84, trivial, trivial⟩ (show 2 ≤ dsMx 275 by decide +kernel) rfl (rq275 h1.2.2.2.1.1) (fun M2 hL2 q2 => ?_)
  have h2 := JN_rq h1 hL2 q2
  exact a_icmp_eq (d334_16 (j := 8) rfl) (fun _ => nx _ _ _ _ h2 (by dsimp only; omega)) (fun q => absurd rfl q)
set_option maxHeartbeats 2000000 in
theorem case37 : lwC 1359 := by
  intro G M F s i L u Q h hi hL hr hu nx
  obtain ⟨m0, m84, V0, V84⟩ := JN_0 h
  have HF := h.2.2.2.2
  refine a_aload_n (d334_16 (j := 11) rfl) rfl ?_
  refine st_arg (F := F) (n := 1) rfl rfl (d334_16 (j := 12) rfl) (d334_16 (j := 13) rfl) (d334_16 (j := 14) rfl) (d334_16 (j := 15) rfl) (d334_16 (j := 16) rfl) (by decide) hi hL HF ?_
  refine lw_call (t := 106) (a := 0) (as := [vI (F (i + 1))]) (r := []) (n1 := 0) (n2 := 0) (d334_16 (j := 17) rfl) rfl rfl (m0.trans (by decide +kernel)) ⟨by decide +kernel, Nat.le_of_ble_eq_true rfl, (show 2 ≤ dsMx 106 by decide +kernel)⟩ ⟨by decide +kernel, by decide +kernel⟩ (by omega) ?_
  refine a_ct (as := [uR 10 0, uI (F (i + 1))]) h.1 ⟨V0, trivial, trivial⟩ (show 2 ≤ dsMx 106 by decide +kernel) rfl (cq106 h.2.2.1.1) (fun M1 hL1 q1 => ?_)
  have h1 := JN_cq h hL1 q1
  obtain ⟨m0, m84, V0, V84⟩ := JN_0 h1
  have HF := h1.2.2.2.2
  refine a_aload_n (d334_16 (j := 18) rfl) rfl ?_
  refine st_arg (F := F) (n := 1) rfl rfl (d334_16 (j := 19) rfl) (d334_16 (j := 20) rfl) (d334_16 (j := 21) rfl) (d334_16 (j := 22) rfl) (d334_16 (j := 23) rfl) (by decide) hi hL HF ?_
  refine lw_call (t := 276) (a := 84) (as := [vI (F (i + 1))]) (r := [vI _]) (n1 := 0) (n2 := 0) (d334_16 (j := 24) rfl) rfl rfl (m84.trans (by decide +kernel)) ⟨by decide +kernel, Nat.le_of_ble_eq_true rfl, (show 2 ≤ dsMx 276 by decide +kernel)⟩ ⟨by decide +kernel, by decide +kernel⟩ (by dsimp only; omega) ?_
  refine a_ct (as := [uR 11 84, uI (F (i + 1))]) h1.1 ⟨V84, trivial, trivial⟩ (show 2 ≤ dsMx 276 by decide +kernel) rfl (rq276 h1.2.2.2.1.1) (fun M2 hL2 q2 => ?_)
  have h2 := JN_rq h1 hL2 q2
  exact a_icmp_eq (d334_16 (j := 25) rfl) (fun _ => nx _ _ _ _ h2 (by dsimp only; omega)) (fun q => absurd rfl q)
set_option maxHeartbeats 2000000 in
theorem case38 : lwC 1382 := by
  intro G M F s i L u Q h hi hL hr hu nx
  obtain ⟨m0, m84, V0, V84⟩ := JN_0 h
  have HF := h.2.2.2.2
  refine a_aload_n (d334_16 (j := 28) rfl) rfl ?_
  refine st_arg (F := F) (n := 1) rfl rfl (d334_16 (j := 29) rfl) (d334_16 (j := 30) rfl) (d334_16 (j := 31) rfl) (d334_16 (j := 32) rfl) (d334_16 (j := 33) rfl) (by decide) hi hL HF ?_
  refine st_arg (F := F) (n := 2) rfl rfl (d334_16 (j := 34) rfl) (d334_16 (j := 35) rfl) (d334_16 (j := 36) rfl) (d334_16 (j := 37) rfl) (d334_16 (j := 38) rfl) (by decide) hi hL HF ?_
  refine lw_call (t := 107) (a := 0) (as := [vI (F (i + 1)), vI (F (i + 2))]) (r := []) (n1 := 0) (n2 := 0) (d334_16 (j := 39) rfl) rfl rfl (m0.trans (by decide +kernel)) ⟨by decide +kernel, Nat.le_of_ble_eq_true rfl, (show 3 ≤ dsMx 107 by decide +kernel)⟩ ⟨by decide +kernel, by decide +kernel⟩ (by omega) ?_
  refine a_ct (as := [uR 10 0, uI (F (i + 1)), uI (F (i + 2))]) h.1 ⟨V0, trivial, trivial, trivial⟩ (show 3 ≤ dsMx 107 by decide +kernel) rfl (cq107 h.2.2.1.1) (fun M1 hL1 q1 => ?_)
  have h1 := JN_cq h hL1 q1
  obtain ⟨m0, m84, V0, V84⟩ := JN_0 h1
  have HF := h1.2.2.2.2
  refine a_aload_n (d334_16 (j := 40) rfl) rfl ?_
  refine st_arg (F := F) (n := 1) rfl rfl (d334_16 (j := 41) rfl) (d334_16 (j := 42) rfl) (d334_16 (j := 43) rfl) (d334_16 (j := 44) rfl) (d334_16 (j := 45) rfl) (by decide) hi hL HF ?_
  refine st_arg (F := F) (n := 2) rfl rfl (d334_16 (j := 46) rfl) (d334_16 (j := 47) rfl) (d334_16 (j := 48) rfl) (d334_16 (j := 49) rfl) (d334_17 (j := 0) rfl) (by decide) hi hL HF ?_
  refine lw_call (t := 277) (a := 84) (as := [vI (F (i + 1)), vI (F (i + 2))]) (r := [vI _]) (n1 := 0) (n2 := 0) (d334_17 (j := 1) rfl) rfl rfl (m84.trans (by decide +kernel)) ⟨by decide +kernel, Nat.le_of_ble_eq_true rfl, (show 3 ≤ dsMx 277 by decide +kernel)⟩ ⟨by decide +kernel, by decide +kernel⟩ (by dsimp only; omega) ?_
  refine a_ct (as := [uR 11 84, uI (F (i + 1)), uI (F (i + 2))]) h1.1 ⟨V84, trivial, trivial, trivial⟩ (show 3 ≤ dsMx 277 by decide +kernel) rfl (rq277 h1.2.2.2.1.1) (fun M2 hL2 q2 => ?_)
  have h2 := JN_rq h1 hL2 q2
  exact a_icmp_eq (d334_17 (j := 2) rfl) (fun _ => nx _ _ _ _ h2 (by dsimp only; omega)) (fun q => absurd rfl q)
set_option maxHeartbeats 2000000 in
theorem case39 : lwC 1415 := by
  intro G M F s i L u Q h hi hL hr hu nx
  obtain ⟨m0, m84, V0, V84⟩ := JN_0 h
  have HF := h.2.2.2.2
  refine a_aload_n (d334_17 (j := 5) rfl) rfl ?_
  refine st_arg (F := F) (n := 1) rfl rfl (d334_17 (j := 6) rfl) (d334_17 (j := 7) rfl) (d334_17 (j := 8) rfl) (d334_17 (j := 9) rfl) (d334_17 (j := 10) rfl) (by decide) hi hL HF ?_
  refine lw_call (t := 108) (a := 0) (as := [vI (F (i + 1))]) (r := []) (n1 := 0) (n2 := 0) (d334_17 (j := 11) rfl) rfl rfl (m0.trans (by decide +kernel)) ⟨by decide +kernel, Nat.le_of_ble_eq_true rfl, (show 2 ≤ dsMx 108 by decide +kernel)⟩ ⟨by decide +kernel, by decide +kernel⟩ (by omega) ?_
  refine a_ct (as := [uR 10 0, uI (F (i + 1))]) h.1 ⟨V0, trivial, trivial⟩ (show 2 ≤ dsMx 108 by decide +kernel) rfl (cq108 h.2.2.1.1) (fun M1 hL1 q1 => ?_)
  have h1 := JN_cq h hL1 q1
  obtain ⟨m0, m84, V0, V84⟩ := JN_0 h1
  have HF := h1.2.2.2.2
  refine a_aload_n (d334_17 (j := 12) rfl) rfl ?_
  refine st_arg (F := F) (n := 1) rfl rfl (d334_17 (j := 13) rfl) (d334_17 (j := 14) rfl) (d334_17 (j := 15) rfl) (d334_17 (j := 16) rfl) (d334_17 (j := 17) rfl) (by decide) hi hL HF ?_
  refine lw_call (t := 278) (a := 84) (as := [vI (F (i + 1))]) (r := [vI _]) (n1 := 0) (n2 := 0) (d334_17 (j := 18) rfl) rfl rfl (m84.trans (by decide +kernel)) ⟨by decide +kernel, Nat.le_of_ble_eq_true rfl, (show 2 ≤ dsMx 278 by decide +kernel)⟩ ⟨by decide +kernel, by decide +kernel⟩ (by dsimp only; omega) ?_
  refine a_ct (as := [uR 11 84, uI (F (i + 1))]) h1.1 ⟨V84, trivial, trivial⟩ (show 2 ≤ dsMx 278 by decide +kernel) rfl (rq278 h1.2.2.2.1.1) (fun M2 hL2 q2 => ?_)
  have h2 := JN_rq h1 hL2 q2
  exact a_icmp_eq (d334_17 (j := 19) rfl) (fun _ => nx _ _ _ _ h2 (by dsimp only; omega)) (fun q => absurd rfl q)
set_option maxHeartbeats 2000000 in
theorem case40 : lwC 1438 := by
  intro G M F s i L u Q h hi hL hr hu nx
  obtain ⟨m0, m84, V0, V84⟩ := JN_0 h
  have HF := h.2.2.2.2
  refine a_aload_n (d334_17 (j := 22) rfl) rfl ?_
  refine st_arg (F := F) (n := 1) rfl rfl (d334_17 (j := 23) rfl) (d334_17 (j := 24) rfl) (d334_17 (j := 25) rfl) (d334_17 (j := 26) rfl) (d334_17 (j := 27) rfl) (by decide) hi hL HF ?_
  refine st_arg (F := F) (n := 2) rfl rfl (d334_17 (j := 28) rfl) (d334_17 (j := 29) rfl) (d334_17 (j := 30) rfl) (d334_17 (j := 31) rfl) (d334_17 (j := 32) rfl) (by decide) hi hL HF ?_
  refine lw_call (t := 109) (a := 0) (as := [vI (F (i + 1)), vI (F (i + 2))]) (r := []) (n1 := 0) (n2 := 0) (d334_17 (j := 33) rfl) rfl rfl (m0.trans (by decide +kernel)) ⟨by decide +kernel, Nat.le_of_ble_eq_true rfl, (show 3 ≤ dsMx 109 by decide +kernel)⟩ ⟨by decide +kernel, by decide +kernel⟩ (by omega) ?_
  refine a_ct (as := [uR 10 0, uI (F (i + 1)), uI (F (i + 2))]) h.1 ⟨V0, trivial, trivial, trivial⟩ (show 3 ≤ dsMx 109 by decide +kernel) rfl (cq109 h.2.2.1.1) (fun M1 hL1 q1 => ?_)
  have h1 := JN_cq h hL1 q1
  obtain ⟨m0, m84, V0, V84⟩ := JN_0 h1
  have HF := h1.2.2.2.2
  refine a_aload_n (d334_17 (j := 34) rfl) rfl ?_
  refine st_arg (F := F) (n := 1) rfl rfl (d334_17 (j := 35) rfl) (d334_17 (j := 36) rfl) (d334_17 (j := 37) rfl) (d334_17 (j := 38) rfl) (d334_17 (j := 39) rfl) (by decide) hi hL HF ?_
  refine st_arg (F := F) (n := 2) rfl rfl (d334_17 (j := 40) rfl) (d334_17 (j := 41) rfl) (d334_17 (j := 42) rfl) (d334_17 (j := 43) rfl) (d334_17 (j := 44) rfl) (by decide) hi hL HF ?_
  refine lw_call (t := 280) (a := 84) (as := [vI (F (i + 1)), vI (F (i + 2))]) (r := [vI _]) (n1 := 0) (n2 := 0) (d334_17 (j := 45) rfl) rfl rfl (m84.trans (by decide +kernel)) ⟨by decide +kernel, Nat.le_of_ble_eq_true rfl, (show 3 ≤ dsMx 280 by decide +kernel)⟩ ⟨by decide +kernel, by decide +kernel⟩ (by dsimp only; omega) ?_
  refine a_ct (as := [uR 11 84, uI (F (i + 1)), uI (F (i + 2))]) h1.1 ⟨V84, trivial, trivial, trivial⟩ (show 3 ≤ dsMx 280 by decide +kernel) rfl (rq280 h1.2.2.2.1.1) (fun M2 hL2 q2 => ?_)
  have h2 := JN_rq h1 hL2 q2
  exact a_icmp_eq (d334_17 (j := 46) rfl) (fun _ => nx _ _ _ _ h2 (by dsimp only; omega)) (fun q => absurd rfl q)
set_option maxHeartbeats 2000000 in
theorem case41 : lwC 1471 := by
  intro G M F s i L u Q h hi hL hr hu nx
  obtain ⟨m0, m84, V0, V84⟩ := JN_0 h
  have HF := h.2.2.2.2
  refine a_aload_n (d334_17 (j := 49) rfl) rfl ?_
  refine st_arg (F := F) (n := 1) rfl rfl (d334_18 (j := 0) rfl) (d334_18 (j := 1) rfl) (d334_18 (j := 2) rfl) (d334_18 (j := 3) rfl) (d334_18 (j := 4) rfl) (by decide) hi hL HF ?_
  refine lw_call (t := 110) (a := 0) (as := [vI (F (i + 1))]) (r := []) (n1 := 0) (n2 := 0) (d334_18 (j := 5) rfl) rfl rfl (m0.trans (by decide +kernel)) ⟨by decide +kernel, Nat.le_of_ble_eq_true rfl, (show 2 ≤ dsMx 110 by decide +kernel)⟩ ⟨by decide +kernel, by decide +kernel⟩ (by omega) ?_
  refine a_ct (as := [uR 10 0, uI (F (i + 1))]) h.1 ⟨V0, trivial, trivial⟩ (show 2 ≤ dsMx 110 by decide +kernel) rfl (cq110 h.2.2.1.1) (fun M1 hL1 q1 => ?_)
  have h1 := JN_cq h hL1 q1
  obtain ⟨m0, m84, V0, V84⟩ := JN_0 h1
  have HF := h1.2.2.2.2
  refine a_aload_n (d334_18 (j := 6) rfl) rfl ?_
  refine st_arg (F := F) (n := 1) rfl rfl (d334_18 (j := 7) rfl) (d334_18 (j := 8) rfl) (d334_18 (j := 9) rfl) (d334_18 (j := 10) rfl) (d334_18 (j := 11) rfl) (by decide) hi hL HF ?_
  refine lw_call (t := 282) (a := 84) (as := [vI (F (i + 1))]) (r := [vI _]) (n1 := 0) (n2 := 0) (d334_18 (j := 12) rfl) rfl rfl (m84.trans (by decide +kernel)) ⟨by decide +kernel, Nat.le_of_ble_eq_true rfl, (show 2 ≤ dsMx 282 by decide +kernel)⟩ ⟨by decide +kernel, by decide +kernel⟩ (by dsimp only; omega) ?_
  refine a_ct (as := [uR 11 84, uI (F (i + 1))]) h1.1 ⟨V84, trivial, trivial⟩ (show 2 ≤ dsMx 282 by decide +kernel) rfl (rq282 h1.2.2.2.1.1) (fun M2 hL2 q2 => ?_)
  have h2 := JN_rq h1 hL2 q2
  exact a_icmp_eq (d334_18 (j := 13) rfl) (fun _ => nx _ _ _ _ h2 (by dsimp only; omega)) (fun q => absurd rfl q)
set_option maxHeartbeats 2000000 in
theorem case42 : lwC 1494 := by
  intro G M F s i L u Q h hi hL hr hu nx
  obtain ⟨m0, m84, V0, V84⟩ := JN_0 h
  have HF := h.2.2.2.2
  refine a_aload_n (d334_18 (j := 16) rfl) rfl ?_
  refine st_arg (F := F) (n := 1) rfl rfl (d334_18 (j := 17) rfl) (d334_18 (j := 18) rfl) (d334_18 (j := 19) rfl) (d334_18 (j := 20) rfl) (d334_18 (j := 21) rfl) (by decide) hi hL HF ?_
  refine lw_call (t := 111) (a := 0) (as := [vI (F (i + 1))]) (r := []) (n1 := 0) (n2 := 0) (d334_18 (j := 22) rfl) rfl rfl (m0.trans (by decide +kernel)) ⟨by decide +kernel, Nat.le_of_ble_eq_true rfl, (show 2 ≤ dsMx 111 by decide +kernel)⟩ ⟨by decide +kernel, by decide +kernel⟩ (by omega) ?_
  refine a_ct (as := [uR 10 0, uI (F (i + 1))]) h.1 ⟨V0, trivial, trivial⟩ (show 2 ≤ dsMx 111 by decide +kernel) rfl (cq111 h.2.2.1.1) (fun M1 hL1 q1 => ?_)
  have h1 := JN_cq h hL1 q1
  obtain ⟨m0, m84, V0, V84⟩ := JN_0 h1
  have HF := h1.2.2.2.2
  refine a_aload_n (d334_18 (j := 23) rfl) rfl ?_
  refine st_arg (F := F) (n := 1) rfl rfl (d334_18 (j := 24) rfl) (d334_18 (j := 25) rfl) (d334_18 (j := 26) rfl) (d334_18 (j := 27) rfl) (d334_18 (j := 28) rfl) (by decide) hi hL HF ?_
  refine lw_call (t := 283) (a := 84) (as := [vI (F (i + 1))]) (r := [vI _]) (n1 := 0) (n2 := 0) (d334_18 (j := 29) rfl) rfl rfl (m84.trans (by decide +kernel)) ⟨by decide +kernel, Nat.le_of_ble_eq_true rfl, (show 2 ≤ dsMx 283 by decide +kernel)⟩ ⟨by decide +kernel, by decide +kernel⟩ (by dsimp only; omega) ?_
  refine a_ct (as := [uR 11 84, uI (F (i + 1))]) h1.1 ⟨V84, trivial, trivial⟩ (show 2 ≤ dsMx 283 by decide +kernel) rfl (rq283 h1.2.2.2.1.1) (fun M2 hL2 q2 => ?_)
  have h2 := JN_rq h1 hL2 q2
  exact a_icmp_eq (d334_18 (j := 30) rfl) (fun _ => nx _ _ _ _ h2 (by dsimp only; omega)) (fun q => absurd rfl q)
set_option maxHeartbeats 2000000 in
theorem case43 : lwC 1517 := by
  intro G M F s i L u Q h hi hL hr hu nx
  obtain ⟨m0, m84, V0, V84⟩ := JN_0 h
  have HF := h.2.2.2.2
  refine a_aload_n (d334_18 (j := 33) rfl) rfl ?_
  refine lw_call (t := 112) (a := 0) (as := []) (r := []) (n1 := 0) (n2 := 0) (d334_18 (j := 34) rfl) rfl rfl (m0.trans (by decide +kernel)) ⟨by decide +kernel, Nat.le_of_ble_eq_true rfl, (show 1 ≤ dsMx 112 by decide +kernel)⟩ ⟨by decide +kernel, by decide +kernel⟩ (by omega) ?_
  refine a_ct (as := [uR 10 0]) h.1 ⟨V0, trivial⟩ (show 1 ≤ dsMx 112 by decide +kernel) rfl (cq112 h.2.2.1.1) (fun M1 hL1 q1 => ?_)
  have h1 := JN_cq h hL1 q1
  obtain ⟨m0, m84, V0, V84⟩ := JN_0 h1
  have HF := h1.2.2.2.2
  refine a_aload_n (d334_18 (j := 35) rfl) rfl ?_
  refine lw_call (t := 284) (a := 84) (as := []) (r := [vI _]) (n1 := 0) (n2 := 0) (d334_18 (j := 36) rfl) rfl rfl (m84.trans (by decide +kernel)) ⟨by decide +kernel, Nat.le_of_ble_eq_true rfl, (show 1 ≤ dsMx 284 by decide +kernel)⟩ ⟨by decide +kernel, by decide +kernel⟩ (by dsimp only; omega) ?_
  refine a_ct (as := [uR 11 84]) h1.1 ⟨V84, trivial⟩ (show 1 ≤ dsMx 284 by decide +kernel) rfl (rq284 h1.2.2.2.1.1) (fun M2 hL2 q2 => ?_)
  have h2 := JN_rq h1 hL2 q2
  exact a_icmp_eq (d334_18 (j := 37) rfl) (fun _ => nx _ _ _ _ h2 (by dsimp only; omega)) (fun q => absurd rfl q)
set_option maxHeartbeats 2000000 in
theorem case44 : lwC 1530 := by
  intro G M F s i L u Q h hi hL hr hu nx
  obtain ⟨m0, m84, V0, V84⟩ := JN_0 h
  have HF := h.2.2.2.2
  refine a_aload_n (d334_18 (j := 40) rfl) rfl ?_
  refine lw_call (t := 113) (a := 0) (as := []) (r := []) (n1 := 0) (n2 := 0) (d334_18 (j := 41) rfl) rfl rfl (m0.trans (by decide +kernel)) ⟨by decide +kernel, Nat.le_of_ble_eq_true rfl, (show 1 ≤ dsMx 113 by decide +kernel)⟩ ⟨by decide +kernel, by decide +kernel⟩ (by omega) ?_
  refine a_ct (as := [uR 10 0]) h.1 ⟨V0, trivial⟩ (show 1 ≤ dsMx 113 by decide +kernel) rfl (cq113 h.2.2.1.1) (fun M1 hL1 q1 => ?_)
  have h1 := JN_cq h hL1 q1
  obtain ⟨m0, m84, V0, V84⟩ := JN_0 h1
  have HF := h1.2.2.2.2
  refine a_aload_n (d334_18 (j := 42) rfl) rfl ?_
  refine lw_call (t := 285) (a := 84) (as := []) (r := [vI _]) (n1 := 0) (n2 := 0) (d334_18 (j := 43) rfl) rfl rfl (m84.trans (by decide +kernel)) ⟨by decide +kernel, Nat.le_of_ble_eq_true rfl, (show 1 ≤ dsMx 285 by decide +kernel)⟩ ⟨by decide +kernel, by decide +kernel⟩ (by dsimp only; omega) ?_
  refine a_ct (as := [uR 11 84]) h1.1 ⟨V84, trivial⟩ (show 1 ≤ dsMx 285 by decide +kernel) rfl (rq285 h1.2.2.2.1.1) (fun M2 hL2 q2 => ?_)
  have h2 := JN_rq h1 hL2 q2
  exact a_icmp_eq (d334_18 (j := 44) rfl) (fun _ => nx _ _ _ _ h2 (by dsimp only; omega)) (fun q => absurd rfl q)
