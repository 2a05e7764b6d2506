/-! cases of the law -/
set_option maxHeartbeats 2000000 in
theorem case15 : lwC 853 := by
  intro G M F s i L u Q h hi hL hr hu nx
  obtain ⟨m0, m84, V0, V84⟩ := JN_0 h
  have HF := h.2.2.2.2
  refine a_aload_n (d334_8 (j := 37) rfl) rfl ?_
  refine st_arg (F := F) (n := 1) rfl rfl (d334_8 (j := 38) rfl) (d334_8 (j := 39) rfl) (d334_8 (j := 40) rfl) (d334_8 (j := 41) rfl) (d334_8 (j := 42) rfl) (by decide) hi hL HF ?_
  refine st_arg (F := F) (n := 2) rfl rfl (d334_8 (j := 43) rfl) (d334_8 (j := 44) rfl) (d334_8 (j := 45) rfl) (d334_8 (j := 46) rfl) (d334_8 (j := 47) rfl) (by decide) hi hL HF ?_
  refine lw_call (t := 84) (a := 0) (as := [vI (F (i + 1)), vI (F (i + 2))]) (r := []) (n1 := 0) (n2 := 0) (d334_8 (j := 48) rfl) rfl rfl (m0.trans (by decide +kernel)) ⟨by decide +kernel, Nat.le_of_ble_eq_true rfl, (show 3 ≤ dsMx 84 by decide +kernel)⟩ ⟨by decide +kernel, by decide +kernel⟩ (by omega) ?_
  refine a_ct (as := [uR 10 0, uI (F (i + 1)), uI (F (i + 2))]) h.1 ⟨V0, trivial, trivial, trivial⟩ (show 3 ≤ dsMx 84 by decide +kernel) rfl (cq84 h.2.2.1.1) (fun M1 hL1 q1 => ?_)
  have h1 := JN_cq h hL1 q1
  obtain ⟨m0, m84, V0, V84⟩ := JN_0 h1
  have HF := h1.2.2.2.2
  refine a_aload_n (d334_8 (j := 49) rfl) rfl ?_
  refine st_arg (F := F) (n := 1) rfl rfl (d334_9 (j := 0) rfl) (d334_9 (j := 1) rfl) (d334_9 (j := 2) rfl) (d334_9 (j := 3) rfl) (d334_9 (j := 4) rfl) (by decide) hi hL HF ?_
  refine st_arg (F := F) (n := 2) rfl rfl (d334_9 (j := 5) rfl) (d334_9 (j := 6) rfl) (d334_9 (j := 7) rfl) (d334_9 (j := 8) rfl) (d334_9 (j := 9) rfl) (by decide) hi hL HF ?_
  refine lw_call (t := 253) (a := 84) (as := [vI (F (i + 1)), vI (F (i + 2))]) (r := [vI _]) (n1 := 0) (n2 := 0) (d334_9 (j := 10) rfl) rfl rfl (m84.trans (by decide +kernel)) ⟨by decide +kernel, Nat.le_of_ble_eq_true rfl, (show 3 ≤ dsMx 253 by decide +kernel)⟩ ⟨by decide +kernel, by decide +kernel⟩ (by dsimp only; omega) ?_
  refine a_ct (as := [uR 11 84, uI (F (i + 1)), uI (F (i + 2))]) h1.1 ⟨V84, trivial, trivial, trivial⟩ (show 3 ≤ dsMx 253 by decide +kernel) rfl (rq253 h1.2.2.2.1.1) (fun M2 hL2 q2 => ?_)
  have h2 := JN_rq h1 hL2 q2
  exact a_icmp_eq (d334_9 (j := 11) rfl) (fun _ => nx _ _ _ _ h2 (by dsimp only; omega)) (fun q => absurd rfl q)
set_option maxHeartbeats 2000000 in
theorem case16 : lwC 886 := by
  intro G M F s i L u Q h hi hL hr hu nx
  obtain ⟨m0, m84, V0, V84⟩ := JN_0 h
  have HF := h.2.2.2.2
  refine a_aload_n (d334_9 (j := 14) rfl) rfl ?_
  refine lw_call (t := 85) (a := 0) (as := []) (r := []) (n1 := 0) (n2 := 0) (d334_9 (j := 15) rfl) rfl rfl (m0.trans (by decide +kernel)) ⟨by decide +kernel, Nat.le_of_ble_eq_true rfl, (show 1 ≤ dsMx 85 by decide +kernel)⟩ ⟨by decide +kernel, by decide +kernel⟩ (by omega) ?_
  refine a_ct (as := [uR 10 0]) h.1 ⟨V0, trivial⟩ (show 1 ≤ dsMx 85 by decide +kernel) rfl (cq85 h.2.2.1.1) (fun M1 hL1 q1 => ?_)
  have h1 := JN_cq h hL1 q1
  obtain ⟨m0, m84, V0, V84⟩ := JN_0 h1
  have HF := h1.2.2.2.2
  refine a_aload_n (d334_9 (j := 16) rfl) rfl ?_
  refine lw_call (t := 254) (a := 84) (as := []) (r := [vI _]) (n1 := 0) (n2 := 0) (d334_9 (j := 17) rfl) rfl rfl (m84.trans (by decide +kernel)) ⟨by decide +kernel, Nat.le_of_ble_eq_true rfl, (show 1 ≤ dsMx 254 by decide +kernel)⟩ ⟨by decide +kernel, by decide +kernel⟩ (by dsimp only; omega) ?_
  refine a_ct (as := [uR 11 84]) h1.1 ⟨V84, trivial⟩ (show 1 ≤ dsMx 254 by decide +kernel) rfl (rq254 h1.2.2.2.1.1) (fun M2 hL2 q2 => ?_)
  have h2 := JN_rq h1 hL2 q2
  exact a_icmp_eq (d334_9 (j := 18) rfl) (fun _ => nx _ _ _ _ h2 (by dsimp only; omega)) (fun q => absurd rfl q)
set_option maxHeartbeats 2000000 in
theorem case17 : lwC 899 := by
  intro G M F s i L u Q h hi hL hr hu nx
  obtain ⟨m0, m84, V0, V84⟩ := JN_0 h
  have HF := h.2.2.2.2
  refine a_aload_n (d334_9 (j := 21) rfl) rfl ?_
  refine lw_call (t := 86) (a := 0) (as := []) (r := []) (n1 := 0) (n2 := 0) (d334_9 (j := 22) rfl) rfl rfl (m0.trans (by decide +kernel)) ⟨by decide +kernel, Nat.le_of_ble_eq_true rfl, (show 1 ≤ dsMx 86 by decide +kernel)⟩ ⟨by decide +kernel, by decide +kernel⟩ (by omega) ?_
  refine a_ct (as := [uR 10 0]) h.1 ⟨V0, trivial⟩ (show 1 ≤ dsMx 86 by decide +kernel) rfl (cq86 h.2.2.1.1) (fun M1 hL1 q1 => ?_)
  have h1 := JN_cq h hL1 q1
  obtain ⟨m0, m84, V0, V84⟩ := JN_0 h1
  have HF := h1.2.2.2.2
  refine a_aload_n (d334_9 (j := 23) rfl) rfl ?_
  refine lw_call (t := 255) (a := 84) (as := []) (r := [vI _]) (n1 := 0) (n2 := 0) (d334_9 (j := 24) rfl) rfl rfl (m84.trans (by decide +kernel)) ⟨by decide +kernel, Nat.le_of_ble_eq_true rfl, (show 1 ≤ dsMx 255 by decide +kernel)⟩ ⟨by decide +kernel, by decide +kernel⟩ (by dsimp only; omega) ?_
  refine a_ct (as := [uR 11 84]) h1.1 ⟨V84, trivial⟩ (show 1 ≤ dsMx 255 by decide +kernel) rfl (rq255 h1.2.2.2.1.1) (fun M2 hL2 q2 => ?_)
  have h2 := JN_rq h1 hL2 q2
  exact a_icmp_eq (d334_9 (j := 25) rfl) (fun _ => nx _ _ _ _ h2 (by dsimp only; omega)) (fun q => absurd rfl q)
set_option maxHeartbeats 2000000 in
theorem case18 : lwC 912 := by
  intro G M F s i L u Q h hi hL hr hu nx
  obtain ⟨m0, m84, V0, V84⟩ := JN_0 h
  have HF := h.2.2.2.2
  refine a_aload_n (d334_9 (j := 28) rfl) rfl ?_
  refine st_arg (F := F) (n := 1) rfl rfl (d334_9 (j := 29) rfl) (d334_9 (j := 30) rfl) (d334_9 (j := 31) rfl) (d334_9 (j := 32) rfl) (d334_9 (j := 33) rfl) (by decide) hi hL HF ?_
  refine lw_call (t := 87) (a := 0) (as := [vI (F (i + 1))]) (r := []) (n1 := 0) (n2 := 0) (d334_9 (j := 34) rfl) rfl rfl (m0.trans (by decide +kernel)) ⟨by decide +kernel, Nat.le_of_ble_eq_true rfl, (show 2 ≤ dsMx 87 by decide +kernel)⟩ ⟨by decide +kernel, by decide +kernel⟩ (by omega) ?_
  refine a_ct (as := [uR 10 0, uI (F (i + 1))]) h.1 ⟨V0, trivial, trivial⟩ (show 2 ≤ dsMx 87 by decide +kernel) rfl (cq87 h.2.2.1.1) (fun M1 hL1 q1 => ?_)
  have h1 := JN_cq h hL1 q1
  obtain ⟨m0, m84, V0, V84⟩ := JN_0 h1
  have HF := h1.2.2.2.2
  refine a_aload_n (d334_9 (j := 35) rfl) rfl ?_
  refine st_arg (F := F) (n := 1) rfl rfl (d334_9 (j := 36) rfl) (d334_9 (j := 37) rfl) (d334_9 (j := 38) rfl) (d334_9 (j := 39) rfl) (d334_9 (j := 40) rfl) (by decide) hi hL HF ?_
  refine lw_call (t := 256) (a := 84) (as := [vI (F (i + 1))]) (r := [vI _]) (n1 := 0) (n2 := 0) (d334_9 (j := 41) rfl) rfl rfl (m84.trans (by decide +kernel)) ⟨by decide +kernel, Nat.le_of_ble_eq_true rfl, (show 2 ≤ dsMx 256 by decide +kernel)⟩ ⟨by decide +kernel, by decide +kernel⟩ (by dsimp only; omega) ?_
  refine a_ct (as := [uR 11 84, uI (F (i + 1))]) h1.1 ⟨V84, trivial, trivial⟩ (show 2 ≤ dsMx 256 by decide +kernel) rfl (rq256 h1.2.2.2.1.1) (fun M2 hL2 q2 => ?_)
  have h2 := JN_rq h1 hL2 q2
  exact a_icmp_eq (d334_9 (j := 42) rfl) (fun _ => nx _ _ _ _ h2 (by dsimp only; omega)) (fun q => absurd rfl q)
set_option maxHeartbeats 2000000 in
theorem case19 : lwC 935 := by
  intro G M F s i L u Q h hi hL hr hu nx
  obtain ⟨m0, m84, V0, V84⟩ := JN_0 h
  have HF := h.2.2.2.2
  refine a_aload_n (d334_9 (j := 45) rfl) rfl ?_
  refine st_arg (F := F) (n := 1) rfl rfl (d334_9 (j := 46) rfl) (d334_9 (j := 47) rfl) (d334_9 (j := 48) rfl) (d334_9 (j := 49) rfl) (d334_10 (j := 0) rfl) (by decide) hi hL HF ?_
  refine st_arg (F := F) (n := 2) rfl rfl (d334_10 (j := 1) rfl) (d334_10 (j := 2) rfl) (d334_10 (j := 3) rfl) (d334_10 (j := 4) rfl) (d334_10 (j := 5) rfl) (by decide) hi hL HF ?_
  refine lw_call (t := 88) (a := 0) (as := [vI (F (i + 1)), vI (F (i + 2))]) (r := []) (n1 := 0) (n2 := 0) (d334_10 (j := 6) rfl) rfl rfl (m0.trans (by decide +kernel)) ⟨by decide +kernel, Nat.le_of_ble_eq_true rfl, (show 3 ≤ dsMx 88 by decide +kernel)⟩ ⟨by decide +kernel, by decide +kernel⟩ (by omega) ?_
  refine a_ct (as := [uR 10 0, uI (F (i + 1)), uI (F (i + 2))]) h.1 ⟨V0, trivial, trivial, trivial⟩ (show 3 ≤ dsMx 88 by decide +kernel) rfl (cq88 h.2.2.1.1) (fun M1 hL1 q1 => ?_)
  have h1 := JN_cq h hL1 q1
  obtain ⟨m0, m84, V0, V84⟩ := JN_0 h1
  have HF := h1.2.2.2.2
  refine a_aload_n (d334_10 (j := 7) rfl) rfl ?_
  refine st_arg (F := F) (n := 1) rfl rfl (d334_10 (j := 8) rfl) (d334_10 (j := 9) rfl) (d334_10 (j := 10) rfl) (d334_10 (j := 11) rfl) (d334_10 (j := 12) rfl) (by decide) hi hL HF ?_
  refine st_arg (F := F) (n := 2) rfl rfl (d334_10 (j := 13) rfl) (d334_10 (j := 14) rfl) (d334_10 (j := 15) rfl) (d334_10 (j := 16) rfl) (d334_10 (j := 17) rfl) (by decide) hi hL HF ?_
  refine lw_call (t := 257) (a := 84) (as := [vI (F (i + 1)), vI (F (i + 2))]) (r := [vI _]) (n1 := 0) (n2 := 0) (d334_10 (j := 18) rfl) rfl rfl (m84.trans (by decide +kernel)) ⟨by decide +kernel, Nat.le_of_ble_eq_true rfl, (show 3 ≤ dsMx 257 by decide +kernel)⟩ ⟨by decide +kernel, by decide +kernel⟩ (by dsimp only; omega) ?_
  refine a_ct (as := [uR 11 84, uI (F (i + 1)), uI (F (i + 2))]) h1.1 ⟨V84, trivial, trivial, trivial⟩ (show 3 ≤ dsMx 257 by decide +kernel) rfl (rq257 h1.2.2.2.1.1) (fun M2 hL2 q2 => ?_)
  have h2 := JN_rq h1 hL2 q2
  exact a_icmp_eq (d334_10 (j := 19) rfl) (fun _ => nx _ _ _ _ h2 (by dsimp only; omega)) (fun q => absurd rfl q)
set_option maxHeartbeats 2000000 in
theorem case20 : lwC 968 := by
  intro G M F s i L u Q h hi hL hr hu nx
  obtain ⟨m0, m84, V0, V84⟩ := JN_0 h
  have HF := h.2.2.2.2
  refine a_aload_n (d334_10 (j := 22) rfl) rfl ?_
  refine lw_call (t := 89) (a := 0) (as := []) (r := []) (n1 := 0) (n2 := 0) (d334_10 (j := 23) rfl) rfl rfl (m0.trans (by decide +kernel)) ⟨by decide +kernel, Nat.le_of_ble_eq_true rfl, (show 1 ≤ dsMx 89 by decide +kernel)⟩ ⟨by decide +kernel, by decide +kernel⟩ (by omega) ?_
  refine a_ct (as := [uR 10 0]) h.1 ⟨V0, trivial⟩ (show 1 ≤ dsMx 89 by decide +kernel) rfl (cq89 h.2.2.1.1) (fun M1 hL1 q1 => ?_)
  have h1 := JN_cq h hL1 q1
  obtain ⟨m0, m84, V0, V84⟩ := JN_0 h1
  have HF := h1.2.2.2.2
  refine a_aload_n (d334_10 (j := 24) rfl) rfl ?_
  refine lw_call (t := 258) (a := 84) (as := []) (r := [vI _]) (n1 := 0) (n2 := 0) (d334_10 (j := 25) rfl) rfl rfl (m84.trans (by decide +kernel)) ⟨by decide +kernel, Nat.le_of_ble_eq_true rfl, (show 1 ≤ dsMx 258 by decide +kernel)⟩ ⟨by decide +kernel, by decide +kernel⟩ (by dsimp only; omega) ?_
  refine a_ct (as := [uR 11 84]) h1.1 ⟨V84, trivial⟩ (show 1 ≤ dsMx 258 by decide +kernel) rfl (rq258 h1.2.2.2.1.1) (fun M2 hL2 q2 => ?_)
  have h2 := JN_rq h1 hL2 q2
  exact a_icmp_eq (d334_10 (j := 26) rfl) (fun _ => nx _ _ _ _ h2 (by dsimp only; omega)) (fun q => absurd rfl q)
set_option maxHeartbeats 2000000 in
theorem case21 : lwC 981 := by
  intro G M F s i L u Q h hi hL hr hu nx
  obtain ⟨m0, m84, V0, V84⟩ := JN_0 h
  have HF := h.2.2.2.2
  refine a_aload_n (d334_10 (j := 29) rfl) rfl ?_
  refine st_arg (F := F) (n := 1) rfl rfl (d334_10 (j := 30) rfl) (d334_10 (j := 31) rfl) (d334_10 (j := 32) rfl) (d334_10 (j := 33) rfl) (d334_10 (j := 34) rfl) (by decide) hi hL HF ?_
  refine lw_call (t := 90) (a := 0) (as := [vI (F (i + 1))]) (r := []) (n1 := 0) (n2 := 0) (d334_10 (j := 35) rfl) rfl rfl (m0.trans (by decide +kernel)) ⟨by decide +kernel, Nat.le_of_ble_eq_true rfl, (show 2 ≤ dsMx 90 by decide +kernel)⟩ ⟨by decide +kernel, by decide +kernel⟩ (by omega) ?_
  refine a_ct (as := [uR 10 0, uI (F (i + 1))]) h.1 ⟨V0, trivial, trivial⟩ (show 2 ≤ dsMx 90 by decide +kernel) rfl (cq90 h.2.2.1.1) (fun M1 hL1 q1 => ?_)
  have h1 := JN_cq h hL1 q1
  obtain ⟨m0, m84, V0, V84⟩ := JN_0 h1
  have HF := h1.2.2.2.2
  refine a_aload_n (d334_10 (j := 36) rfl) rfl ?_
  refine st_arg (F := F) (n := 1) rfl rfl (d334_10 (j := 37) rfl) (d334_10 (j := 38) rfl) (d334_10 (j := 39) rfl) (d334_10 (j := 40) rfl) (d334_10 (j := 41) rfl) (by decide) hi hL HF ?_
  refine lw_call (t := 259) (a := 84) (as := [vI (F (i + 1))]) (r := [vI _]) (n1 := 0) (n2 := 0) (d334_10 (j := 42) rfl) rfl rfl (m84.trans (by decide +kernel)) ⟨by decide +kernel, Nat.le_of_ble_eq_true rfl, (show 2 ≤ dsMx 259 by decide +kernel)⟩ ⟨by decide +kernel, by decide +kernel⟩ (by dsimp only; omega) ?_
  refine a_ct (as := [uR 11 84, uI (F (i + 1))]) h1.1 ⟨V84, trivial, trivial⟩ (show 2 ≤ dsMx 259 by decide +kernel) rfl (rq259 h1.2.2.2.1.1) (fun M2 hL2 q2 => ?_)
  have h2 := JN_rq h1 hL2 q2
  exact a_icmp_eq (d334_10 (j := 43) rfl) (fun _ => nx _ _ _ _ h2 (by dsimp only; omega)) (fun q => absurd rfl q)
set_option maxHeartbeats 2000000 in
theorem case22 : lwC 1004 := by
  intro G M F s i L u Q h hi hL hr hu nx
  obtain ⟨m0, m84, V0, V84⟩ := JN_0 h
  have HF := h.2.2.2.2
  refine a_aload_n (d334_10 (j := 46) rfl) rfl ?_
  refine st_arg (F := F) (n := 1) rfl rfl (d334_10 (j := 47) rfl) (d334_10 (j := 48) rfl) (d334_10 (j := 49) rfl) (d334_11 (j := 0) rfl) (d334_11 (j := 1) rfl) (by decide) hi hL HF ?_
  refine lw_call (t := 91) (a := 0) (as := [vI (F (i + 1))]) (r := []) (n1 := 0) (n2 := 0) (d334_11 (j := 2) rfl) rfl rfl (m0.trans (by decide +kernel)) ⟨by decide +kernel, Nat.le_of_ble_eq_true rfl, (show 2 ≤ dsMx 91 by decide +kernel)⟩ ⟨by decide +kernel, by decide +kernel⟩ (by omega) ?_
  refine a_ct (as := [uR 10 0, uI (F (i + 1))]) h.1 ⟨V0, trivial, trivial⟩ (show 2 ≤ dsMx 91 by decide +kernel) rfl (cq91 h.2.2.1.1) (fun M1 hL1 q1 => ?_)
  have h1 := JN_cq h hL1 q1
  obtain ⟨m0, m84, V0, V84⟩ := JN_0 h1
  have HF := h1.2.2.2.2
  refine a_aload_n (d334_11 (j := 3) rfl) rfl ?_
  refine st_arg (F := F) (n := 1) rfl rfl (d334_11 (j := 4) rfl) (d334_11 (j := 5) rfl) (d334_11 (j := 6) rfl) (d334_11 (j := 7) rfl) (d334_11 (j := 8) rfl) (by decide) hi hL HF ?_
  refine lw_call (t := 260) (a := 84) (as := [vI (F (i + 1))]) (r := [vI _]) (n1 := 0) (n2 := 0) (d334_11 (j := 9) rfl) rfl rfl (m84.trans (by decide +kernel)) ⟨by decide +kernel, Nat.le_of_ble_eq_true rfl, (show 2 ≤ dsMx 260 by decide +kernel)⟩ ⟨by decide +kernel, by decide +kernel⟩ (by dsimp only; omega) ?_
  refine a_ct (as := [uR 11 84, uI (F (i + 1))]) h1.1 ⟨V84, trivial, trivial⟩ (show 2 ≤ dsMx 260 by decide +kernel) rfl (rq260 h1.2.2.2.1.1) (fun M2 hL2 q2 => ?_)
  have h2 := JN_rq h1 hL2 q2
  exact a_icmp_eq (d334_11 (j := 10) rfl) (fun _ => nx _ _ _ _ h2 (by dsimp only; omega)) (fun q => absurd rfl q)
set_option maxHeartbeats 2000000 in
theorem case23 : lwC 1027 := by
  intro G M F s i L u Q h hi hL hr hu nx
  obtain ⟨m0, m84, V0, V84⟩ := JN_0 h
  have HF := h.2.2.2.2
  refine a_aload_n (d334_11 (j := 13) rfl) rfl ?_
  refine st_arg (F := F) (n := 1) rfl rfl (d334_11 (j := 14) rfl) (d334_11 (j := 15) rfl) (d334_11 (j := 16) rfl) (d334_11 (j := 17) rfl) (d334_11 (j := 18) rfl) (by decide) hi hL HF ?_
  refine lw_call (t := 92) (a := 0) (as := [vI (F (i + 1))]) (r := []) (n1 := 0) (n2 := 0) (d334_11 (j := 19) rfl) rfl rfl (m0.trans (by decide +kernel)) ⟨by decide +kernel, Nat.le_of_ble_eq_true rfl, (show 2 ≤ dsMx 92 by decide +kernel)⟩ ⟨by decide +kernel, by decide +kernel⟩ (by omega) ?_
  refine a_ct (as := [uR 10 0, uI (F (i + 1))]) h.1 ⟨V0, trivial, trivial⟩ (show 2 ≤ dsMx 92 by decide +kernel) rfl (cq92 h.2.2.1.1) (fun M1 hL1 q1 => ?_)
  have h1 := JN_cq h hL1 q1
  obtain ⟨m0, m84, V0, V84⟩ := JN_0 h1
  have HF := h1.2.2.2.2
  refine a_aload_n (d334_11 (j := 20) rfl) rfl ?_
  refine st_arg (F := F) (n := 1) rfl rfl (d334_11 (j := 21) rfl) (d334_11 (j := 22) rfl) (d334_11 (j := 23) rfl) (d334_11 (j := 24) rfl) (d334_11 (j := 25) rfl) (by decide) hi hL HF ?_
  refine lw_call (t := 261) (a := 84) (as := [vI (F (i + 1))]) (r := [vI _]) (n1 := 0) (n2 := 0) (d334_11 (j := 26) rfl) rfl rfl (m84.trans (by decide +kernel)) ⟨by decide +kernel, Nat.le_of_ble_eq_true rfl, (show 2 ≤ dsMx 261 by decide +kernel)⟩ ⟨by decide +kernel, by decide +kernel⟩ (by dsimp only; omega) ?_
  refine a_ct (as := [uR 11 84, uI (F (i + 1))]) h1.1 ⟨V84, trivial, trivial⟩ (show 2 ≤ dsMx 261 by decide +kernel) rfl (rq261 h1.2.2.2.1.1) (fun M2 hL2 q2 => ?_)
  have h2 := JN_rq h1 hL2 q2
  exact a_icmp_eq (d334_11 (j := 27) rfl) (fun _ => nx _ _ _ _ h2 (by dsimp only; omega)) (fun q => absurd rfl q)
set_option maxHeartbeats 2000000 in
theorem case24 : lwC 1050 := by
  intro G M F s i L u Q h hi hL hr hu nx
  obtain ⟨m0, m84, V0, V84⟩ := JN_0 h
  have HF := h.2.2.2.2
  refine a_aload_n (d334_11 (j := 30) rfl) rfl ?_
  refine st_arg (F := F) (n := 1) rfl rfl (d334_11 (j := 31) rfl) (d334_11 (j := 32) rfl) (d334_11 (j := 33) rfl) (d334_11 (j := 34) rfl) (d334_11 (j := 35) rfl) (by decide) hi hL HF ?_
  refine lw_call (t := 93) (a := 0) (as := [vI (F (i + 1))]) (r := []) (n1 := 0) (n2 := 0) (d334_11 (j := 36) rfl) rfl rfl (m0.trans (by decide +kernel)) ⟨by decide +kernel, Nat.le_of_ble_eq_true rfl, (show 2 ≤ dsMx 93 by decide +kernel)⟩ ⟨by decide +kernel, by decide +kernel⟩ (by omega) ?_
  refine a_ct (as := [uR 10 0, uI (F (i + 1))]) h.1 ⟨V0, trivial, trivial⟩ (show 2 ≤ dsMx 93 by decide +kernel) rfl (cq93 h.2.2.1.1) (fun M1 hL1 q1 => ?_)
  have h1 := JN_cq h hL1 q1
  obtain ⟨m0, m84, V0, V84⟩ := JN_0 h1
  have HF := h1.2.2.2.2
  refine a_aload_n (d334_11 (j := 37) rfl) rfl ?_
  refine st_arg (F := F) (n := 1) rfl rfl (d334_11 (j := 38) rfl) (d334_11 (j := 39) rfl) (d334_11 (j := 40) rfl) (d334_11 (j := 41) rfl) (d334_11 (j := 42) rfl) (by decide) hi hL HF ?_
  refine lw_call (t := 262) (a := 84) (as := [vI (F (i + 1))]) (r := [vI _]) (n1 := 0) (n2 := 0) (d334_11 (j := 43) rfl) rfl rfl (m84.trans (by decide +kernel)) ⟨by decide +kernel, Nat.le_of_ble_eq_true rfl, (show 2 ≤ dsMx 262 by decide +kernel)⟩ ⟨by decide +kernel, by decide +kernel⟩ (by dsimp only; omega) ?_
  refine a_ct (as := [uR 11 84, uI (F (i + 1))]) h1.1 ⟨V84, trivial, trivial⟩ (show 2 ≤ dsMx 262 by decide +kernel) rfl (rq262 h1.2.2.2.1.1) (fun M2 hL2 q2 => ?_)
  have h2 := JN_rq h1 hL2 q2
  exact a_icmp_eq (d334_11 (j := 44) rfl) (fun _ => nx _ _ _ _ h2 (by dsimp only; omega)) (fun q => absurd rfl q)
set_option maxHeartbeats 2000000 in
theorem case25 : lwC 1073 := by
  intro G M F s i L u Q h hi hL hr hu nx
  obtain ⟨m0, m84, V0, V84⟩ := JN_0 h
  have HF := h.2.2.2.2
  refine a_aload_n (d334_11 (j := 47) rfl) rfl ?_
  refine st_arg (F := F) (n := 1) rfl rfl (d334_11 (j := 48) rfl) (d334_11 (j := 49) rfl) (d334_12 (j := 0) rfl) (d334_12 (j := 1) rfl) (d334_12 (j := 2) rfl) (by decide) hi hL HF ?_
  refine lw_call (t := 94) (a := 0) (as := [vI (F (i + 1))]) (r := []) (n1 := 0) (n2 := 0) (d334_12 (j := 3) rfl) rfl rfl (m0.trans (by decide +kernel)) ⟨by decide +kernel, Nat.le_of_ble_eq_true rfl, (show 2 ≤ dsMx 94 by decide +kernel)⟩ ⟨by decide +kernel, by decide +kernel⟩ (by omega) ?_
  refine a_ct (as := [uR 10 0, uI (F (i + 1))]) h.1 ⟨V0, trivial, trivial⟩ (show 2 ≤ dsMx 94 by decide +kernel) rfl (cq94 h.2.2.1.1) (fun M1 hL1 q1 => ?_)
  have h1 := JN_cq h hL1 q1
  obtain ⟨m0, m84, V0, V84⟩ := JN_0 h1
  have HF := h1.2.2.2.2
  refine a_aload_n (d334_12 (j := 4) rfl) rfl ?_
  refine st_arg (F := F) (n := 1) rfl rfl (d334_12 (j := 5) rfl) (d334_12 (j := 6) rfl) (d334_12 (j := 7) rfl) (d334_12 (j := 8) rfl) (d334_12 (j := 9) rfl) (by decide) hi hL HF ?_
  refine lw_call (t := 263) (a := 84) (as := [vI (F (i + 1))]) (r := [vI _]) (n1 := 0) (n2 := 0) (d334_12 (j := 10) rfl) rfl rfl (m84.trans (by decide +kernel)) ⟨by decide +kernel, Nat.le_of_ble_eq_true rfl, (show 2 ≤ dsMx 263 by decide +kernel)⟩ ⟨by decide +kernel, by decide +kernel⟩ (by dsimp only; omega) ?_
  refine a_ct (as := [uR 11 84, uI (F (i + 1))]) h1.1 ⟨V84, trivial, trivial⟩ (show 2 ≤ dsMx 263 by decide +kernel) rfl (rq263 h1.2.2.2.1.1) (fun M2 hL2 q2 => ?_)
  have h2 := JN_rq h1 hL2 q2
  exact a_icmp_eq (d334_12 (j := 11) rfl) (fun _ => nx _ _ _ _ h2 (by dsimp only; omega)) (fun q => absurd rfl q)
set_option maxHeartbeats 2000000 in
theorem case26 : lwC 1096 := by
  intro G M F s i L u Q h hi hL hr hu nx
  obtain ⟨m0, m84, V0, V84⟩ := JN_0 h
  have HF := h.2.2.2.2
  refine a_aload_n (d334_12 (j := 14) rfl) rfl ?_
  refine st_arg (F := F) (n := 1) rfl rfl (d334_12 (j := 15) rfl) (d334_12 (j := 16) rfl) (d334_12 (j := 17) rfl) (d334_12 (j := 18) rfl) (d334_12 (j := 19) rfl) (by decide) hi hL HF ?_
  refine lw_call (t := 95) (a := 0) (as := [vI (F (i + 1))]) (r := []) (n1 := 0) (n2 := 0) (d334_12 (j := 20) rfl) rfl rfl (m0.trans (by decide +kernel)) ⟨by decide +kernel, Nat.le_of_ble_eq_true rfl, (show 2 ≤ dsMx 95 by decide +kernel)⟩ ⟨by decide +kernel, by decide +kernel⟩ (by omega) ?_
  refine a_ct (as := [uR 10 0, uI (F (i + 1))]) h.1 ⟨V0, trivial, trivial⟩ (show 2 ≤ dsMx 95 by decide +kernel) rfl (cq95 h.2.2.1.1) (fun M1 hL1 q1 => ?_)
  have h1 := JN_cq h hL1 q1
  obtain ⟨m0, m84, V0, V84⟩ := JN_0 h1
  have HF := h1.2.2.2.2
  refine a_aload_n (d334_12 (j := 21) rfl) rfl ?_
  refine st_arg (F := F) (n := 1) rfl rfl (d334_12 (j := 22) rfl) (d334_12 (j := 23) rfl) (d334_12 (j := 24) rfl) (d334_12 (j := 25) rfl) (d334_12 (j := 26) rfl) (by decide) hi hL HF ?_
  refine lw_call (t := 264) (a := 84) (as := [vI (F (i + 1))]) (r := [vI _]) (n1 := 0) (n2 := 0) (d334_12 (j := 27) rfl) rfl rfl (m84.trans (by decide +kernel)) ⟨by decide +kernel, Nat.le_of_ble_eq_true rfl, (show 2 ≤ dsMx 264 by decide +kernel)⟩ ⟨by decide +kernel, by decide +kernel⟩ (by dsimp only; omega) ?_
  refine a_ct (as := [uR 11 84, uI (F (i + 1))]) h1.1 ⟨V84, trivial, trivial⟩ (show 2 ≤ dsMx 264 by decide +kernel) rfl (rq264 h1.2.2.2.1.1) (fun M2 hL2 q2 => ?_)
  have h2 := JN_rq h1 hL2 q2
  exact a_icmp_eq (d334_12 (j := 28) rfl) (fun _ => nx _ _ _ _ h2 (by dsimp only; omega)) (fun q => absurd rfl q)
set_option maxHeartbeats 2000000 in
theorem case27 : lwC 1119 := by
  intro G M F s i L u Q h hi hL hr hu nx
  obtain ⟨m0, m84, V0, V84⟩ := JN_0 h
  have HF := h.2.2.2.2
  refine a_aload_n (d334_12 (j := 31) rfl) rfl ?_
  refine st_arg (F := F) (n := 1) rfl rfl (d334_12 (j := 32) rfl) (d334_12 (j := 33) rfl) (d334_12 (j := 34) rfl) (d334_12 (j := 35) rfl) (d334_12 (j := 36) rfl) (by decide) hi hL HF ?_
  refine lw_call (t := 96) (a := 0) (as := [vI (F (i + 1))]) (r := []) (n1 := 0) (n2 := 0) (d334_12 (j := 37) rfl) rfl rfl (m0.trans (by decide +kernel)) ⟨by decide +kernel, Nat.le_of_ble_eq_true rfl, (show 2 ≤ dsMx 96 by decide +kernel)⟩ ⟨by decide +kernel, by decide +kernel⟩ (by omega) ?_
  refine a_ct (as := [uR 10 0, uI (F (i + 1))]) h.1 ⟨V0, trivial, trivial⟩ (show 2 ≤ dsMx 96 by decide +kernel) rfl (cq96 h.2.2.1.1) (fun M1 hL1 q1 => ?_)
  have h1 := JN_cq h hL1 q1
  obtain ⟨m0, m84, V0, V84⟩ := JN_0 h1
  have HF := h1.2.2.2.2
  refine a_aload_n (d334_12 (j := 38) rfl) rfl ?_
  refine st_arg (F := F) (n := 1) rfl rfl (d334_12 (j := 39) rfl) (d334_12 (j := 40) rfl) (d334_12 (j := 41) rfl) (d334_12 (j := 42) rfl) (d334_12 (j := 43) rfl) (by decide) hi hL HF ?_
  refine lw_call (t := 265) (a := 84) (as := [vI (F (i + 1))]) (r := [vI _]) (n1 := 0) (n2 := 0) (d334_12 (j := 44) rfl) rfl rfl (m84.trans (by decide +kernel)) ⟨by decide +kernel, Nat.le_of_ble_eq_true rfl, (show 2 ≤ dsMx 265 by decide +kernel)⟩ ⟨by decide +kernel, by decide +kernel⟩ (by dsimp only; omega) ?_
  refine a_ct (as := [uR 11 84, uI (F (i + 1))]) h1.1 ⟨V84, trivial, trivial⟩ (show 2 ≤ dsMx 265 by decide +kernel) rfl (rq265 h1.2.2.2.1.1) (fun M2 hL2 q2 => ?_)
  have h2 := JN_rq h1 hL2 q2
  exact a_icmp_eq (d334_12 (j := 45) rfl) (fun _ => nx _ _ _ _ h2 (by dsimp only; omega)) (fun q => absurd rfl q)
set_option maxHeartbeats 2000000 in
theorem case28 : lwC 1142 := by
  intro G M F s i L u Q h hi hL hr hu nx
  obtain ⟨m0, m84, V0, V84⟩ := JN_0 h
  have HF := h.2.2.2.2
  refine a_aload_n (d334_12 (j := 48) rfl) rfl ?_
  refine st_arg (F := F) (n := 1) rfl rfl (d334_12 (j := 49) rfl) (d334_13 (j := 0) rfl) (d334_13 (j := 1) rfl) (d334_13 (j := 2) rfl) (d334_13 (j := 3) rfl) (by decide) hi hL HF ?_
  refine st_arg (F := F) (n := 2) rfl rfl (d334_13 (j := 4) rfl) (d334_13 (j := 5) rfl) (d334_13 (j := 6) rfl) (d334_13 (j := 7) rfl) (d334_13 (j := 8) rfl) (by decide) hi hL HF ?_
  refine lw_call (t := 97) (a := 0) (as := [vI (F (i + 1)), vI (F (i + 2))]) (r := []) (n1 := 0) (n2 := 0) (d334_13 (j := 9) rfl) rfl rfl (m0.trans (by decide +kernel)) ⟨by decide +kernel, Nat.le_of_ble_eq_true rfl, (show 3 ≤ dsMx 97 by decide +kernel)⟩ ⟨by decide +kernel, by decide +kernel⟩ (by omega) ?_
  refine a_ct (as := [uR 10 0, uI (F (i + 1)), uI (F (i + 2))]) h.1 ⟨V0, trivial, trivial, trivial⟩ (show 3 ≤ dsMx 97 by decide +kernel) rfl (cq97 h.2.2.1.1) (fun M1 hL1 q1 => ?_)
  have h1 := JN_cq h hL1 q1
  obtain ⟨m0, m84, V0, V84⟩ := JN_0 h1
  have HF := h1.2.2.2.2
  refine a_aload_n (d334_13 (j := 10) rfl) rfl ?_
  refine st_arg (F := F) (n := 1) rfl rfl (d334_13 (j := 11) rfl) (d334_13 (j := 12) rfl) (d334_13 (j := 13) rfl) (d334_13 (j := 14) rfl) (d334_13 (j := 15) rfl) (by decide) hi hL HF ?_
  refine st_arg (F := F) (n := 2) rfl rfl (d334_13 (j := 16) rfl) (d334_13 (j := 17) rfl) (d334_13 (j := 18) rfl) (d334_13 (j := 19) rfl) (d334_13 (j := 20) rfl) (by decide) hi hL HF ?_
  refine lw_call (t := 267) (a := 84) (as := [vI (F (i + 1)), vI (F (i + 2))]) (r := [vI _]) (n1 := 0) (n2 := 0) (d334_13 (j := 21) rfl) rfl rfl (m84.trans (by decide +kernel)) ⟨by decide +kernel, Nat.le_of_ble_eq_true rfl, (show 3 ≤ dsMx 267 by decide +kernel)⟩ ⟨by decide +kernel, by decide +kernel⟩ (by dsimp only; omega) ?_
  refine a_ct (as := [uR 11 84, uI (F (i + 1)), uI (F (i + 2))]) h1.1 ⟨V84, trivial, trivial, trivial⟩ (show 3 ≤ dsMx 267 by decide +kernel) rfl (rq267 h1.2.2.2.1.1) (fun M2 hL2 q2 => ?_)
  have h2 := JN_rq h1 hL2 q2
  exact a_icmp_eq (d334_13 (j := 22) rfl) (fun _ => nx _ _ _ _ h2 (by dsimp only; omega)) (fun q => absurd rfl q)
set_option maxHeartbeats 2000000 in
theorem case29 : lwC 1175 := by
  intro G M F s i L u Q h hi hL hr hu nx
  obtain ⟨m0, m84, V0, V84⟩ := JN_0 h
  have HF := h.2.2.2.2
  refine a_aload_n (d334_13 (j := 25) rfl) rfl ?_
  refine st_arg (F := F) (n := 1) rfl rfl (d334_13 (j := 26) rfl) (d334_13 (j := 27) rfl) (d334_13 (j := 28) rfl) (d334_13 (j := 29) rfl) (d334_13 (j := 30) rfl) (by decide) hi hL HF ?_
  refine st_arg (F := F) (n := 2) rfl rfl (d334_13 (j := 31) rfl) (d334_13 (j := 32) rfl) (d334_13 (j := 33) rfl) (d334_13 (j := 34) rfl) (d334_13 (j := 35) rfl) (by decide) hi hL HF ?_
  refine lw_call (t := 98) (a := 0) (as := [vI (F (i + 1)), vI (F (i + 2))]) (r := []) (n1 := 0) (n2 := 0) (d334_13 (j := 36) rfl) rfl rfl (m0.trans (by decide +kernel)) ⟨by decide +kernel, Nat.le_of_ble_eq_true rfl, (show 3 ≤ dsMx 98 by decide +kernel)⟩ ⟨by decide +kernel, by decide +kernel⟩ (by omega) ?_
  refine a_ct (as := [uR 10 0, uI (F (i + 1)), uI (F (i + 2))]) h.1 ⟨V0, trivial, trivial, trivial⟩ (show 3 ≤ dsMx 98 by decide +kernel) rfl (cq98 h.2.2.1.1) (fun M1 hL1 q1 => ?_)
  have h1 := JN_cq h hL1 q1
  obtain ⟨m0, m84, V0, V84⟩ := JN_0 h1
  have HF := h1.2.2.2.2
  refine a_aload_n (d334_13 (j := 37) rfl) rfl ?_
  refine st_arg (F := F) (n := 1) rfl rfl (d334_13 (j := 38) rfl) (d334_13 (j := 39) rfl) (d334_13 (j := 40) rfl) (d334_13 (j := 41) rfl) (d334_13 (j := 42) rfl) (by decide) hi hL HF ?_
  refine st_arg (F := F) (n := 2) rfl rfl (d334_13 (j := 43) rfl) (d334_13 (j := 44) rfl) (d334_13 (j := 45) rfl) (d334_13 (j := 46) rfl) (d334_13 (j := 47) rfl) (by decide) hi hL HF ?_
  refine lw_call (t := 268) (a := 84) (as := [vI (F (i + 1)), vI (F (i + 2))]) (r := [vI _]) (n1 := 0) (n2 := 0) (d334_13 (j := 48) rfl) rfl rfl (m84.trans (by decide +kernel)) ⟨by decide +kernel, Nat.le_of_ble_eq_true rfl, (show 3 ≤ dsMx 268 by decide +kernel)⟩ ⟨by decide +kernel, by decide +kernel⟩ (by dsimp only; omega) ?_
  refine a_ct (as := [uR 11 84, uI (F (i + 1)), uI (F (i + 2))]) h1.1 ⟨V84, trivial, trivial, trivial⟩ (show 3 ≤ dsMx 268 by decide +kernel) rfl (rq268 h1.2.2.2.1.1) (fun M2 hL2 q2 => ?_)
  have h2 := JN_rq h1 hL2 q2
  exact a_icmp_eq (d334_13 (j := 49) rfl) (fun _ => nx _ _ _ _ h2 (by dsimp only; omega)) (fun q => absurd rfl q)
