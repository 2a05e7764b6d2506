/-! cases of the law -/
set_option maxHeartbeats 2000000 in
theorem case45 : lwC 1543 := by
  intro G M F s i L u Q h hi hL hr hu nx
  obtain ⟨m0, m84, V0, V84⟩ := JN_0 h
  have HF := h.2.2.2.2
  refine a_aload_n (d334_18 (j := 47) rfl) rfl ?_
  refine lw_call (t := 114) (a := 0) (as := []) (r := []) (n1 := 0) (n2 := 0) (d334_18 (j := 48) rfl) rfl rfl (m0.trans (by decide +kernel)) ⟨by decide +kernel, Nat.le_of_ble_eq_true rfl, (show 1 ≤ dsMx 114 by decide +kernel)⟩ ⟨by decide +kernel, by decide +kernel⟩ (by omega) ?_
  refine a_ct (as := [uR 10 0]) h.1 ⟨V0, trivial⟩ (show 1 ≤ dsMx 114 by decide +kernel) rfl (cq114 h.2.2.1.1) (fun M1 hL1 q1 => ?_)
  have h1 := JN_cq h hL1 q1
  obtain ⟨m0, m84, V0, V84⟩ := JN_0 h1
  have HF := h1.2.2.2.2
  refine a_aload_n (d334_18 (j := 49) rfl) rfl ?_
  refine lw_call (t := 286) (a := 84) (as := []) (r := [vI _]) (n1 := 0) (n2 := 0) (d334_19 (j := 0) rfl) rfl rfl (m84.trans (by decide +kernel)) ⟨by decide +kernel, Nat.le_of_ble_eq_true rfl, (show 1 ≤ dsMx 286 by decide +kernel)⟩ ⟨by decide +kernel, by decide +kernel⟩ (by dsimp only; omega) ?_
  refine a_ct (as := [uR 11 84]) h1.1 ⟨V84, trivial⟩ (show 1 ≤ dsMx 286 by decide +kernel) rfl (rq286 h1.2.2.2.1.1) (fun M2 hL2 q2 => ?_)
  have h2 := JN_rq h1 hL2 q2
  exact a_icmp_eq (d334_19 (j := 1) rfl) (fun _ => nx _ _ _ _ h2 (by dsimp only; omega)) (fun q => absurd rfl q)
set_option maxHeartbeats 2000000 in
theorem case46 : lwC 1556 := by
  intro G M F s i L u Q h hi hL hr hu nx
  obtain ⟨m0, m84, V0, V84⟩ := JN_0 h
  have HF := h.2.2.2.2
  refine a_aload_n (d334_19 (j := 4) rfl) rfl ?_
  refine st_arg (F := F) (n := 1) rfl rfl (d334_19 (j := 5) rfl) (d334_19 (j := 6) rfl) (d334_19 (j := 7) rfl) (d334_19 (j := 8) rfl) (d334_19 (j := 9) rfl) (by decide) hi hL HF ?_
  refine lw_call (t := 115) (a := 0) (as := [vI (F (i + 1))]) (r := []) (n1 := 0) (n2 := 0) (d334_19 (j := 10) rfl) rfl rfl (m0.trans (by decide +kernel)) ⟨by decide +kernel, Nat.le_of_ble_eq_true rfl, (show 2 ≤ dsMx 115 by decide +kernel)⟩ ⟨by decide +kernel, by decide +kernel⟩ (by omega) ?_
  refine a_ct (as := [uR 10 0, uI (F (i + 1))]) h.1 ⟨V0, trivial, trivial⟩ (show 2 ≤ dsMx 115 by decide +kernel) rfl (cq115 h.2.2.1.1) (fun M1 hL1 q1 => ?_)
  have h1 := JN_cq h hL1 q1
  obtain ⟨m0, m84, V0, V84⟩ := JN_0 h1
  have HF := h1.2.2.2.2
  refine a_aload_n (d334_19 (j := 11) rfl) rfl ?_
  refine st_arg (F := F) (n := 1) rfl rfl (d334_19 (j := 12) rfl) (d334_19 (j := 13) rfl) (d334_19 (j := 14) rfl) (d334_19 (j := 15) rfl) (d334_19 (j := 16) rfl) (by decide) hi hL HF ?_
  refine lw_call (t := 287) (a := 84) (as := [vI (F (i + 1))]) (r := [vI _]) (n1 := 0) (n2 := 0) (d334_19 (j := 17) rfl) rfl rfl (m84.trans (by decide +kernel)) ⟨by decide +kernel, Nat.le_of_ble_eq_true rfl, (show 2 ≤ dsMx 287 by decide +kernel)⟩ ⟨by decide +kernel, by decide +kernel⟩ (by dsimp only; omega) ?_
  refine a_ct (as := [uR 11 84, uI (F (i + 1))]) h1.1 ⟨V84, trivial, trivial⟩ (show 2 ≤ dsMx 287 by decide +kernel) rfl (rq287 h1.2.2.2.1.1) (fun M2 hL2 q2 => ?_)
  have h2 := JN_rq h1 hL2 q2
  exact a_icmp_eq (d334_19 (j := 18) rfl) (fun _ => nx _ _ _ _ h2 (by dsimp only; omega)) (fun q => absurd rfl q)
set_option maxHeartbeats 2000000 in
theorem case47 : lwC 1579 := by
  intro G M F s i L u Q h hi hL hr hu nx
  obtain ⟨m0, m84, V0, V84⟩ := JN_0 h
  have HF := h.2.2.2.2
  refine a_aload_n (d334_19 (j := 21) rfl) rfl ?_
  refine lw_call (t := 116) (a := 0) (as := []) (r := []) (n1 := 0) (n2 := 0) (d334_19 (j := 22) rfl) rfl rfl (m0.trans (by decide +kernel)) ⟨by decide +kernel, Nat.le_of_ble_eq_true rfl, (show 1 ≤ dsMx 116 by decide +kernel)⟩ ⟨by decide +kernel, by decide +kernel⟩ (by omega) ?_
  refine a_ct (as := [uR 10 0]) h.1 ⟨V0, trivial⟩ (show 1 ≤ dsMx 116 by decide +kernel) rfl (cq116 h.2.2.1.1) (fun M1 hL1 q1 => ?_)
  have h1 := JN_cq h hL1 q1
  obtain ⟨m0, m84, V0, V84⟩ := JN_0 h1
  have HF := h1.2.2.2.2
  refine a_aload_n (d334_19 (j := 23) rfl) rfl ?_
  refine lw_call (t := 288) (a := 84) (as := []) (r := [vI _]) (n1 := 0) (n2 := 0) (d334_19 (j := 24) rfl) rfl rfl (m84.trans (by decide +kernel)) ⟨by decide +kernel, Nat.le_of_ble_eq_true rfl, (show 1 ≤ dsMx 288 by decide +kernel)⟩ ⟨by decide +kernel, by decide +kernel⟩ (by dsimp only; omega) ?_
  refine a_ct (as := [uR 11 84]) h1.1 ⟨V84, trivial⟩ (show 1 ≤ dsMx 288 by decide +kernel) rfl (rq288 h1.2.2.2.1.1) (fun M2 hL2 q2 => ?_)
  have h2 := JN_rq h1 hL2 q2
  exact a_icmp_eq (d334_19 (j := 25) rfl) (fun _ => nx _ _ _ _ h2 (by dsimp only; omega)) (fun q => absurd rfl q)
set_option maxHeartbeats 2000000 in
theorem case48 : lwC 1592 := by
  intro G M F s i L u Q h hi hL hr hu nx
  obtain ⟨m0, m84, V0, V84⟩ := JN_0 h
  have HF := h.2.2.2.2
  refine a_aload_n (d334_19 (j := 28) rfl) rfl ?_
  refine st_arg (F := F) (n := 1) rfl rfl (d334_19 (j := 29) rfl) (d334_19 (j := 30) rfl) (d334_19 (j := 31) rfl) (d334_19 (j := 32) rfl) (d334_19 (j := 33) rfl) (by decide) hi hL HF ?_
  refine st_arg (F := F) (n := 2) rfl rfl (d334_19 (j := 34) rfl) (d334_19 (j := 35) rfl) (d334_19 (j := 36) rfl) (d334_19 (j := 37) rfl) (d334_19 (j := 38) rfl) (by decide) hi hL HF ?_
  refine lw_call (t := 117) (a := 0) (as := [vI (F (i + 1)), vI (F (i + 2))]) (r := []) (n1 := 0) (n2 := 0) (d334_19 (j := 39) rfl) rfl rfl (m0.trans (by decide +kernel)) ⟨by decide +kernel, Nat.le_of_ble_eq_true rfl, (show 3 ≤ dsMx 117 by decide +kernel)⟩ ⟨by decide +kernel, by decide +kernel⟩ (by omega) ?_
  refine a_ct (as := [uR 10 0, uI (F (i + 1)), uI (F (i + 2))]) h.1 ⟨V0, trivial, trivial, trivial⟩ (show 3 ≤ dsMx 117 by decide +kernel) rfl (cq117 h.2.2.1.1 h.2.2.1.2.1) (fun M1 hL1 q1 => ?_)
  have h1 := JN_cq h hL1 q1
  obtain ⟨m0, m84, V0, V84⟩ := JN_0 h1
  have HF := h1.2.2.2.2
  refine a_aload_n (d334_19 (j := 40) rfl) rfl ?_
  refine st_arg (F := F) (n := 1) rfl rfl (d334_19 (j := 41) rfl) (d334_19 (j := 42) rfl) (d334_19 (j := 43) rfl) (d334_19 (j := 44) rfl) (d334_19 (j := 45) rfl) (by decide) hi hL HF ?_
  refine st_arg (F := F) (n := 2) rfl rfl (d334_19 (j := 46) rfl) (d334_19 (j := 47) rfl) (d334_19 (j := 48) rfl) (d334_19 (j := 49) rfl) (d334_20 (j := 0) rfl) (by decide) hi hL HF ?_
  refine lw_call (t := 293) (a := 84) (as := [vI (F (i + 1)), vI (F (i + 2))]) (r := [vI _]) (n1 := 0) (n2 := 0) (d334_20 (j := 1) rfl) rfl rfl (m84.trans (by decide +kernel)) ⟨by decide +kernel, Nat.le_of_ble_eq_true rfl, (show 3 ≤ dsMx 293 by decide +kernel)⟩ ⟨by decide +kernel, by decide +kernel⟩ (by dsimp only; omega) ?_
  refine a_ct (as := [uR 11 84, uI (F (i + 1)), uI (F (i + 2))]) h1.1 ⟨V84, trivial, trivial, trivial⟩ (show 3 ≤ dsMx 293 by decide +kernel) rfl (rq293 h1.2.2.2.1.1 h1.2.2.2.1.2.1) (fun M2 hL2 q2 => ?_)
  have h2 := JN_rq h1 hL2 q2
  exact a_icmp_eq (d334_20 (j := 2) rfl) (fun _ => nx _ _ _ _ h2 (by dsimp only; omega)) (fun q => absurd rfl q)
set_option maxHeartbeats 2000000 in
theorem case49 : lwC 1625 := by
  intro G M F s i L u Q h hi hL hr hu nx
  obtain ⟨m0, m84, V0, V84⟩ := JN_0 h
  have HF := h.2.2.2.2
  refine a_aload_n (d334_20 (j := 5) rfl) rfl ?_
  refine st_arg (F := F) (n := 1) rfl rfl (d334_20 (j := 6) rfl) (d334_20 (j := 7) rfl) (d334_20 (j := 8) rfl) (d334_20 (j := 9) rfl) (d334_20 (j := 10) rfl) (by decide) hi hL HF ?_
  refine st_arg (F := F) (n := 2) rfl rfl (d334_20 (j := 11) rfl) (d334_20 (j := 12) rfl) (d334_20 (j := 13) rfl) (d334_20 (j := 14) rfl) (d334_20 (j := 15) rfl) (by decide) hi hL HF ?_
  refine lw_call (t := 118) (a := 0) (as := [vI (F (i + 1)), vI (F (i + 2))]) (r := []) (n1 := 0) (n2 := 0) (d334_20 (j := 16) rfl) rfl rfl (m0.trans (by decide +kernel)) ⟨by decide +kernel, Nat.le_of_ble_eq_true rfl, (show 3 ≤ dsMx 118 by decide +kernel)⟩ ⟨by decide +kernel, by decide +kernel⟩ (by omega) ?_
  refine a_ct (as := [uR 10 0, uI (F (i + 1)), uI (F (i + 2))]) h.1 ⟨V0, trivial, trivial, trivial⟩ (show 3 ≤ dsMx 118 by decide +kernel) rfl (cq118 h.2.2.1.1 h.2.2.1.2.1) (fun M1 hL1 q1 => ?_)
  have h1 := JN_cq h hL1 q1
  obtain ⟨m0, m84, V0, V84⟩ := JN_0 h1
  have HF := h1.2.2.2.2
  refine a_aload_n (d334_20 (j := 17) rfl) rfl ?_
  refine st_arg (F := F) (n := 1) rfl rfl (d334_20 (j := 18) rfl) (d334_20 (j := 19) rfl) (d334_20 (j := 20) rfl) (d334_20 (j := 21) rfl) (d334_20 (j := 22) rfl) (by decide) hi hL HF ?_
  refine st_arg (F := F) (n := 2) rfl rfl (d334_20 (j := 23) rfl) (d334_20 (j := 24) rfl) (d334_20 (j := 25) rfl) (d334_20 (j := 26) rfl) (d334_20 (j := 27) rfl) (by decide) hi hL HF ?_
  refine lw_call (t := 294) (a := 84) (as := [vI (F (i + 1)), vI (F (i + 2))]) (r := [vI _]) (n1 := 0) (n2 := 0) (d334_20 (j := 28) rfl) rfl rfl (m84.trans (by decide +kernel)) ⟨by decide +kernel, Nat.le_of_ble_eq_true rfl, (show 3 ≤ dsMx 294 by decide +kernel)⟩ ⟨by decide +kernel, by decide +kernel⟩ (by dsimp only; omega) ?_
  refine a_ct (as := [uR 11 84, uI (F (i + 1)), uI (F (i + 2))]) h1.1 ⟨V84, trivial, trivial, trivial⟩ (show 3 ≤ dsMx 294 by decide +kernel) rfl (rq294 h1.2.2.2.1.1 h1.2.2.2.1.2.1) (fun M2 hL2 q2 => ?_)
  have h2 := JN_rq h1 hL2 q2
  exact a_icmp_eq (d334_20 (j := 29) rfl) (fun _ => nx _ _ _ _ h2 (by dsimp only; omega)) (fun q => absurd rfl q)
set_option maxHeartbeats 2000000 in
theorem case50 : lwC 1658 := by
  intro G M F s i L u Q h hi hL hr hu nx
  obtain ⟨m0, m84, V0, V84⟩ := JN_0 h
  have HF := h.2.2.2.2
  refine a_aload_n (d334_20 (j := 32) rfl) rfl ?_
  refine st_arg (F := F) (n := 1) rfl rfl (d334_20 (j := 33) rfl) (d334_20 (j := 34) rfl) (d334_20 (j := 35) rfl) (d334_20 (j := 36) rfl) (d334_20 (j := 37) rfl) (by decide) hi hL HF ?_
  refine st_arg (F := F) (n := 2) rfl rfl (d334_20 (j := 38) rfl) (d334_20 (j := 39) rfl) (d334_20 (j := 40) rfl) (d334_20 (j := 41) rfl) (d334_20 (j := 42) rfl) (by decide) hi hL HF ?_
  refine lw_call (t := 119) (a := 0) (as := [vI (F (i + 1)), vI (F (i + 2))]) (r := []) (n1 := 0) (n2 := 0) (d334_20 (j := 43) rfl) rfl rfl (m0.trans (by decide +kernel)) ⟨by decide +kernel, Nat.le_of_ble_eq_true rfl, (show 3 ≤ dsMx 119 by decide +kernel)⟩ ⟨by decide +kernel, by decide +kernel⟩ (by omega) ?_
  refine a_ct (as := [uR 10 0, uI (F (i + 1)), uI (F (i + 2))]) h.1 ⟨V0, trivial, trivial, trivial⟩ (show 3 ≤ dsMx 119 by decide +kernel) rfl (cq119 h.2.2.1.1 h.2.2.1.2.1) (fun M1 hL1 q1 => ?_)
  have h1 := JN_cq h hL1 q1
  obtain ⟨m0, m84, V0, V84⟩ := JN_0 h1
  have HF := h1.2.2.2.2
  refine a_aload_n (d334_20 (j := 44) rfl) rfl ?_
  refine st_arg (F := F) (n := 1) rfl rfl (d334_20 (j := 45) rfl) (d334_20 (j := 46) rfl) (d334_20 (j := 47) rfl) (d334_20 (j := 48) rfl) (d334_20 (j := 49) rfl) (by decide) hi hL HF ?_
  refine st_arg (F := F) (n := 2) rfl rfl (d334_21 (j := 0) rfl) (d334_21 (j := 1) rfl) (d334_21 (j := 2) rfl) (d334_21 (j := 3) rfl) (d334_21 (j := 4) rfl) (by decide) hi hL HF ?_
  refine lw_call (t := 295) (a := 84) (as := [vI (F (i + 1)), vI (F (i + 2))]) (r := [vI _]) (n1 := 0) (n2 := 0) (d334_21 (j := 5) rfl) rfl rfl (m84.trans (by decide +kernel)) ⟨by decide +kernel, Nat.le_of_ble_eq_true rfl, (show 3 ≤ dsMx 295 by decide +kernel)⟩ ⟨by decide +kernel, by decide +kernel⟩ (by dsimp only; omega) ?_
  refine a_ct (as := [uR 11 84, uI (F (i + 1)), uI (F (i + 2))]) h1.1 ⟨V84, trivial, trivial, trivial⟩ (show 3 ≤ dsMx 295 by decide +kernel) rfl (rq295 h1.2.2.2.1.1 h1.2.2.2.1.2.1) (fun M2 hL2 q2 => ?_)
  have h2 := JN_rq h1 hL2 q2
  exact a_icmp_eq (d334_21 (j := 6) rfl) (fun _ => nx _ _ _ _ h2 (by dsimp only; omega)) (fun q => absurd rfl q)
set_option maxHeartbeats 2000000 in
theorem case51 : lwC 1691 := by
  intro G M F s i L u Q h hi hL hr hu nx
  obtain ⟨m0, m84, V0, V84⟩ := JN_0 h
  have HF := h.2.2.2.2
  refine a_aload_n (d334_21 (j := 9) rfl) rfl ?_
  refine st_arg (F := F) (n := 1) rfl rfl (d334_21 (j := 10) rfl) (d334_21 (j := 11) rfl) (d334_21 (j := 12) rfl) (d334_21 (j := 13) rfl) (d334_21 (j := 14) rfl) (by decide) hi hL HF ?_
  refine st_arg (F := F) (n := 2) rfl rfl (d334_21 (j := 15) rfl) (d334_21 (j := 16) rfl) (d334_21 (j := 17) rfl) (d334_21 (j := 18) rfl) (d334_21 (j := 19) rfl) (by decide) hi hL HF ?_
  refine lw_call (t := 120) (a := 0) (as := [vI (F (i + 1)), vI (F (i + 2))]) (r := []) (n1 := 0) (n2 := 0) (d334_21 (j := 20) rfl) rfl rfl (m0.trans (by decide +kernel)) ⟨by decide +kernel, Nat.le_of_ble_eq_true rfl, (show 3 ≤ dsMx 120 by decide +kernel)⟩ ⟨by decide +kernel, by decide +kernel⟩ (by omega) ?_
  refine a_ct (as := [uR 10 0, uI (F (i + 1)), uI (F (i + 2))]) h.1 ⟨V0, trivial, trivial, trivial⟩ (show 3 ≤ dsMx 120 by decide +kernel) rfl (cq120 h.2.2.1.1 h.2.2.1.2.1) (fun M1 hL1 q1 => ?_)
  have h1 := JN_cq h hL1 q1
  obtain ⟨m0, m84, V0, V84⟩ := JN_0 h1
  have HF := h1.2.2.2.2
  refine a_aload_n (d334_21 (j := 21) rfl) rfl ?_
  refine st_arg (F := F) (n := 1) rfl rfl (d334_21 (j := 22) rfl) (d334_21 (j := 23) rfl) (d334_21 (j := 24) rfl) (d334_21 (j := 25) rfl) (d334_21 (j := 26) rfl) (by decide) hi hL HF ?_
  refine st_arg (F := F) (n := 2) rfl rfl (d334_21 (j := 27) rfl) (d334_21 (j := 28) rfl) (d334_21 (j := 29) rfl) (d334_21 (j := 30) rfl) (d334_21 (j := 31) rfl) (by decide) hi hL HF ?_
  refine lw_call (t := 298) (a := 84) (as := [vI (F (i + 1)), vI (F (i + 2))]) (r := [vI _]) (n1 := 0) (n2 := 0) (d334_21 (j := 32) rfl) rfl rfl (m84.trans (by decide +kernel)) ⟨by decide +kernel, Nat.le_of_ble_eq_true rfl, (show 3 ≤ dsMx 298 by decide +kernel)⟩ ⟨by decide +kernel, by decide +kernel⟩ (by dsimp only; omega) ?_
  refine a_ct (as := [uR 11 84, uI (F (i + 1)), uI (F (i + 2))]) h1.1 ⟨V84, trivial, trivial, trivial⟩ (show 3 ≤ dsMx 298 by decide +kernel) rfl (rq298 h1.2.2.2.1.1 h1.2.2.2.1.2.1) (fun M2 hL2 q2 => ?_)
  have h2 := JN_rq h1 hL2 q2
  exact a_icmp_eq (d334_21 (j := 33) rfl) (fun _ => nx _ _ _ _ h2 (by dsimp only; omega)) (fun q => absurd rfl q)
set_option maxHeartbeats 2000000 in
theorem case52 : lwC 1724 := by
  intro G M F s i L u Q h hi hL hr hu nx
  obtain ⟨m0, m84, V0, V84⟩ := JN_0 h
  have HF := h.2.2.2.2
  refine a_aload_n (d334_21 (j := 36) rfl) rfl ?_
  refine st_arg (F := F) (n := 1) rfl rfl (d334_21 (j := 37) rfl) (d334_21 (j := 38) rfl) (d334_21 (j := 39) rfl) (d334_21 (j := 40) rfl) (d334_21 (j := 41) rfl) (by decide) hi hL HF ?_
  refine st_arg (F := F) (n := 2) rfl rfl (d334_21 (j := 42) rfl) (d334_21 (j := 43) rfl) (d334_21 (j := 44) rfl) (d334_21 (j := 45) rfl) (d334_21 (j := 46) rfl) (by decide) hi hL HF ?_
  refine lw_call (t := 121) (a := 0) (as := [vI (F (i + 1)), vI (F (i + 2))]) (r := []) (n1 := 0) (n2 := 0) (d334_21 (j := 47) rfl) rfl rfl (m0.trans (by decide +kernel)) ⟨by decide +kernel, Nat.le_of_ble_eq_true rfl, (show 3 ≤ dsMx 121 by decide +kernel)⟩ ⟨by decide +kernel, by decide +kernel⟩ (by omega) ?_
  refine a_ct (as := [uR 10 0, uI (F (i + 1)), uI (F (i + 2))]) h.1 ⟨V0, trivial, trivial, trivial⟩ (show 3 ≤ dsMx 121 by decide +kernel) rfl (cq121 h.2.2.1.1 h.2.2.1.2.1) (fun M1 hL1 q1 => ?_)
  have h1 := JN_cq h hL1 q1
  obtain ⟨m0, m84, V0, V84⟩ := JN_0 h1
  have HF := h1.2.2.2.2
  refine a_aload_n (d334_21 (j := 48) rfl) rfl ?_
  refine st_arg (F := F) (n := 1) rfl rfl (d334_21 (j := 49) rfl) (d334_22 (j := 0) rfl) (d334_22 (j := 1) rfl) (d334_22 (j := 2) rfl) (d334_22 (j := 3) rfl) (by decide) hi hL HF ?_
  refine st_arg (F := F) (n := 2) rfl rfl (d334_22 (j := 4) rfl) (d334_22 (j := 5) rfl) (d334_22 (j := 6) rfl) (d334_22 (j := 7) rfl) (d334_22 (j := 8) rfl) (by decide) hi hL HF ?_
  refine lw_call (t := 299) (a := 84) (as := [vI (F (i + 1)), vI (F (i + 2))]) (r := [vI _]) (n1 := 0) (n2 := 0) (d334_22 (j := 9) rfl) rfl rfl (m84.trans (by decide +kernel)) ⟨by decide +kernel, Nat.le_of_ble_eq_true rfl, (show 3 ≤ dsMx 299 by decide +kernel)⟩ ⟨by decide +kernel, by decide +kernel⟩ (by dsimp only; omega) ?_
  refine a_ct (as := [uR 11 84, uI (F (i + 1)), uI (F (i + 2))]) h1.1 ⟨V84, trivial, trivial, trivial⟩ (show 3 ≤ dsMx 299 by decide +kernel) rfl (rq299 h1.2.2.2.1.1 h1.2.2.2.1.2.1) (fun M2 hL2 q2 => ?_)
  have h2 := JN_rq h1 hL2 q2
  exact a_icmp_eq (d334_22 (j := 10) rfl) (fun _ => nx _ _ _ _ h2 (by dsimp only; omega)) (fun q => absurd rfl q)
set_option maxHeartbeats 2000000 in
theorem case53 : lwC 1757 := by
  intro G M F s i L u Q h hi hL hr hu nx
  obtain ⟨m0, m84, V0, V84⟩ := JN_0 h
  have HF := h.2.2.2.2
  refine a_aload_n (d334_22 (j := 13) rfl) rfl ?_
  refine st_arg (F := F) (n := 1) rfl rfl (d334_22 (j := 14) rfl) (d334_22 (j := 15) rfl) (d334_22 (j := 16) rfl) (d334_22 (j := 17) rfl) (d334_22 (j := 18) rfl) (by decide) hi hL HF ?_
  refine lw_call (t := 122) (a := 0) (as := [vI (F (i + 1))]) (r := []) (n1 := 0) (n2 := 0) (d334_22 (j := 19) rfl) rfl rfl (m0.trans (by decide +kernel)) ⟨by decide +kernel, Nat.le_of_ble_eq_true rfl, (show 2 ≤ dsMx 122 by decide +kernel)⟩ ⟨by decide +kernel, by decide +kernel⟩ (by omega) ?_
  refine a_ct (as := [uR 10 0, uI (F (i + 1))]) h.1 ⟨V0, trivial, trivial⟩ (show 2 ≤ dsMx 122 by decide +kernel) rfl (cq122 h.2.2.1.1 h.2.2.1.2.1) (fun M1 hL1 q1 => ?_)
  have h1 := JN_cq h hL1 q1
  obtain ⟨m0, m84, V0, V84⟩ := JN_0 h1
  have HF := h1.2.2.2.2
  refine a_aload_n (d334_22 (j := 20) rfl) rfl ?_
  refine st_arg (F := F) (n := 1) rfl rfl (d334_22 (j := 21) rfl) (d334_22 (j := 22) rfl) (d334_22 (j := 23) rfl) (d334_22 (j := 24) rfl) (d334_22 (j := 25) rfl) (by decide) hi hL HF ?_
  refine lw_call (t := 300) (a := 84) (as := [vI (F (i + 1))]) (r := [vI _]) (n1 := 0) (n2 := 0) (d334_22 (j := 26) rfl) rfl rfl (m84.trans (by decide +kernel)) ⟨by decide +kernel, Nat.le_of_ble_eq_true rfl, (show 2 ≤ dsMx 300 by decide +kernel)⟩ ⟨by decide +kernel, by decide +kernel⟩ (by dsimp only; omega) ?_
  refine a_ct (as := [uR 11 84, uI (F (i + 1))]) h1.1 ⟨V84, trivial, trivial⟩ (show 2 ≤ dsMx 300 by decide +kernel) rfl (rq300 h1.2.2.2.1.1 h1.2.2.2.1.2.1) (fun M2 hL2 q2 => ?_)
  have h2 := JN_rq h1 hL2 q2
  exact a_icmp_eq (d334_22 (j := 27) rfl) (fun _ => nx _ _ _ _ h2 (by dsimp only; omega)) (fun q => absurd rfl q)
set_option maxHeartbeats 2000000 in
theorem case54 : lwC 1780 := by
  intro G M F s i L u Q h hi hL hr hu nx
  obtain ⟨m0, m84, V0, V84⟩ := JN_0 h
  have HF := h.2.2.2.2
  refine a_aload_n (d334_22 (j := 30) rfl) rfl ?_
  refine st_arg (F := F) (n := 1) rfl rfl (d334_22 (j := 31) rfl) (d334_22 (j := 32) rfl) (d334_22 (j := 33) rfl) (d334_22 (j := 34) rfl) (d334_22 (j := 35) rfl) (by decide) hi hL HF ?_
  refine lw_call (t := 123) (a := 0) (as := [vI (F (i + 1))]) (r := []) (n1 := 0) (n2 := 0) (d334_22 (j := 36) rfl) rfl rfl (m0.trans (by decide +kernel)) ⟨by decide +kernel, Nat.le_of_ble_eq_true rfl, (show 2 ≤ dsMx 123 by decide +kernel)⟩ ⟨by decide +kernel, by decide +kernel⟩ (by omega) ?_
  refine a_ct (as := [uR 10 0, uI (F (i + 1))]) h.1 ⟨V0, trivial, trivial⟩ (show 2 ≤ dsMx 123 by decide +kernel) rfl (cq123 h.2.2.1.1) (fun M1 hL1 q1 => ?_)
  have h1 := JN_cq h hL1 q1
  obtain ⟨m0, m84, V0, V84⟩ := JN_0 h1
  have HF := h1.2.2.2.2
  refine a_aload_n (d334_22 (j := 37) rfl) rfl ?_
  refine st_arg (F := F) (n := 1) rfl rfl (d334_22 (j := 38) rfl) (d334_22 (j := 39) rfl) (d334_22 (j := 40) rfl) (d334_22 (j := 41) rfl) (d334_22 (j := 42) rfl) (by decide) hi hL HF ?_
  refine lw_call (t := 302) (a := 84) (as := [vI (F (i + 1))]) (r := [vI _]) (n1 := 0) (n2 := 0) (d334_22 (j := 43) rfl) rfl rfl (m84.trans (by decide +kernel)) ⟨by decide +kernel, Nat.le_of_ble_eq_true rfl, (show 2 ≤ dsMx 302 by decide +kernel)⟩ ⟨by decide +kernel, by decide +kernel⟩ (by dsimp only; omega) ?_
  refine a_ct (as := [uR 11 84, uI (F (i + 1))]) h1.1 ⟨V84, trivial, trivial⟩ (show 2 ≤ dsMx 302 by decide +kernel) rfl (rq302 h1.2.2.2.1.1) (fun M2 hL2 q2 => ?_)
  have h2 := JN_rq h1 hL2 q2
  exact a_icmp_eq (d334_22 (j := 44) rfl) (fun _ => nx _ _ _ _ h2 (by dsimp only; omega)) (fun q => absurd rfl q)
set_option maxHeartbeats 2000000 in
theorem case55 : lwC 1803 := by
  intro G M F s i L u Q h hi hL hr hu nx
  obtain ⟨m0, m84, V0, V84⟩ := JN_0 h
  have HF := h.2.2.2.2
  refine a_aload_n (d334_22 (j := 47) rfl) rfl ?_
  refine lw_call (t := 124) (a := 0) (as := []) (r := []) (n1 := 0) (n2 := 0) (d334_22 (j := 48) rfl) rfl rfl (m0.trans (by decide +kernel)) ⟨by decide +kernel, Nat.le_of_ble_eq_true rfl, (show 1 ≤ dsMx 124 by decide +kernel)⟩ ⟨by decide +kernel, by decide +kernel⟩ (by omega) ?_
  refine a_ct (as := [uR 10 0]) h.1 ⟨V0, trivial⟩ (show 1 ≤ dsMx 124 by decide +kernel) rfl (cq124 h.2.2.1.1) (fun M1 hL1 q1 => ?_)
  have h1 := JN_cq h hL1 q1
  obtain ⟨m0, m84, V0, V84⟩ := JN_0 h1
  have HF := h1.2.2.2.2
  refine a_aload_n (d334_22 (j := 49) rfl) rfl ?_
  refine lw_call (t := 303) (a := 84) (as := []) (r := [vI _]) (n1 := 0) (n2 := 0) (d334_23 (j := 0) rfl) rfl rfl (m84.trans (by decide +kernel)) ⟨by decide +kernel, Nat.le_of_ble_eq_true rfl, (show 1 ≤ dsMx 303 by decide +kernel)⟩ ⟨by decide +kernel, by decide +kernel⟩ (by dsimp only; omega) ?_
  refine a_ct (as := [uR 11 84]) h1.1 ⟨V84, trivial⟩ (show 1 ≤ dsMx 303 by decide +kernel) rfl (rq303 h1.2.2.2.1.1) (fun M2 hL2 q2 => ?_)
  have h2 := JN_rq h1 hL2 q2
  exact a_icmp_eq (d334_23 (j := 1) rfl) (fun _ => nx _ _ _ _ h2 (by dsimp only; omega)) (fun q => absurd rfl q)
set_option maxHeartbeats 2000000 in
theorem case56 : lwC 1816 := by
  intro G M F s i L u Q h hi hL hr hu nx
  obtain ⟨m0, m84, V0, V84⟩ := JN_0 h
  have HF := h.2.2.2.2
  refine a_aload_n (d334_23 (j := 4) rfl) rfl ?_
  refine st_arg (F := F) (n := 1) rfl rfl (d334_23 (j := 5) rfl) (d334_23 (j := 6) rfl) (d334_23 (j := 7) rfl) (d334_23 (j := 8) rfl) (d334_23 (j := 9) rfl) (by decide) hi hL HF ?_
  refine lw_call (t := 125) (a := 0) (as := [vI (F (i + 1))]) (r := []) (n1 := 0) (n2 := 0) (d334_23 (j := 10) rfl) rfl rfl (m0.trans (by decide +kernel)) ⟨by decide +kernel, Nat.le_of_ble_eq_true rfl, (show 2 ≤ dsMx 125 by decide +kernel)⟩ ⟨by decide +kernel, by decide +kernel⟩ (by omega) ?_
  refine a_ct (as := [uR 10 0, uI (F (i + 1))]) h.1 ⟨V0, trivial, trivial⟩ (show 2 ≤ dsMx 125 by decide +kernel) rfl (cq125 h.2.2.1.1) (fun M1 hL1 q1 => ?_)
  have h1 := JN_cq h hL1 q1
  obtain ⟨m0, m84, V0, V84⟩ := JN_0 h1
  have HF := h1.2.2.2.2
  refine a_aload_n (d334_23 (j := 11) rfl) rfl ?_
  refine st_arg (F := F) (n := 1) rfl rfl (d334_23 (j := 12) rfl) (d334_23 (j := 13) rfl) (d334_23 (j := 14) rfl) (d334_23 (j := 15) rfl) (d334_23 (j := 16) rfl) (by decide) hi hL HF ?_
  refine lw_call (t := 305) (a := 84) (as := [vI (F (i + 1))]) (r := [vI _]) (n1 := 0) (n2 := 0) (d334_23 (j := 17) rfl) rfl rfl (m84.trans (by decide +kernel)) ⟨by decide +kernel, Nat.le_of_ble_eq_true rfl, (show 2 ≤ dsMx 305 by decide +kernel)⟩ ⟨by decide +kernel, by decide +kernel⟩ (by dsimp only; omega) ?_
  refine a_ct (as := [uR 11 84, uI (F (i + 1))]) h1.1 ⟨V84, trivial, trivial⟩ (show 2 ≤ dsMx 305 by decide +kernel) rfl (rq305 h1.2.2.2.1.1) (fun M2 hL2 q2 => ?_)
  have h2 := JN_rq h1 hL2 q2
  exact a_icmp_eq (d334_23 (j := 18) rfl) (fun _ => nx _ _ _ _ h2 (by dsimp only; omega)) (fun q => absurd rfl q)
set_option maxHeartbeats 2000000 in
theorem case57 : lwC 1839 := by
  intro G M F s i L u Q h hi hL hr hu nx
  obtain ⟨m0, m84, V0, V84⟩ := JN_0 h
  have HF := h.2.2.2.2
  refine a_aload_n (d334_23 (j := 21) rfl) rfl ?_
  refine st_arg (F := F) (n := 1) rfl rfl (d334_23 (j := 22) rfl) (d334_23 (j := 23) rfl) (d334_23 (j := 24) rfl) (d334_23 (j := 25) rfl) (d334_23 (j := 26) rfl) (by decide) hi hL HF ?_
  refine st_arg (F := F) (n := 2) rfl rfl (d334_23 (j := 27) rfl) (d334_23 (j := 28) rfl) (d334_23 (j := 29) rfl) (d334_23 (j := 30) rfl) (d334_23 (j := 31) rfl) (by decide) hi hL HF ?_
  refine lw_call (t := 126) (a := 0) (as := [vI (F (i + 1)), vI (F (i + 2))]) (r := []) (n1 := 0) (n2 := 0) (d334_23 (j := 32) rfl) rfl rfl (m0.trans (by decide +kernel)) ⟨by decide +kernel, Nat.le_of_ble_eq_true rfl, (show 3 ≤ dsMx 126 by decide +kernel)⟩ ⟨by decide +kernel, by decide +kernel⟩ (by omega) ?_
  refine a_ct (as := [uR 10 0, uI (F (i + 1)), uI (F (i + 2))]) h.1 ⟨V0, trivial, trivial, trivial⟩ (show 3 ≤ dsMx 126 by decide +kernel) rfl (cq126 h.2.2.1.1) (fun M1 hL1 q1 => ?_)
  have h1 := JN_cq h hL1 q1
  obtain ⟨m0, m84, V0, V84⟩ := JN_0 h1
  have HF := h1.2.2.2.2
  refine a_aload_n (d334_23 (j := 33) rfl) rfl ?_
  refine st_arg (F := F) (n := 1) rfl rfl (d334_23 (j := 34) rfl) (d334_23 (j := 35) rfl) (d334_23 (j := 36) rfl) (d334_23 (j := 37) rfl) (d334_23 (j := 38) rfl) (by decide) hi hL HF ?_
  refine st_arg (F := F) (n := 2) rfl rfl (d334_23 (j := 39) rfl) (d334_23 (j := 40) rfl) (d334_23 (j := 41) rfl) (d334_23 (j := 42) rfl) (d334_23 (j := 43) rfl) (by decide) hi hL HF ?_
  refine lw_call (t := 309) (a := 84) (as := [vI (F (i + 1)), vI (F (i + 2))]) (r := [vI _]) (n1 := 0) (n2 := 0) (d334_23 (j := 44) rfl) rfl rfl (m84.trans (by decide +kernel)) ⟨by decide +kernel, Nat.le_of_ble_eq_true rfl, (show 3 ≤ dsMx 309 by decide +kernel)⟩ ⟨by decide +kernel, by decide +kernel⟩ (by dsimp only; omega) ?_
  refine a_ct (as := [uR 11 84, uI (F (i + 1)), uI (F (i + 2))]) h1.1 ⟨V84, trivial, trivial, trivial⟩ (show 3 ≤ dsMx 309 by decide +kernel) rfl (rq309 h1.2.2.2.1.1) (fun M2 hL2 q2 => ?_)
  have h2 := JN_rq h1 hL2 q2
  exact a_icmp_eq (d334_23 (j := 45) rfl) (fun _ => nx _ _ _ _ h2 (by dsimp only; omega)) (fun q => absurd rfl q)
set_option maxHeartbeats 2000000 in
theorem case58 : lwC 1872 := by
  intro G M F s i L u Q h hi hL hr hu nx
  obtain ⟨m0, m84, V0, V84⟩ := JN_0 h
  have HF := h.2.2.2.2
  refine a_aload_n (d334_23 (j := 48) rfl) rfl ?_
  refine st_arg (F := F) (n := 1) rfl rfl (d334_23 (j := 49) rfl) (d334_24 (j := 0) rfl) (d334_24 (j := 1) rfl) (d334_24 (j := 2) rfl) (d334_24 (j := 3) rfl) (by decide) hi hL HF ?_
  refine st_arg (F := F) (n := 2) rfl rfl (d334_24 (j := 4) rfl) (d334_24 (j := 5) rfl) (d334_24 (j := 6) rfl) (d334_24 (j := 7) rfl) (d334_24 (j := 8) rfl) (by decide) hi hL HF ?_
  refine lw_call (t := 127) (a := 0) (as := [vI (F (i + 1)), vI (F (i + 2))]) (r := []) (n1 := 0) (n2 := 0) (d334_24 (j := 9) rfl) rfl rfl (m0.trans (by decide +kernel)) ⟨by decide +kernel, Nat.le_of_ble_eq_true rfl, (show 3 ≤ dsMx 127 by decide +kernel)⟩ ⟨by decide +kernel, by decide +kernel⟩ (by omega) ?_
  refine a_ct (as := [uR 10 0, uI (F (i + 1)), uI (F (i + 2))]) h.1 ⟨V0, trivial, trivial, trivial⟩ (show 3 ≤ dsMx 127 by decide +kernel) rfl (cq127 h.2.2.1.1) (fun M1 hL1 q1 => ?_)
  have h1 := JN_cq h hL1 q1
  obtain ⟨m0, m84, V0, V84⟩ := JN_0 h1
  have HF := h1.2.2.2.2
  refine a_aload_n (d334_24 (j := 10) rfl) rfl ?_
  refine st_arg (F := F) (n := 1) rfl rfl (d334_24 (j := 11) rfl) (d334_24 (j := 12) rfl) (d334_24 (j := 13) rfl) (d334_24 (j := 14) rfl) (d334_24 (j := 15) rfl) (by decide) hi hL HF ?_
  refine st_arg (F := F) (n := 2) rfl rfl (d334_24 (j := 16) rfl) (d334_24 (j := 17) rfl) (d334_24 (j := 18) rfl) (d334_24 (j := 19) rfl) (d334_24 (j := 20) rfl) (by decide) hi hL HF ?_
  refine lw_call (t := 312) (a := 84) (as := [vI (F (i + 1)), vI (F (i + 2))]) (r := [vI _]) (n1 := 0) (n2 := 0) (d334_24 (j := 21) rfl) rfl rfl (m84.trans (by decide +kernel)) ⟨by decide +kernel, Nat.le_of_ble_eq_true rfl, (show 3 ≤ dsMx 312 by decide +kernel)⟩ ⟨by decide +kernel, by decide +kernel⟩ (by dsimp only; omega) ?_
  refine a_ct (as := [uR 11 84, uI (F (i + 1)), uI (F (i + 2))]) h1.1 ⟨V84, trivial, trivial, trivial⟩ (show 3 ≤ dsMx 312 by decide +kernel) rfl (rq312 h1.2.2.2.1.1) (fun M2 hL2 q2 => ?_)
  have h2 := JN_rq h1 hL2 q2
  exact a_icmp_eq (d334_24 (j := 22) rfl) (fun _ => nx _ _ _ _ h2 (by dsimp only; omega)) (fun q => absurd rfl q)
set_option maxHeartbeats 2000000 in
theorem case59 : lwC 1905 := by
  intro G M F s i L u Q h hi hL hr hu nx
  obtain ⟨m0, m84, V0, V84⟩ := JN_0 h
  have HF := h.2.2.2.2
  refine a_aload_n (d334_24 (j := 25) rfl) rfl ?_
  refine st_arg (F := F) (n := 1) rfl rfl (d334_24 (j := 26) rfl) (d334_24 (j := 27) rfl) (d334_24 (j := 28) rfl) (d334_24 (j := 29) rfl) (d334_24 (j := 30) rfl) (by decide) hi hL HF ?_
  refine st_arg (F := F) (n := 2) rfl rfl (d334_24 (j := 31) rfl) (d334_24 (j := 32) rfl) (d334_24 (j := 33) rfl) (d334_24 (j := 34) rfl) (d334_24 (j := 35) rfl) (by decide) hi hL HF ?_
  refine st_arg (F := F) (n := 3) rfl rfl (d334_24 (j := 36) rfl) (d334_24 (j := 37) rfl) (d334_24 (j := 38) rfl) (d334_24 (j := 39) rfl) (d334_24 (j := 40) rfl) (by decide) hi hL HF ?_
  refine st_arg (F := F) (n := 4) rfl rfl (d334_24 (j := 41) rfl) (d334_24 (j := 42) rfl) (d334_24 (j := 43) rfl) (d334_24 (j := 44) rfl) (d334_24 (j := 45) rfl) (by decide) hi hL HF ?_
  refine lw_call (t := 128) (a := 0) (as := [vI (F (i + 1)), vI (F (i + 2)), vI (F (i + 3)), vI (F (i + 4))]) (r := []) (n1 := 0) (n2 := 0) (d334_24 (j := 46) rfl) rfl rfl (m0.trans (by decide +kernel)) ⟨by decide +kernel, Nat.le_of_ble_eq_true rfl, (show 5 ≤ dsMx 128 by decide +kernel)⟩ ⟨by decide +kernel, by decide +kernel⟩ (by omega) ?_
  refine a_ct (as := [uR 10 0, uI (F (i + 1)), uI (F (i + 2)), uI (F (i + 3)), uI (F (i + 4))]) h.1 ⟨V0, trivial, trivial, trivial, trivial, trivial⟩ (show 5 ≤ dsMx 128 by decide +kernel) rfl (cq128 h.2.2.1.1) (fun M1 hL1 q1 => ?_)
  have h1 := JN_cq h hL1 q1
  obtain ⟨m0, m84, V0, V84⟩ := JN_0 h1
  have HF := h1.2.2.2.2
  refine a_aload_n (d334_24 (j := 47) rfl) rfl ?_
  refine st_arg (F := F) (n := 1) rfl rfl (d334_24 (j := 48) rfl) (d334_24 (j := 49) rfl) (d334_25 (j := 0) rfl) (d334_25 (j := 1) rfl) (d334_25 (j := 2) rfl) (by decide) hi hL HF ?_
  refine st_arg (F := F) (n := 2) rfl rfl (d334_25 (j := 3) rfl) (d334_25 (j := 4) rfl) (d334_25 (j := 5) rfl) (d334_25 (j := 6) rfl) (d334_25 (j := 7) rfl) (by decide) hi hL HF ?_
  refine st_arg (F := F) (n := 3) rfl rfl (d334_25 (j := 8) rfl) (d334_25 (j := 9) rfl) (d334_25 (j := 10) rfl) (d334_25 (j := 11) rfl) (d334_25 (j := 12) rfl) (by decide) hi hL HF ?_
  refine st_arg (F := F) (n := 4) rfl rfl (d334_25 (j := 13) rfl) (d334_25 (j := 14) rfl) (d334_25 (j := 15) rfl) (d334_25 (j := 16) rfl) (d334_25 (j := 17) rfl) (by decide) hi hL HF ?_
  refine lw_call (t := 313) (a := 84) (as := [vI (F (i + 1)), vI (F (i + 2)), vI (F (i + 3)), vI (F (i + 4))]) (r := [vI _]) (n1 := 0) (n2 := 0) (d334_25 (j := 18) rfl) rfl rfl (m84.trans (by decide +kernel)) ⟨by decide +kernel, Nat.le_of_ble_eq_true rfl, (show 5 ≤ dsMx 313 by decide +kernel)⟩ ⟨by decide +kernel, by decide +kernel⟩ (by dsimp only; omega) ?_
  refine a_ct (as := [uR 11 84, uI (F (i + 1)), uI (F (i + 2)), uI (F (i + 3)), uI (F (i + 4))]) h1.1 ⟨V84, trivial, trivial, trivial, trivial, trivial⟩ (show 5 ≤ dsMx 313 by decide +kernel) rfl (rq313 h1.2.2.2.1.1) (fun M2 hL2 q2 => ?_)
  have h2 := JN_rq h1 hL2 q2
  exact a_icmp_eq (d334_25 (j := 19) rfl) (fun _ => nx _ _ _ _ h2 (by dsimp only; omega)) (fun q => absurd rfl q)
