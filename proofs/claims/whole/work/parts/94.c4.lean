/-! cases of the law -/
set_option maxHeartbeats 2000000 in
theorem case60 : lwC 1958 := by
  intro G M F s i L u Q h hi hL hr hu nx
  obtain ⟨m0, m84, V0, V84⟩ := JN_0 h
  have HF := h.2.2.2.2
  refine a_aload_n (d334_25 (j := 22) rfl) rfl ?_
  refine st_arg (F := F) (n := 1) rfl rfl (d334_25 (j := 23) rfl) (d334_25 (j := 24) rfl) (d334_25 (j := 25) rfl) (d334_25 (j := 26) rfl) (d334_25 (j := 27) rfl) (by decide) hi hL HF ?_
  refine st_arg (F := F) (n := 2) rfl rfl (d334_25 (j := 28) rfl) (d334_25 (j := 29) rfl) (d334_25 (j := 30) rfl) (d334_25 (j := 31) rfl) (d334_25 (j := 32) rfl) (by decide) hi hL HF ?_
  refine lw_call (t := 129) (a := 0) (as := [vI (F (i + 1)), vI (F (i + 2))]) (r := []) (n1 := 0) (n2 := 0) (d334_25 (j := 33) rfl) rfl rfl (m0.trans (by decide +kernel)) ⟨by decide +kernel, Nat.le_of_ble_eq_true rfl, (show 3 ≤ dsMx 129 by decide +kernel)⟩ ⟨by decide +kernel, by decide +kernel⟩ (by omega) ?_
  refine a_ct (as := [uR 10 0, uI (F (i + 1)), uI (F (i + 2))]) h.1 ⟨V0, trivial, trivial, trivial⟩ (show 3 ≤ dsMx 129 by decide +kernel) rfl (cq129 h.2.2.1.1) (fun M1 hL1 q1 => ?_)
  have h1 := JN_cq h hL1 q1
  obtain ⟨m0, m84, V0, V84⟩ := JN_0 h1
  have HF := h1.2.2.2.2
  refine a_aload_n (d334_25 (j := 34) rfl) rfl ?_
  refine st_arg (F := F) (n := 1) rfl rfl (d334_25 (j := 35) rfl) (d334_25 (j := 36) rfl) (d334_25 (j := 37) rfl) (d334_25 (j := 38) rfl) (d334_25 (j := 39) rfl) (by decide) hi hL HF ?_
  refine st_arg (F := F) (n := 2) rfl rfl (d334_25 (j := 40) rfl) (d334_25 (j := 41) rfl) (d334_25 (j := 42) rfl) (d334_25 (j := 43) rfl) (d334_25 (j := 44) rfl) (by decide) hi hL HF ?_
  refine lw_call (t := 315) (a := 84) (as := [vI (F (i + 1)), vI (F (i + 2))]) (r := [vJ _]) (n1 := 0) (n2 := 0) (d334_25 (j := 45) rfl) rfl rfl (m84.trans (by decide +kernel)) ⟨by decide +kernel, Nat.le_of_ble_eq_true rfl, (show 3 ≤ dsMx 315 by decide +kernel)⟩ ⟨by decide +kernel, by decide +kernel⟩ (by dsimp only; omega) ?_
  refine a_ct (as := [uR 11 84, uI (F (i + 1)), uI (F (i + 2))]) h1.1 ⟨V84, trivial, trivial, trivial⟩ (show 3 ≤ dsMx 315 by decide +kernel) rfl (rq315 h1.2.2.2.1.1) (fun M2 hL2 q2 => ?_)
  have h2 := JN_rq h1 hL2 q2
  refine a_lcmp (d334_25 (j := 46) rfl) ?_
  exact a_ifeq (d334_25 (j := 47) rfl) (fun _ => nx _ _ _ _ h2 (by dsimp only; omega)) (fun q => absurd dsLc_self q)
set_option maxHeartbeats 2000000 in
theorem case61 : lwC 1992 := by
  intro G M F s i L u Q h hi hL hr hu nx
  obtain ⟨m0, m84, V0, V84⟩ := JN_0 h
  have HF := h.2.2.2.2
  refine a_aload_n (d334_26 (j := 0) rfl) rfl ?_
  refine st_arg (F := F) (n := 1) rfl rfl (d334_26 (j := 1) rfl) (d334_26 (j := 2) rfl) (d334_26 (j := 3) rfl) (d334_26 (j := 4) rfl) (d334_26 (j := 5) rfl) (by decide) hi hL HF ?_
  refine lw_call (t := 130) (a := 0) (as := [vI (F (i + 1))]) (r := []) (n1 := 0) (n2 := 0) (d334_26 (j := 6) rfl) rfl rfl (m0.trans (by decide +kernel)) ⟨by decide +kernel, Nat.le_of_ble_eq_true rfl, (show 2 ≤ dsMx 130 by decide +kernel)⟩ ⟨by decide +kernel, by decide +kernel⟩ (by omega) ?_
  refine a_ct (as := [uR 10 0, uI (F (i + 1))]) h.1 ⟨V0, trivial, trivial⟩ (show 2 ≤ dsMx 130 by decide +kernel) rfl (cq130 h.2.2.1.1) (fun M1 hL1 q1 => ?_)
  have h1 := JN_cq h hL1 q1
  obtain ⟨m0, m84, V0, V84⟩ := JN_0 h1
  have HF := h1.2.2.2.2
  refine a_aload_n (d334_26 (j := 7) rfl) rfl ?_
  refine st_arg (F := F) (n := 1) rfl rfl (d334_26 (j := 8) rfl) (d334_26 (j := 9) rfl) (d334_26 (j := 10) rfl) (d334_26 (j := 11) rfl) (d334_26 (j := 12) rfl) (by decide) hi hL HF ?_
  refine lw_call (t := 316) (a := 84) (as := [vI (F (i + 1))]) (r := [vJ _]) (n1 := 0) (n2 := 0) (d334_26 (j := 13) rfl) rfl rfl (m84.trans (by decide +kernel)) ⟨by decide +kernel, Nat.le_of_ble_eq_true rfl, (show 2 ≤ dsMx 316 by decide +kernel)⟩ ⟨by decide +kernel, by decide +kernel⟩ (by dsimp only; omega) ?_
  refine a_ct (as := [uR 11 84, uI (F (i + 1))]) h1.1 ⟨V84, trivial, trivial⟩ (show 2 ≤ dsMx 316 by decide +kernel) rfl (rq316 h1.2.2.2.1.1) (fun M2 hL2 q2 => ?_)
  have h2 := JN_rq h1 hL2 q2
  refine a_lcmp (d334_26 (j := 14) rfl) ?_
  exact a_ifeq (d334_26 (j := 15) rfl) (fun _ => nx _ _ _ _ h2 (by dsimp only; omega)) (fun q => absurd dsLc_self q)
set_option maxHeartbeats 2000000 in
theorem case62 : lwC 2016 := by
  intro G M F s i L u Q h hi hL hr hu nx
  obtain ⟨m0, m84, V0, V84⟩ := JN_0 h
  have HF := h.2.2.2.2
  refine a_aload_n (d334_26 (j := 18) rfl) rfl ?_
  refine st_arg (F := F) (n := 1) rfl rfl (d334_26 (j := 19) rfl) (d334_26 (j := 20) rfl) (d334_26 (j := 21) rfl) (d334_26 (j := 22) rfl) (d334_26 (j := 23) rfl) (by decide) hi hL HF ?_
  refine st_arg (F := F) (n := 2) rfl rfl (d334_26 (j := 24) rfl) (d334_26 (j := 25) rfl) (d334_26 (j := 26) rfl) (d334_26 (j := 27) rfl) (d334_26 (j := 28) rfl) (by decide) hi hL HF ?_
  refine st_arg (F := F) (n := 3) rfl rfl (d334_26 (j := 29) rfl) (d334_26 (j := 30) rfl) (d334_26 (j := 31) rfl) (d334_26 (j := 32) rfl) (d334_26 (j := 33) rfl) (by decide) hi hL HF ?_
  refine lw_call (t := 131) (a := 0) (as := [vI (F (i + 1)), vI (F (i + 2)), vI (F (i + 3))]) (r := []) (n1 := 0) (n2 := 0) (d334_26 (j := 34) rfl) rfl rfl (m0.trans (by decide +kernel)) ⟨by decide +kernel, Nat.le_of_ble_eq_true rfl, (show 4 ≤ dsMx 131 by decide +kernel)⟩ ⟨by decide +kernel, by decide +kernel⟩ (by omega) ?_
  refine a_ct (as := [uR 10 0, uI (F (i + 1)), uI (F (i + 2)), uI (F (i + 3))]) h.1 ⟨V0, trivial, trivial, trivial, trivial⟩ (show 4 ≤ dsMx 131 by decide +kernel) rfl (cq131 h.2.2.1.1) (fun M1 hL1 q1 => ?_)
  have h1 := JN_cw h hL1 q1
  obtain ⟨m0, m84, V0, V84⟩ := JN_0 h1
  have HF := h1.2.2.2.2
  refine a_aload_n (d334_26 (j := 35) rfl) rfl ?_
  refine st_arg (F := F) (n := 1) rfl rfl (d334_26 (j := 36) rfl) (d334_26 (j := 37) rfl) (d334_26 (j := 38) rfl) (d334_26 (j := 39) rfl) (d334_26 (j := 40) rfl) (by decide) hi hL HF ?_
  refine st_arg (F := F) (n := 2) rfl rfl (d334_26 (j := 41) rfl) (d334_26 (j := 42) rfl) (d334_26 (j := 43) rfl) (d334_26 (j := 44) rfl) (d334_26 (j := 45) rfl) (by decide) hi hL HF ?_
  refine st_arg (F := F) (n := 3) rfl rfl (d334_26 (j := 46) rfl) (d334_26 (j := 47) rfl) (d334_26 (j := 48) rfl) (d334_26 (j := 49) rfl) (d334_27 (j := 0) rfl) (by decide) hi hL HF ?_
  refine lw_call (t := 318) (a := 84) (as := [vI (F (i + 1)), vI (F (i + 2)), vI (F (i + 3))]) (r := [vI _]) (n1 := 0) (n2 := 0) (d334_27 (j := 1) rfl) rfl rfl (m84.trans (by decide +kernel)) ⟨by decide +kernel, Nat.le_of_ble_eq_true rfl, (show 4 ≤ dsMx 318 by decide +kernel)⟩ ⟨by decide +kernel, by decide +kernel⟩ (by dsimp only; omega) ?_
  refine a_ct (as := [uR 11 84, uI (F (i + 1)), uI (F (i + 2)), uI (F (i + 3))]) h1.1 ⟨V84, trivial, trivial, trivial, trivial⟩ (show 4 ≤ dsMx 318 by decide +kernel) rfl (rq318 h1.2.2.2.1.1) (fun M2 hL2 q2 => ?_)
  have h2 := JN_rw h1 hL2 q2
  exact a_icmp_eq (d334_27 (j := 2) rfl) (fun _ => nx _ _ _ _ h2 (by dsimp only; omega)) (fun q => absurd rfl q)
set_option maxHeartbeats 2000000 in
theorem case63 : lwC 2059 := by
  intro G M F s i L u Q h hi hL hr hu nx
  obtain ⟨m0, m84, V0, V84⟩ := JN_0 h
  have HF := h.2.2.2.2
  refine a_aload_n (d334_27 (j := 5) rfl) rfl ?_
  refine st_arg (F := F) (n := 1) rfl rfl (d334_27 (j := 6) rfl) (d334_27 (j := 7) rfl) (d334_27 (j := 8) rfl) (d334_27 (j := 9) rfl) (d334_27 (j := 10) rfl) (by decide) hi hL HF ?_
  refine st_arg (F := F) (n := 2) rfl rfl (d334_27 (j := 11) rfl) (d334_27 (j := 12) rfl) (d334_27 (j := 13) rfl) (d334_27 (j := 14) rfl) (d334_27 (j := 15) rfl) (by decide) hi hL HF ?_
  refine st_arg (F := F) (n := 3) rfl rfl (d334_27 (j := 16) rfl) (d334_27 (j := 17) rfl) (d334_27 (j := 18) rfl) (d334_27 (j := 19) rfl) (d334_27 (j := 20) rfl) (by decide) hi hL HF ?_
  refine lw_call (t := 132) (a := 0) (as := [vI (F (i + 1)), vI (F (i + 2)), vI (F (i + 3))]) (r := []) (n1 := 0) (n2 := 0) (d334_27 (j := 21) rfl) rfl rfl (m0.trans (by decide +kernel)) ⟨by decide +kernel, Nat.le_of_ble_eq_true rfl, (show 4 ≤ dsMx 132 by decide +kernel)⟩ ⟨by decide +kernel, by decide +kernel⟩ (by omega) ?_
  refine a_ct (as := [uR 10 0, uI (F (i + 1)), uI (F (i + 2)), uI (F (i + 3))]) h.1 ⟨V0, trivial, trivial, trivial, trivial⟩ (show 4 ≤ dsMx 132 by decide +kernel) rfl (cq132 h.2.2.1.1) (fun M1 hL1 q1 => ?_)
  have h1 := JN_cw h hL1 q1
  obtain ⟨m0, m84, V0, V84⟩ := JN_0 h1
  have HF := h1.2.2.2.2
  refine a_aload_n (d334_27 (j := 22) rfl) rfl ?_
  refine st_arg (F := F) (n := 1) rfl rfl (d334_27 (j := 23) rfl) (d334_27 (j := 24) rfl) (d334_27 (j := 25) rfl) (d334_27 (j := 26) rfl) (d334_27 (j := 27) rfl) (by decide) hi hL HF ?_
  refine st_arg (F := F) (n := 2) rfl rfl (d334_27 (j := 28) rfl) (d334_27 (j := 29) rfl) (d334_27 (j := 30) rfl) (d334_27 (j := 31) rfl) (d334_27 (j := 32) rfl) (by decide) hi hL HF ?_
  refine st_arg (F := F) (n := 3) rfl rfl (d334_27 (j := 33) rfl) (d334_27 (j := 34) rfl) (d334_27 (j := 35) rfl) (d334_27 (j := 36) rfl) (d334_27 (j := 37) rfl) (by decide) hi hL HF ?_
  refine lw_call (t := 319) (a := 84) (as := [vI (F (i + 1)), vI (F (i + 2)), vI (F (i + 3))]) (r := [vI _]) (n1 := 0) (n2 := 0) (d334_27 (j := 38) rfl) rfl rfl (m84.trans (by decide +kernel)) ⟨by decide +kernel, Nat.le_of_ble_eq_true rfl, (show 4 ≤ dsMx 319 by decide +kernel)⟩ ⟨by decide +kernel, by decide +kernel⟩ (by dsimp only; omega) ?_
  refine a_ct (as := [uR 11 84, uI (F (i + 1)), uI (F (i + 2)), uI (F (i + 3))]) h1.1 ⟨V84, trivial, trivial, trivial, trivial⟩ (show 4 ≤ dsMx 319 by decide +kernel) rfl (rq319 h1.2.2.2.1.1) (fun M2 hL2 q2 => ?_)
  have h2 := JN_rw h1 hL2 q2
  exact a_icmp_eq (d334_27 (j := 39) rfl) (fun _ => nx _ _ _ _ h2 (by dsimp only; omega)) (fun q => absurd rfl q)
set_option maxHeartbeats 2000000 in
theorem case64 : lwC 2102 := by
  intro G M F s i L u Q h hi hL hr hu nx
  obtain ⟨m0, m84, V0, V84⟩ := JN_0 h
  have HF := h.2.2.2.2
  refine a_aload_n (d334_27 (j := 42) rfl) rfl ?_
  refine lw_call (t := 133) (a := 0) (as := []) (r := []) (n1 := 0) (n2 := 0) (d334_27 (j := 43) rfl) rfl rfl (m0.trans (by decide +kernel)) ⟨by decide +kernel, Nat.le_of_ble_eq_true rfl, (show 1 ≤ dsMx 133 by decide +kernel)⟩ ⟨by decide +kernel, by decide +kernel⟩ (by omega) ?_
  refine a_ct (as := [uR 10 0]) h.1 ⟨V0, trivial⟩ (show 1 ≤ dsMx 133 by decide +kernel) rfl (cq133 h.2.2.1.1) (fun M1 hL1 q1 => ?_)
  have h1 := JN_cw h hL1 q1
  obtain ⟨m0, m84, V0, V84⟩ := JN_0 h1
  have HF := h1.2.2.2.2
  refine a_aload_n (d334_27 (j := 44) rfl) rfl ?_
  refine lw_call (t := 320) (a := 84) (as := []) (r := [vI _]) (n1 := 0) (n2 := 0) (d334_27 (j := 45) rfl) rfl rfl (m84.trans (by decide +kernel)) ⟨by decide +kernel, Nat.le_of_ble_eq_true rfl, (show 1 ≤ dsMx 320 by decide +kernel)⟩ ⟨by decide +kernel, by decide +kernel⟩ (by dsimp only; omega) ?_
  refine a_ct (as := [uR 11 84]) h1.1 ⟨V84, trivial⟩ (show 1 ≤ dsMx 320 by decide +kernel) rfl (rq320 h1.2.2.2.1.1) (fun M2 hL2 q2 => ?_)
  have h2 := JN_rw h1 hL2 q2
  exact a_icmp_eq (d334_27 (j := 46) rfl) (fun _ => nx _ _ _ _ h2 (by dsimp only; omega)) (fun q => absurd rfl q)
set_option maxHeartbeats 2000000 in
theorem case65 : lwC 2115 := by
  intro G M F s i L u Q h hi hL hr hu nx
  obtain ⟨m0, m84, V0, V84⟩ := JN_0 h
  have HF := h.2.2.2.2
  refine a_aload_n (d334_27 (j := 49) rfl) rfl ?_
  refine lw_call (t := 134) (a := 0) (as := []) (r := []) (n1 := 0) (n2 := 0) (d334_28 (j := 0) rfl) rfl rfl (m0.trans (by decide +kernel)) ⟨by decide +kernel, Nat.le_of_ble_eq_true rfl, (show 1 ≤ dsMx 134 by decide +kernel)⟩ ⟨by decide +kernel, by decide +kernel⟩ (by omega) ?_
  refine a_ct (as := [uR 10 0]) h.1 ⟨V0, trivial⟩ (show 1 ≤ dsMx 134 by decide +kernel) rfl (cq134 h.2.2.1.1) (fun M1 hL1 q1 => ?_)
  have h1 := JN_cw h hL1 q1
  obtain ⟨m0, m84, V0, V84⟩ := JN_0 h1
  have HF := h1.2.2.2.2
  refine a_aload_n (d334_28 (j := 1) rfl) rfl ?_
  refine lw_call (t := 321) (a := 84) (as := []) (r := [vI _]) (n1 := 0) (n2 := 0) (d334_28 (j := 2) rfl) rfl rfl (m84.trans (by decide +kernel)) ⟨by decide +kernel, Nat.le_of_ble_eq_true rfl, (show 1 ≤ dsMx 321 by decide +kernel)⟩ ⟨by decide +kernel, by decide +kernel⟩ (by dsimp only; omega) ?_
  refine a_ct (as := [uR 11 84]) h1.1 ⟨V84, trivial⟩ (show 1 ≤ dsMx 321 by decide +kernel) rfl (rq321 h1.2.2.2.1.1) (fun M2 hL2 q2 => ?_)
  have h2 := JN_rw h1 hL2 q2
  exact a_icmp_eq (d334_28 (j := 3) rfl) (fun _ => nx _ _ _ _ h2 (by dsimp only; omega)) (fun q => absurd rfl q)
set_option maxHeartbeats 2000000 in
theorem case66 : lwC 2128 := by
  intro G M F s i L u Q h hi hL hr hu nx
  obtain ⟨m0, m84, V0, V84⟩ := JN_0 h
  have HF := h.2.2.2.2
  refine a_aload_n (d334_28 (j := 6) rfl) rfl ?_
  refine st_arg (F := F) (n := 1) rfl rfl (d334_28 (j := 7) rfl) (d334_28 (j := 8) rfl) (d334_28 (j := 9) rfl) (d334_28 (j := 10) rfl) (d334_28 (j := 11) rfl) (by decide) hi hL HF ?_
  refine st_arg (F := F) (n := 2) rfl rfl (d334_28 (j := 12) rfl) (d334_28 (j := 13) rfl) (d334_28 (j := 14) rfl) (d334_28 (j := 15) rfl) (d334_28 (j := 16) rfl) (by decide) hi hL HF ?_
  refine lw_call (t := 135) (a := 0) (as := [vI (F (i + 1)), vI (F (i + 2))]) (r := []) (n1 := 0) (n2 := 0) (d334_28 (j := 17) rfl) rfl rfl (m0.trans (by decide +kernel)) ⟨by decide +kernel, Nat.le_of_ble_eq_true rfl, (show 3 ≤ dsMx 135 by decide +kernel)⟩ ⟨by decide +kernel, by decide +kernel⟩ (by omega) ?_
  refine a_ct (as := [uR 10 0, uI (F (i + 1)), uI (F (i + 2))]) h.1 ⟨V0, trivial, trivial, trivial⟩ (show 3 ≤ dsMx 135 by decide +kernel) rfl (cq135 h.2.2.1.1) (fun M1 hL1 q1 => ?_)
  have h1 := JN_cq h hL1 q1
  obtain ⟨m0, m84, V0, V84⟩ := JN_0 h1
  have HF := h1.2.2.2.2
  refine a_aload_n (d334_28 (j := 18) rfl) rfl ?_
  refine st_arg (F := F) (n := 1) rfl rfl (d334_28 (j := 19) rfl) (d334_28 (j := 20) rfl) (d334_28 (j := 21) rfl) (d334_28 (j := 22) rfl) (d334_28 (j := 23) rfl) (by decide) hi hL HF ?_
  refine st_arg (F := F) (n := 2) rfl rfl (d334_28 (j := 24) rfl) (d334_28 (j := 25) rfl) (d334_28 (j := 26) rfl) (d334_28 (j := 27) rfl) (d334_28 (j := 28) rfl) (by decide) hi hL HF ?_
  refine lw_call (t := 324) (a := 84) (as := [vI (F (i + 1)), vI (F (i + 2))]) (r := [vI _]) (n1 := 0) (n2 := 0) (d334_28 (j := 29) rfl) rfl rfl (m84.trans (by decide +kernel)) ⟨by decide +kernel, Nat.le_of_ble_eq_true rfl, (show 3 ≤ dsMx 324 by decide +kernel)⟩ ⟨by decide +kernel, by decide +kernel⟩ (by dsimp only; omega) ?_
  refine a_ct (as := [uR 11 84, uI (F (i + 1)), uI (F (i + 2))]) h1.1 ⟨V84, trivial, trivial, trivial⟩ (show 3 ≤ dsMx 324 by decide +kernel) rfl (rq324 h1.2.2.2.1.1) (fun M2 hL2 q2 => ?_)
  have h2 := JN_rq h1 hL2 q2
  exact a_icmp_eq (d334_28 (j := 30) rfl) (fun _ => nx _ _ _ _ h2 (by dsimp only; omega)) (fun q => absurd rfl q)
set_option maxHeartbeats 2000000 in
theorem case67 : lwC 2161 := by
  intro G M F s i L u Q h hi hL hr hu nx
  obtain ⟨m0, m84, V0, V84⟩ := JN_0 h
  have HF := h.2.2.2.2
  refine a_aload_n (d334_28 (j := 33) rfl) rfl ?_
  refine st_arg (F := F) (n := 1) rfl rfl (d334_28 (j := 34) rfl) (d334_28 (j := 35) rfl) (d334_28 (j := 36) rfl) (d334_28 (j := 37) rfl) (d334_28 (j := 38) rfl) (by decide) hi hL HF ?_
  refine st_arg (F := F) (n := 2) rfl rfl (d334_28 (j := 39) rfl) (d334_28 (j := 40) rfl) (d334_28 (j := 41) rfl) (d334_28 (j := 42) rfl) (d334_28 (j := 43) rfl) (by decide) hi hL HF ?_
  refine st_arg (F := F) (n := 3) rfl rfl (d334_28 (j := 44) rfl) (d334_28 (j := 45) rfl) (d334_28 (j := 46) rfl) (d334_28 (j := 47) rfl) (d334_28 (j := 48) rfl) (by decide) hi hL HF ?_
  refine lw_call (t := 136) (a := 0) (as := [vI (F (i + 1)), vI (F (i + 2)), vI (F (i + 3))]) (r := []) (n1 := 0) (n2 := 0) (d334_28 (j := 49) rfl) rfl rfl (m0.trans (by decide +kernel)) ⟨by decide +kernel, Nat.le_of_ble_eq_true rfl, (show 4 ≤ dsMx 136 by decide +kernel)⟩ ⟨by decide +kernel, by decide +kernel⟩ (by omega) ?_
  refine a_ct (as := [uR 10 0, uI (F (i + 1)), uI (F (i + 2)), uI (F (i + 3))]) h.1 ⟨V0, trivial, trivial, trivial, trivial⟩ (show 4 ≤ dsMx 136 by decide +kernel) rfl (cq136 h.2.2.1.1) (fun M1 hL1 q1 => ?_)
  have h1 := JN_cq h hL1 q1
  obtain ⟨m0, m84, V0, V84⟩ := JN_0 h1
  have HF := h1.2.2.2.2
  refine a_aload_n (d334_29 (j := 0) rfl) rfl ?_
  refine st_arg (F := F) (n := 1) rfl rfl (d334_29 (j := 1) rfl) (d334_29 (j := 2) rfl) (d334_29 (j := 3) rfl) (d334_29 (j := 4) rfl) (d334_29 (j := 5) rfl) (by decide) hi hL HF ?_
  refine st_arg (F := F) (n := 2) rfl rfl (d334_29 (j := 6) rfl) (d334_29 (j := 7) rfl) (d334_29 (j := 8) rfl) (d334_29 (j := 9) rfl) (d334_29 (j := 10) rfl) (by decide) hi hL HF ?_
  refine st_arg (F := F) (n := 3) rfl rfl (d334_29 (j := 11) rfl) (d334_29 (j := 12) rfl) (d334_29 (j := 13) rfl) (d334_29 (j := 14) rfl) (d334_29 (j := 15) rfl) (by decide) hi hL HF ?_
  refine lw_call (t := 325) (a := 84) (as := [vI (F (i + 1)), vI (F (i + 2)), vI (F (i + 3))]) (r := [vI _]) (n1 := 0) (n2 := 0) (d334_29 (j := 16) rfl) rfl rfl (m84.trans (by decide +kernel)) ⟨by decide +kernel, Nat.le_of_ble_eq_true rfl, (show 4 ≤ dsMx 325 by decide +kernel)⟩ ⟨by decide +kernel, by decide +kernel⟩ (by dsimp only; omega) ?_
  refine a_ct (as := [uR 11 84, uI (F (i + 1)), uI (F (i + 2)), uI (F (i + 3))]) h1.1 ⟨V84, trivial, trivial, trivial, trivial⟩ (show 4 ≤ dsMx 325 by decide +kernel) rfl (rq325 h1.2.2.2.1.1) (fun M2 hL2 q2 => ?_)
  have h2 := JN_rq h1 hL2 q2
  exact a_icmp_eq (d334_29 (j := 17) rfl) (fun _ => nx _ _ _ _ h2 (by dsimp only; omega)) (fun q => absurd rfl q)
set_option maxHeartbeats 2000000 in
theorem case68 : lwC 2204 := by
  intro G M F s i L u Q h hi hL hr hu nx
  obtain ⟨m0, m84, V0, V84⟩ := JN_0 h
  have HF := h.2.2.2.2
  refine a_aload_n (d334_29 (j := 20) rfl) rfl ?_
  refine st_arg (F := F) (n := 1) rfl rfl (d334_29 (j := 21) rfl) (d334_29 (j := 22) rfl) (d334_29 (j := 23) rfl) (d334_29 (j := 24) rfl) (d334_29 (j := 25) rfl) (by decide) hi hL HF ?_
  refine st_arg (F := F) (n := 2) rfl rfl (d334_29 (j := 26) rfl) (d334_29 (j := 27) rfl) (d334_29 (j := 28) rfl) (d334_29 (j := 29) rfl) (d334_29 (j := 30) rfl) (by decide) hi hL HF ?_
  refine lw_call (t := 137) (a := 0) (as := [vI (F (i + 1)), vI (F (i + 2))]) (r := []) (n1 := 0) (n2 := 0) (d334_29 (j := 31) rfl) rfl rfl (m0.trans (by decide +kernel)) ⟨by decide +kernel, Nat.le_of_ble_eq_true rfl, (show 3 ≤ dsMx 137 by decide +kernel)⟩ ⟨by decide +kernel, by decide +kernel⟩ (by omega) ?_
  refine a_ct (as := [uR 10 0, uI (F (i + 1)), uI (F (i + 2))]) h.1 ⟨V0, trivial, trivial, trivial⟩ (show 3 ≤ dsMx 137 by decide +kernel) rfl (cq137 h.2.2.1.1) (fun M1 hL1 q1 => ?_)
  have h1 := JN_cw h hL1 q1
  obtain ⟨m0, m84, V0, V84⟩ := JN_0 h1
  have HF := h1.2.2.2.2
  refine a_aload_n (d334_29 (j := 32) rfl) rfl ?_
  refine st_arg (F := F) (n := 1) rfl rfl (d334_29 (j := 33) rfl) (d334_29 (j := 34) rfl) (d334_29 (j := 35) rfl) (d334_29 (j := 36) rfl) (d334_29 (j := 37) rfl) (by decide) hi hL HF ?_
  refine st_arg (F := F) (n := 2) rfl rfl (d334_29 (j := 38) rfl) (d334_29 (j := 39) rfl) (d334_29 (j := 40) rfl) (d334_29 (j := 41) rfl) (d334_29 (j := 42) rfl) (by decide) hi hL HF ?_
  refine lw_call (t := 326) (a := 84) (as := [vI (F (i + 1)), vI (F (i + 2))]) (r := [vI _]) (n1 := 0) (n2 := 0) (d334_29 (j := 43) rfl) rfl rfl (m84.trans (by decide +kernel)) ⟨by decide +kernel, Nat.le_of_ble_eq_true rfl, (show 3 ≤ dsMx 326 by decide +kernel)⟩ ⟨by decide +kernel, by decide +kernel⟩ (by dsimp only; omega) ?_
  refine a_ct (as := [uR 11 84, uI (F (i + 1)), uI (F (i + 2))]) h1.1 ⟨V84, trivial, trivial, trivial⟩ (show 3 ≤ dsMx 326 by decide +kernel) rfl (rq326 h1.2.2.2.1.1) (fun M2 hL2 q2 => ?_)
  have h2 := JN_rw h1 hL2 q2
  exact a_icmp_eq (d334_29 (j := 44) rfl) (fun _ => nx _ _ _ _ h2 (by dsimp only; omega)) (fun q => absurd rfl q)
set_option maxHeartbeats 2000000 in
theorem case69 : lwC 2237 := by
  intro G M F s i L u Q h hi hL hr hu nx
  obtain ⟨m0, m84, V0, V84⟩ := JN_0 h
  have HF := h.2.2.2.2
  refine a_aload_n (d334_29 (j := 47) rfl) rfl ?_
  refine st_arg (F := F) (n := 1) rfl rfl (d334_29 (j := 48) rfl) (d334_29 (j := 49) rfl) (d334_30 (j := 0) rfl) (d334_30 (j := 1) rfl) (d334_30 (j := 2) rfl) (by decide) hi hL HF ?_
  refine lw_call (t := 138) (a := 0) (as := [vI (F (i + 1))]) (r := []) (n1 := 0) (n2 := 0) (d334_30 (j := 3) rfl) rfl rfl (m0.trans (by decide +kernel)) ⟨by decide +kernel, Nat.le_of_ble_eq_true rfl, (show 2 ≤ dsMx 138 by decide +kernel)⟩ ⟨by decide +kernel, by decide +kernel⟩ (by omega) ?_
  refine a_ct (as := [uR 10 0, uI (F (i + 1))]) h.1 ⟨V0, trivial, trivial⟩ (show 2 ≤ dsMx 138 by decide +kernel) rfl (cq138 h.2.2.1.1 h.2.2.1.2.1 h.2.2.1.2.2.2.1.1) (fun M1 hL1 q1 => ?_)
  have h1 : JN G M1 F s s := by rw [show M1 = M from q1]; exact h
  obtain ⟨m0, m84, V0, V84⟩ := JN_0 h1
  have HF := h1.2.2.2.2
  refine a_aload_n (d334_30 (j := 4) rfl) rfl ?_
  refine st_arg (F := F) (n := 1) rfl rfl (d334_30 (j := 5) rfl) (d334_30 (j := 6) rfl) (d334_30 (j := 7) rfl) (d334_30 (j := 8) rfl) (d334_30 (j := 9) rfl) (by decide) hi hL HF ?_
  refine lw_call (t := 327) (a := 84) (as := [vI (F (i + 1))]) (r := [vI _]) (n1 := 0) (n2 := 0) (d334_30 (j := 10) rfl) rfl rfl (m84.trans (by decide +kernel)) ⟨by decide +kernel, Nat.le_of_ble_eq_true rfl, (show 2 ≤ dsMx 327 by decide +kernel)⟩ ⟨by decide +kernel, by decide +kernel⟩ (by dsimp only; omega) ?_
  refine a_ct (as := [uR 11 84, uI (F (i + 1))]) h1.1 ⟨V84, trivial, trivial⟩ (show 2 ≤ dsMx 327 by decide +kernel) rfl (rq327 h1.2.2.2.1.1 h1.2.2.2.1.2.1 h1.2.2.2.1.2.2.2.1) (fun M2 hL2 q2 => ?_)
  have h2 : JN G M2 F s s := by rw [show M2 = M1 from q2]; exact h1
  exact a_icmp_eq (d334_30 (j := 11) rfl) (fun _ => nx _ _ _ _ h2 (by dsimp only; omega)) (fun q => absurd rfl q)
set_option maxHeartbeats 2000000 in
theorem case70 : lwC 2260 := by
  intro G M F s i L u Q h hi hL hr hu nx
  obtain ⟨m0, m84, V0, V84⟩ := JN_0 h
  have HF := h.2.2.2.2
  refine a_aload_n (d334_30 (j := 14) rfl) rfl ?_
  refine st_arg (F := F) (n := 1) rfl rfl (d334_30 (j := 15) rfl) (d334_30 (j := 16) rfl) (d334_30 (j := 17) rfl) (d334_30 (j := 18) rfl) (d334_30 (j := 19) rfl) (by decide) hi hL HF ?_
  refine lw_call (t := 139) (a := 0) (as := [vI (F (i + 1))]) (r := []) (n1 := 21) (n2 := 413) (d334_30 (j := 20) rfl) rfl rfl (m0.trans (by decide +kernel)) ⟨by decide +kernel, Nat.le_of_ble_eq_true rfl, (show 2 ≤ dsMx 139 by decide +kernel)⟩ ⟨by decide +kernel, by decide +kernel⟩ (by omega) ?_
  refine c139 h (fun G1 M1 h1 => ?_)
  obtain ⟨m0, m84, V0, V84⟩ := JN_0 h1
  have HF := h1.2.2.2.2
  refine a_aload_n (d334_30 (j := 21) rfl) rfl ?_
  refine st_arg (F := F) (n := 1) rfl rfl (d334_30 (j := 22) rfl) (d334_30 (j := 23) rfl) (d334_30 (j := 24) rfl) (d334_30 (j := 25) rfl) (d334_30 (j := 26) rfl) (by decide) hi hL HF ?_
  refine lw_call (t := 180) (a := 84) (as := [vI (F (i + 1))]) (r := [vI _]) (n1 := 0) (n2 := 0) (d334_30 (j := 27) rfl) rfl rfl (m84.trans (by decide +kernel)) ⟨by decide +kernel, Nat.le_of_ble_eq_true rfl, (show 2 ≤ dsMx 180 by decide +kernel)⟩ ⟨by decide +kernel, by decide +kernel⟩ (by dsimp only; omega) ?_
  refine a_ct (as := [uR 11 84, uI (F (i + 1))]) h1.1 ⟨V84, trivial, trivial⟩ (show 2 ≤ dsMx 180 by decide +kernel) rfl (rq180 h1.2.2.2.1.1 h1.2.2.2.1.2.2.1) (fun M2 hL2 q2 => ?_)
  have h2 := JN_ri h1 hL2 q2
  exact a_icmp_eq (d334_30 (j := 28) rfl) (fun _ => nx _ _ _ _ h2 (by dsimp only; omega)) (fun q => absurd rfl q)
set_option maxHeartbeats 2000000 in
theorem case71 : lwC 2283 := by
  intro G M F s i L u Q h hi hL hr hu nx
  obtain ⟨m0, m84, V0, V84⟩ := JN_0 h
  have HF := h.2.2.2.2
  refine a_aload_n (d334_30 (j := 31) rfl) rfl ?_
  refine st_arg (F := F) (n := 1) rfl rfl (d334_30 (j := 32) rfl) (d334_30 (j := 33) rfl) (d334_30 (j := 34) rfl) (d334_30 (j := 35) rfl) (d334_30 (j := 36) rfl) (by decide) hi hL HF ?_
  refine lw_call (t := 140) (a := 0) (as := [vI (F (i + 1))]) (r := []) (n1 := 0) (n2 := 0) (d334_30 (j := 37) rfl) rfl rfl (m0.trans (by decide +kernel)) ⟨by decide +kernel, Nat.le_of_ble_eq_true rfl, (show 2 ≤ dsMx 140 by decide +kernel)⟩ ⟨by decide +kernel, by decide +kernel⟩ (by omega) ?_
  refine a_ct (as := [uR 10 0, uI (F (i + 1))]) h.1 ⟨V0, trivial, trivial⟩ (show 2 ≤ dsMx 140 by decide +kernel) rfl (cq140 h.2.2.1.1 h.2.2.1.2.2.1) (fun M1 hL1 q1 => ?_)
  have h1 := JN_cw h hL1 q1
  obtain ⟨m0, m84, V0, V84⟩ := JN_0 h1
  have HF := h1.2.2.2.2
  refine a_aload_n (d334_30 (j := 38) rfl) rfl ?_
  refine st_arg (F := F) (n := 1) rfl rfl (d334_30 (j := 39) rfl) (d334_30 (j := 40) rfl) (d334_30 (j := 41) rfl) (d334_30 (j := 42) rfl) (d334_30 (j := 43) rfl) (by decide) hi hL HF ?_
  refine lw_call (t := 181) (a := 84) (as := [vI (F (i + 1))]) (r := [vI _]) (n1 := 0) (n2 := 0) (d334_30 (j := 44) rfl) rfl rfl (m84.trans (by decide +kernel)) ⟨by decide +kernel, Nat.le_of_ble_eq_true rfl, (show 2 ≤ dsMx 181 by decide +kernel)⟩ ⟨by decide +kernel, by decide +kernel⟩ (by dsimp only; omega) ?_
  refine a_ct (as := [uR 11 84, uI (F (i + 1))]) h1.1 ⟨V84, trivial, trivial⟩ (show 2 ≤ dsMx 181 by decide +kernel) rfl (rq181 h1.2.2.2.1.1 h1.2.2.2.1.2.2.1) (fun M2 hL2 q2 => ?_)
  have h2 := JN_rw h1 hL2 q2
  exact a_icmp_eq (d334_30 (j := 45) rfl) (fun _ => nx _ _ _ _ h2 (by dsimp only; omega)) (fun q => absurd rfl q)
set_option maxHeartbeats 2000000 in
theorem case72 : lwC 2306 := by
  intro G M F s i L u Q h hi hL hr hu nx
  obtain ⟨m0, m84, V0, V84⟩ := JN_0 h
  have HF := h.2.2.2.2
  refine a_aload_n (d334_30 (j := 48) rfl) rfl ?_
  refine st_arg (F := F) (n := 1) rfl rfl (d334_30 (j := 49) rfl) (d334_31 (j := 0) rfl) (d334_31 (j := 1) rfl) (d334_31 (j := 2) rfl) (d334_31 (j := 3) rfl) (by decide) hi hL HF ?_
  refine st_arg (F := F) (n := 2) rfl rfl (d334_31 (j := 4) rfl) (d334_31 (j := 5) rfl) (d334_31 (j := 6) rfl) (d334_31 (j := 7) rfl) (d334_31 (j := 8) rfl) (by decide) hi hL HF ?_
  refine st_arg (F := F) (n := 3) rfl rfl (d334_31 (j := 9) rfl) (d334_31 (j := 10) rfl) (d334_31 (j := 11) rfl) (d334_31 (j := 12) rfl) (d334_31 (j := 13) rfl) (by decide) hi hL HF ?_
  refine lw_call (t := 141) (a := 0) (as := [vI (F (i + 1)), vI (F (i + 2)), vI (F (i + 3))]) (r := []) (n1 := 2) (n2 := 63) (d334_31 (j := 14) rfl) rfl rfl (m0.trans (by decide +kernel)) ⟨by decide +kernel, Nat.le_of_ble_eq_true rfl, (show 4 ≤ dsMx 141 by decide +kernel)⟩ ⟨by decide +kernel, by decide +kernel⟩ (by omega) ?_
  refine c141 h (fun G1 M1 h1 => ?_)
  obtain ⟨m0, m84, V0, V84⟩ := JN_0 h1
  have HF := h1.2.2.2.2
  refine a_aload_n (d334_31 (j := 15) rfl) rfl ?_
  refine st_arg (F := F) (n := 1) rfl rfl (d334_31 (j := 16) rfl) (d334_31 (j := 17) rfl) (d334_31 (j := 18) rfl) (d334_31 (j := 19) rfl) (d334_31 (j := 20) rfl) (by decide) hi hL HF ?_
  refine st_arg (F := F) (n := 2) rfl rfl (d334_31 (j := 21) rfl) (d334_31 (j := 22) rfl) (d334_31 (j := 23) rfl) (d334_31 (j := 24) rfl) (d334_31 (j := 25) rfl) (by decide) hi hL HF ?_
  refine st_arg (F := F) (n := 3) rfl rfl (d334_31 (j := 26) rfl) (d334_31 (j := 27) rfl) (d334_31 (j := 28) rfl) (d334_31 (j := 29) rfl) (d334_31 (j := 30) rfl) (by decide) hi hL HF ?_
  refine lw_call (t := 330) (a := 84) (as := [vI (F (i + 1)), vI (F (i + 2)), vI (F (i + 3))]) (r := [vI _]) (n1 := 0) (n2 := 0) (d334_31 (j := 31) rfl) rfl rfl (m84.trans (by decide +kernel)) ⟨by decide +kernel, Nat.le_of_ble_eq_true rfl, (show 4 ≤ dsMx 330 by decide +kernel)⟩ ⟨by decide +kernel, by decide +kernel⟩ (by dsimp only; omega) ?_
  refine a_ct (as := [uR 11 84, uI (F (i + 1)), uI (F (i + 2)), uI (F (i + 3))]) h1.1 ⟨V84, trivial, trivial, trivial, trivial⟩ (show 4 ≤ dsMx 330 by decide +kernel) rfl (rq330 h1.2.2.2.1.2.1) (fun M2 hL2 q2 => ?_)
  have h2 := JN_rs h1 hL2 q2
  exact a_icmp_eq (d334_31 (j := 32) rfl) (fun _ => nx _ _ _ _ h2 (by dsimp only; omega)) (fun q => absurd rfl q)
set_option maxHeartbeats 2000000 in
theorem case73 : lwC 2349 := by
  intro G M F s i L u Q h hi hL hr hu nx
  obtain ⟨m0, m84, V0, V84⟩ := JN_0 h
  have HF := h.2.2.2.2
  refine a_aload_n (d334_31 (j := 35) rfl) rfl ?_
  refine st_arg (F := F) (n := 1) rfl rfl (d334_31 (j := 36) rfl) (d334_31 (j := 37) rfl) (d334_31 (j := 38) rfl) (d334_31 (j := 39) rfl) (d334_31 (j := 40) rfl) (by decide) hi hL HF ?_
  refine st_arg (F := F) (n := 2) rfl rfl (d334_31 (j := 41) rfl) (d334_31 (j := 42) rfl) (d334_31 (j := 43) rfl) (d334_31 (j := 44) rfl) (d334_31 (j := 45) rfl) (by decide) hi hL HF ?_
  refine st_arg (F := F) (n := 3) rfl rfl (d334_31 (j := 46) rfl) (d334_31 (j := 47) rfl) (d334_31 (j := 48) rfl) (d334_31 (j := 49) rfl) (d334_32 (j := 0) rfl) (by decide) hi hL HF ?_
  refine a_i2l (d334_32 (j := 1) rfl) ?_
  refine a_bipush (d334_32 (j := 2) rfl) (by decide) ?_
  refine a_lshl (d334_32 (j := 3) rfl) ?_
  refine st_arg (F := F) (n := 4) rfl rfl (d334_32 (j := 4) rfl) (d334_32 (j := 5) rfl) (d334_32 (j := 6) rfl) (d334_32 (j := 7) rfl) (d334_32 (j := 8) rfl) (by decide) hi hL HF ?_
  refine a_i2l (d334_32 (j := 9) rfl) ?_
  refine a_ldc2 (v := 4294967295) (d334_32 (j := 10) rfl) rfl ?_
  refine a_land (d334_32 (j := 11) rfl) ?_
  refine a_lor (d334_32 (j := 12) rfl) ?_
  refine lw_call (t := 142) (a := 0) (as := [vI (F (i + 1)), vI (F (i + 2)), vJ (dsLor (dsLsl (F (i + 3)) 32) (dsLand (F (i + 4)) 4294967295))]) (r := []) (n1 := 0) (n2 := 0) (d334_32 (j := 13) rfl) rfl rfl (m0.trans (by decide +kernel)) ⟨by decide +kernel, Nat.le_of_ble_eq_true rfl, (show 5 ≤ dsMx 142 by decide +kernel)⟩ ⟨by decide +kernel, by decide +kernel⟩ (by omega) ?_
  refine a_ct (as := [uR 10 0, uI (F (i + 1)), uI (F (i + 2)), uJ (dsLor (dsLsl (F (i + 3)) 32) (dsLand (F (i + 4)) 4294967295))]) h.1 ⟨V0, trivial, trivial, trivial, trivial⟩ (show 5 ≤ dsMx 142 by decide +kernel) rfl (cq142b h.2.2.1.2.1) (fun M1 hL1 q1 => ?_)
  have h1 := JN_cs h hL1 (fun u => nWr_n) q1
  obtain ⟨m0, m84, V0, V84⟩ := JN_0 h1
  have HF := h1.2.2.2.2
  refine a_aload_n (d334_32 (j := 14) rfl) rfl ?_
  refine st_arg (F := F) (n := 1) rfl rfl (d334_32 (j := 15) rfl) (d334_32 (j := 16) rfl) (d334_32 (j := 17) rfl) (d334_32 (j := 18) rfl) (d334_32 (j := 19) rfl) (by decide) hi hL HF ?_
  refine st_arg (F := F) (n := 2) rfl rfl (d334_32 (j := 20) rfl) (d334_32 (j := 21) rfl) (d334_32 (j := 22) rfl) (d334_32 (j := 23) rfl) (d334_32 (j := 24) rfl) (by decide) hi hL HF ?_
  refine st_arg (F := F) (n := 3) rfl rfl (d334_32 (j := 25) rfl) (d334_32 (j := 26) rfl) (d334_32 (j := 27) rfl) (d334_32 (j := 28) rfl) (d334_32 (j := 29) rfl) (by decide) hi hL HF ?_
  refine a_i2l (d334_32 (j := 30) rfl) ?_
  refine a_bipush (d334_32 (j := 31) rfl) (by decide) ?_
  refine a_lshl (d334_32 (j := 32) rfl) ?_
  refine st_arg (F := F) (n := 4) rfl rfl (d334_32 (j := 33) rfl) (d334_32 (j := 34) rfl) (d334_32 (j := 35) rfl) (d334_32 (j := 36) rfl) (d334_32 (j := 37) rfl) (by decide) hi hL HF ?_
  refine a_i2l (d334_32 (j := 38) rfl) ?_
  refine a_ldc2 (v := 4294967295) (d334_32 (j := 39) rfl) rfl ?_
  refine a_land (d334_32 (j := 40) rfl) ?_
  refine a_lor (d334_32 (j := 41) rfl) ?_
  refine lw_call (t := 331) (a := 84) (as := [vI (F (i + 1)), vI (F (i + 2)), vJ (dsLor (dsLsl (F (i + 3)) 32) (dsLand (F (i + 4)) 4294967295))]) (r := [vI _]) (n1 := 0) (n2 := 0) (d334_32 (j := 42) rfl) rfl rfl (m84.trans (by decide +kernel)) ⟨by decide +kernel, Nat.le_of_ble_eq_true rfl, (show 5 ≤ dsMx 331 by decide +kernel)⟩ ⟨by decide +kernel, by decide +kernel⟩ (by dsimp only; omega) ?_
  refine a_ct (as := [uR 11 84, uI (F (i + 1)), uI (F (i + 2)), uJ (dsLor (dsLsl (F (i + 3)) 32) (dsLand (F (i + 4)) 4294967295))]) h1.1 ⟨V84, trivial, trivial, trivial, trivial⟩ (show 5 ≤ dsMx 331 by decide +kernel) rfl (rq331 h1.2.2.2.1.2.1) (fun M2 hL2 q2 => ?_)
  have h2 := JN_rs h1 hL2 q2
  exact a_icmp_eq (d334_32 (j := 43) rfl) (fun _ => nx _ _ _ _ h2 (by dsimp only; omega)) (fun q => absurd rfl q)
set_option maxHeartbeats 2000000 in
theorem case74 : lwC 2422 := by
  intro G M F s i L u Q h hi hL hr hu nx
  obtain ⟨m0, m84, V0, V84⟩ := JN_0 h
  have HF := h.2.2.2.2
  refine a_aload_n (d334_32 (j := 46) rfl) rfl ?_
  refine st_arg (F := F) (n := 1) rfl rfl (d334_32 (j := 47) rfl) (d334_32 (j := 48) rfl) (d334_32 (j := 49) rfl) (d334_33 (j := 0) rfl) (d334_33 (j := 1) rfl) (by decide) hi hL HF ?_
  refine st_arg (F := F) (n := 2) rfl rfl (d334_33 (j := 2) rfl) (d334_33 (j := 3) rfl) (d334_33 (j := 4) rfl) (d334_33 (j := 5) rfl) (d334_33 (j := 6) rfl) (by decide) hi hL HF ?_
  refine st_arg (F := F) (n := 3) rfl rfl (d334_33 (j := 7) rfl) (d334_33 (j := 8) rfl) (d334_33 (j := 9) rfl) (d334_33 (j := 10) rfl) (d334_33 (j := 11) rfl) (by decide) hi hL HF ?_
  refine st_arg (F := F) (n := 4) rfl rfl (d334_33 (j := 12) rfl) (d334_33 (j := 13) rfl) (d334_33 (j := 14) rfl) (d334_33 (j := 15) rfl) (d334_33 (j := 16) rfl) (by decide) hi hL HF ?_
  refine st_arg (F := F) (n := 5) rfl rfl (d334_33 (j := 17) rfl) (d334_33 (j := 18) rfl) (d334_33 (j := 19) rfl) (d334_33 (j := 20) rfl) (d334_33 (j := 21) rfl) (by decide) hi hL HF ?_
  refine lw_call (t := 143) (a := 0) (as := [vI (F (i + 1)), vI (F (i + 2)), vI (F (i + 3)), vI (F (i + 4)), vI (F (i + 5))]) (r := []) (n1 := 0) (n2 := 0) (d334_33 (j := 22) rfl) rfl rfl (m0.trans (by decide +kernel)) ⟨by decide +kernel, Nat.le_of_ble_eq_true rfl, (show 6 ≤ dsMx 143 by decide +kernel)⟩ ⟨by decide +kernel, by decide +kernel⟩ (by omega) ?_
  refine a_ct (as := [uR 10 0, uI (F (i + 1)), uI (F (i + 2)), uI (F (i + 3)), uI (F (i + 4)), uI (F (i + 5))]) h.1 ⟨V0, trivial, trivial, trivial, trivial, trivial, trivial⟩ (show 6 ≤ dsMx 143 by decide +kernel) rfl (cq143b h.2.2.1.2.1 (hr _ (by omega) (by omega))) (fun M1 hL1 q1 => ?_)
  have h1 := JN_cs h hL1 (fun u => nPa_n) q1
  obtain ⟨m0, m84, V0, V84⟩ := JN_0 h1
  have HF := h1.2.2.2.2
  refine a_aload_n (d334_33 (j := 23) rfl) rfl ?_
  refine st_arg (F := F) (n := 1) rfl rfl (d334_33 (j := 24) rfl) (d334_33 (j := 25) rfl) (d334_33 (j := 26) rfl) (d334_33 (j := 27) rfl) (d334_33 (j := 28) rfl) (by decide) hi hL HF ?_
  refine st_arg (F := F) (n := 2) rfl rfl (d334_33 (j := 29) rfl) (d334_33 (j := 30) rfl) (d334_33 (j := 31) rfl) (d334_33 (j := 32) rfl) (d334_33 (j := 33) rfl) (by decide) hi hL HF ?_
  refine st_arg (F := F) (n := 3) rfl rfl (d334_33 (j := 34) rfl) (d334_33 (j := 35) rfl) (d334_33 (j := 36) rfl) (d334_33 (j := 37) rfl) (d334_33 (j := 38) rfl) (by decide) hi hL HF ?_
  refine st_arg (F := F) (n := 4) rfl rfl (d334_33 (j := 39) rfl) (d334_33 (j := 40) rfl) (d334_33 (j := 41) rfl) (d334_33 (j := 42) rfl) (d334_33 (j := 43) rfl) (by decide) hi hL HF ?_
  refine st_arg (F := F) (n := 5) rfl rfl (d334_33 (j := 44) rfl) (d334_33 (j := 45) rfl) (d334_33 (j := 46) rfl) (d334_33 (j := 47) rfl) (d334_33 (j := 48) rfl) (by decide) hi hL HF ?_
  refine lw_call (t := 332) (a := 84) (as := [vI (F (i + 1)), vI (F (i + 2)), vI (F (i + 3)), vI (F (i + 4)), vI (F (i + 5))]) (r := [vI _]) (n1 := 0) (n2 := 0) (d334_33 (j := 49) rfl) rfl rfl (m84.trans (by decide +kernel)) ⟨by decide +kernel, Nat.le_of_ble_eq_true rfl, (show 6 ≤ dsMx 332 by decide +kernel)⟩ ⟨by decide +kernel, by decide +kernel⟩ (by dsimp only; omega) ?_
  refine a_ct (as := [uR 11 84, uI (F (i + 1)), uI (F (i + 2)), uI (F (i + 3)), uI (F (i + 4)), uI (F (i + 5))]) h1.1 ⟨V84, trivial, trivial, trivial, trivial, trivial, trivial⟩ (show 6 ≤ dsMx 332 by decide +kernel) rfl (rq332 h1.2.2.2.1.2.1 ⟨hr _ (by omega) (by omega), hr _ (by omega) (by omega), hr _ (by omega) (by omega)⟩) (fun M2 hL2 q2 => ?_)
  have h2 := JN_rs h1 hL2 q2
  exact a_icmp_eq (d334_34 (j := 0) rfl) (fun _ => nx _ _ _ _ h2 (by dsimp only; omega)) (fun q => absurd rfl q)
