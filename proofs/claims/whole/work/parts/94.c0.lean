/-! cases of the law -/
set_option maxHeartbeats 2000000 in
theorem case0 : lwC 348 := by
  intro G M F s i L u Q h hi hL hr hu nx
  obtain ⟨m0, m84, V0, V84⟩ := JN_0 h
  have HF := h.2.2.2.2
  refine a_aload_n (d334_0 (j := 22) rfl) rfl ?_
  refine st_arg (F := F) (n := 1) rfl rfl (d334_0 (j := 23) rfl) (d334_0 (j := 24) rfl) (d334_0 (j := 25) rfl) (d334_0 (j := 26) rfl) (d334_0 (j := 27) rfl) (by decide) hi hL HF ?_
  refine st_arg (F := F) (n := 2) rfl rfl (d334_0 (j := 28) rfl) (d334_0 (j := 29) rfl) (d334_0 (j := 30) rfl) (d334_0 (j := 31) rfl) (d334_0 (j := 32) rfl) (by decide) hi hL HF ?_
  refine st_arg (F := F) (n := 3) rfl rfl (d334_0 (j := 33) rfl) (d334_0 (j := 34) rfl) (d334_0 (j := 35) rfl) (d334_0 (j := 36) rfl) (d334_0 (j := 37) rfl) (by decide) hi hL HF ?_
  refine st_arg (F := F) (n := 4) rfl rfl (d334_0 (j := 38) rfl) (d334_0 (j := 39) rfl) (d334_0 (j := 40) rfl) (d334_0 (j := 41) rfl) (d334_0 (j := 42) rfl) (by decide) hi hL HF ?_
  refine st_arg (F := F) (n := 5) rfl rfl (d334_0 (j := 43) rfl) (d334_0 (j := 44) rfl) (d334_0 (j := 45) rfl) (d334_0 (j := 46) rfl) (d334_0 (j := 47) rfl) (by decide) hi hL HF ?_
  refine lw_call (t := 69) (a := 0) (as := [vI (F (i + 1)), vI (F (i + 2)), vI (F (i + 3)), vI (F (i + 4)), vI (F (i + 5))]) (r := []) (n1 := 0) (n2 := 0) (d334_0 (j := 48) rfl) rfl rfl (m0.trans (by decide +kernel)) ⟨by decide +kernel, Nat.le_of_ble_eq_true rfl, (show 6 ≤ dsMx 69 by decide +kernel)⟩ ⟨by decide +kernel, by decide +kernel⟩ (by omega) ?_
  refine a_ct (as := [uR 10 0, uI (F (i + 1)), uI (F (i + 2)), uI (F (i + 3)), uI (F (i + 4)), uI (F (i + 5))]) h.1 ⟨V0, trivial, trivial, trivial, trivial, trivial, trivial⟩ (show 6 ≤ dsMx 69 by decide +kernel) rfl (cq69 h.2.2.1.2.2.2) (fun M1 hL1 q1 => ?_)
  have h1 := JN_ct h hL1 q1
  obtain ⟨m0, m84, V0, V84⟩ := JN_0 h1
  have HF := h1.2.2.2.2
  refine a_aload_n (d334_0 (j := 49) rfl) rfl ?_
  refine st_arg (F := F) (n := 1) rfl rfl (d334_1 (j := 0) rfl) (d334_1 (j := 1) rfl) (d334_1 (j := 2) rfl) (d334_1 (j := 3) rfl) (d334_1 (j := 4) rfl) (by decide) hi hL HF ?_
  refine st_arg (F := F) (n := 2) rfl rfl (d334_1 (j := 5) rfl) (d334_1 (j := 6) rfl) (d334_1 (j := 7) rfl) (d334_1 (j := 8) rfl) (d334_1 (j := 9) rfl) (by decide) hi hL HF ?_
  refine st_arg (F := F) (n := 3) rfl rfl (d334_1 (j := 10) rfl) (d334_1 (j := 11) rfl) (d334_1 (j := 12) rfl) (d334_1 (j := 13) rfl) (d334_1 (j := 14) rfl) (by decide) hi hL HF ?_
  refine st_arg (F := F) (n := 4) rfl rfl (d334_1 (j := 15) rfl) (d334_1 (j := 16) rfl) (d334_1 (j := 17) rfl) (d334_1 (j := 18) rfl) (d334_1 (j := 19) rfl) (by decide) hi hL HF ?_
  refine st_arg (F := F) (n := 5) rfl rfl (d334_1 (j := 20) rfl) (d334_1 (j := 21) rfl) (d334_1 (j := 22) rfl) (d334_1 (j := 23) rfl) (d334_1 (j := 24) rfl) (by decide) hi hL HF ?_
  refine lw_call (t := 194) (a := 84) (as := [vI (F (i + 1)), vI (F (i + 2)), vI (F (i + 3)), vI (F (i + 4)), vI (F (i + 5))]) (r := [vI _]) (n1 := 0) (n2 := 0) (d334_1 (j := 25) rfl) rfl rfl (m84.trans (by decide +kernel)) ⟨by decide +kernel, Nat.le_of_ble_eq_true rfl, (show 6 ≤ dsMx 194 by decide +kernel)⟩ ⟨by decide +kernel, by decide +kernel⟩ (by dsimp only; omega) ?_
  refine a_ct (as := [uR 11 84, uI (F (i + 1)), uI (F (i + 2)), uI (F (i + 3)), uI (F (i + 4)), uI (F (i + 5))]) h1.1 ⟨V84, trivial, trivial, trivial, trivial, trivial, trivial⟩ (show 6 ≤ dsMx 194 by decide +kernel) rfl (rq194 h1.2.2.2.1.2.2.2) (fun M2 hL2 q2 => ?_)
  have h2 := JN_rt h1 hL2 q2
  exact a_icmp_eq (d334_1 (j := 26) rfl) (fun _ => nx _ _ _ _ h2 (by dsimp only; omega)) (fun q => absurd rfl q)
set_option maxHeartbeats 2000000 in
theorem case1 : lwC 411 := by
  intro G M F s i L u Q h hi hL hr hu nx
  obtain ⟨m0, m84, V0, V84⟩ := JN_0 h
  have HF := h.2.2.2.2
  refine a_aload_n (d334_1 (j := 29) rfl) rfl ?_
  refine st_arg (F := F) (n := 1) rfl rfl (d334_1 (j := 30) rfl) (d334_1 (j := 31) rfl) (d334_1 (j := 32) rfl) (d334_1 (j := 33) rfl) (d334_1 (j := 34) rfl) (by decide) hi hL HF ?_
  refine lw_call (t := 70) (a := 0) (as := [vI (F (i + 1))]) (r := []) (n1 := 0) (n2 := 0) (d334_1 (j := 35) rfl) rfl rfl (m0.trans (by decide +kernel)) ⟨by decide +kernel, Nat.le_of_ble_eq_true rfl, (show 2 ≤ dsMx 70 by decide +kernel)⟩ ⟨by decide +kernel, by decide +kernel⟩ (by omega) ?_
  refine a_ct (as := [uR 10 0, uI (F (i + 1))]) h.1 ⟨V0, trivial, trivial⟩ (show 2 ≤ dsMx 70 by decide +kernel) rfl (cq70 h.2.2.1.2.2.2) (fun M1 hL1 q1 => ?_)
  have h1 := JN_ct h hL1 q1
  obtain ⟨m0, m84, V0, V84⟩ := JN_0 h1
  have HF := h1.2.2.2.2
  refine a_aload_n (d334_1 (j := 36) rfl) rfl ?_
  refine st_arg (F := F) (n := 1) rfl rfl (d334_1 (j := 37) rfl) (d334_1 (j := 38) rfl) (d334_1 (j := 39) rfl) (d334_1 (j := 40) rfl) (d334_1 (j := 41) rfl) (by decide) hi hL HF ?_
  refine lw_call (t := 195) (a := 84) (as := [vI (F (i + 1))]) (r := [vI _]) (n1 := 0) (n2 := 0) (d334_1 (j := 42) rfl) rfl rfl (m84.trans (by decide +kernel)) ⟨by decide +kernel, Nat.le_of_ble_eq_true rfl, (show 2 ≤ dsMx 195 by decide +kernel)⟩ ⟨by decide +kernel, by decide +kernel⟩ (by dsimp only; omega) ?_
  refine a_ct (as := [uR 11 84, uI (F (i + 1))]) h1.1 ⟨V84, trivial, trivial⟩ (show 2 ≤ dsMx 195 by decide +kernel) rfl (rq195 h1.2.2.2.1.2.2.2) (fun M2 hL2 q2 => ?_)
  have h2 := JN_rt h1 hL2 q2
  exact a_icmp_eq (d334_1 (j := 43) rfl) (fun _ => nx _ _ _ _ h2 (by dsimp only; omega)) (fun q => absurd rfl q)
set_option maxHeartbeats 2000000 in
theorem case2 : lwC 434 := by
  intro G M F s i L u Q h hi hL hr hu nx
  obtain ⟨m0, m84, V0, V84⟩ := JN_0 h
  have HF := h.2.2.2.2
  refine a_aload_n (d334_1 (j := 46) rfl) rfl ?_
  refine lw_call (t := 71) (a := 0) (as := []) (r := []) (n1 := 0) (n2 := 0) (d334_1 (j := 47) rfl) rfl rfl (m0.trans (by decide +kernel)) ⟨by decide +kernel, Nat.le_of_ble_eq_true rfl, (show 1 ≤ dsMx 71 by decide +kernel)⟩ ⟨by decide +kernel, by decide +kernel⟩ (by omega) ?_
  refine a_ct (as := [uR 10 0]) h.1 ⟨V0, trivial⟩ (show 1 ≤ dsMx 71 by decide +kernel) rfl (cq71 h.2.2.1.1 h.2.2.1.2.2.2) (fun M1 hL1 q1 => ?_)
  have h1 := JN_cc h hL1 q1
  obtain ⟨m0, m84, V0, V84⟩ := JN_0 h1
  have HF := h1.2.2.2.2
  refine a_aload_n (d334_1 (j := 48) rfl) rfl ?_
  refine lw_call (t := 214) (a := 84) (as := []) (r := [vI _]) (n1 := 0) (n2 := 0) (d334_1 (j := 49) rfl) rfl rfl (m84.trans (by decide +kernel)) ⟨by decide +kernel, Nat.le_of_ble_eq_true rfl, (show 1 ≤ dsMx 214 by decide +kernel)⟩ ⟨by decide +kernel, by decide +kernel⟩ (by dsimp only; omega) ?_
  refine a_ct (as := [uR 11 84]) h1.1 ⟨V84, trivial⟩ (show 1 ≤ dsMx 214 by decide +kernel) rfl (rq214 h1.2.2.2.1.1 h1.2.2.2.1.2.2.2) (fun M2 hL2 q2 => ?_)
  have h2 := JN_rc h1 hL2 q2
  exact a_icmp_eq (d334_2 (j := 0) rfl) (fun _ => nx _ _ _ _ h2 (by dsimp only; omega)) (fun q => absurd rfl q)
set_option maxHeartbeats 2000000 in
theorem case3 : lwC 447 := by
  intro G M F s i L u Q h hi hL hr hu nx
  obtain ⟨m0, m84, V0, V84⟩ := JN_0 h
  have HF := h.2.2.2.2
  refine a_aload_n (d334_2 (j := 3) rfl) rfl ?_
  refine st_arg (F := F) (n := 1) rfl rfl (d334_2 (j := 4) rfl) (d334_2 (j := 5) rfl) (d334_2 (j := 6) rfl) (d334_2 (j := 7) rfl) (d334_2 (j := 8) rfl) (by decide) hi hL HF ?_
  refine lw_call (t := 72) (a := 0) (as := [vI (F (i + 1))]) (r := []) (n1 := 0) (n2 := 0) (d334_2 (j := 9) rfl) rfl rfl (m0.trans (by decide +kernel)) ⟨by decide +kernel, Nat.le_of_ble_eq_true rfl, (show 2 ≤ dsMx 72 by decide +kernel)⟩ ⟨by decide +kernel, by decide +kernel⟩ (by omega) ?_
  refine a_ct (as := [uR 10 0, uI (F (i + 1))]) h.1 ⟨V0, trivial, trivial⟩ (show 2 ≤ dsMx 72 by decide +kernel) rfl (cq72 h.2.2.1.2.2.2) (fun M1 hL1 q1 => ?_)
  have h1 : JN G M1 F s s := by rw [show M1 = M from q1]; exact h
  obtain ⟨m0, m84, V0, V84⟩ := JN_0 h1
  have HF := h1.2.2.2.2
  refine a_aload_n (d334_2 (j := 10) rfl) rfl ?_
  refine st_arg (F := F) (n := 1) rfl rfl (d334_2 (j := 11) rfl) (d334_2 (j := 12) rfl) (d334_2 (j := 13) rfl) (d334_2 (j := 14) rfl) (d334_2 (j := 15) rfl) (by decide) hi hL HF ?_
  refine lw_call (t := 205) (a := 84) (as := [vI (F (i + 1))]) (r := [vI _]) (n1 := 0) (n2 := 0) (d334_2 (j := 16) rfl) rfl rfl (m84.trans (by decide +kernel)) ⟨by decide +kernel, Nat.le_of_ble_eq_true rfl, (show 2 ≤ dsMx 205 by decide +kernel)⟩ ⟨by decide +kernel, by decide +kernel⟩ (by dsimp only; omega) ?_
  refine a_ct (as := [uR 11 84, uI (F (i + 1))]) h1.1 ⟨V84, trivial, trivial⟩ (show 2 ≤ dsMx 205 by decide +kernel) rfl (rq205 h1.2.2.2.1.2.2.2) (fun M2 hL2 q2 => ?_)
  have h2 : JN G M2 F s s := by rw [show M2 = M1 from q2]; exact h1
  exact a_icmp_eq (d334_2 (j := 17) rfl) (fun _ => nx _ _ _ _ h2 (by dsimp only; omega)) (fun q => absurd rfl q)
set_option maxHeartbeats 2000000 in
theorem case4 : lwC 470 := by
  intro G M F s i L u Q h hi hL hr hu nx
  obtain ⟨m0, m84, V0, V84⟩ := JN_0 h
  have HF := h.2.2.2.2
  refine a_aload_n (d334_2 (j := 20) rfl) rfl ?_
  refine st_arg (F := F) (n := 1) rfl rfl (d334_2 (j := 21) rfl) (d334_2 (j := 22) rfl) (d334_2 (j := 23) rfl) (d334_2 (j := 24) rfl) (d334_2 (j := 25) rfl) (by decide) hi hL HF ?_
  refine st_arg (F := F) (n := 2) rfl rfl (d334_2 (j := 26) rfl) (d334_2 (j := 27) rfl) (d334_2 (j := 28) rfl) (d334_2 (j := 29) rfl) (d334_2 (j := 30) rfl) (by decide) hi hL HF ?_
  refine lw_call (t := 73) (a := 0) (as := [vI (F (i + 1)), vI (F (i + 2))]) (r := []) (n1 := 0) (n2 := 0) (d334_2 (j := 31) rfl) rfl rfl (m0.trans (by decide +kernel)) ⟨by decide +kernel, Nat.le_of_ble_eq_true rfl, (show 3 ≤ dsMx 73 by decide +kernel)⟩ ⟨by decide +kernel, by decide +kernel⟩ (by omega) ?_
  refine a_ct (as := [uR 10 0, uI (F (i + 1)), uI (F (i + 2))]) h.1 ⟨V0, trivial, trivial, trivial⟩ (show 3 ≤ dsMx 73 by decide +kernel) rfl (cq73 h.2.2.1.1) (fun M1 hL1 q1 => ?_)
  have h1 := JN_cq h hL1 q1
  obtain ⟨m0, m84, V0, V84⟩ := JN_0 h1
  have HF := h1.2.2.2.2
  refine a_aload_n (d334_2 (j := 32) rfl) rfl ?_
  refine st_arg (F := F) (n := 1) rfl rfl (d334_2 (j := 33) rfl) (d334_2 (j := 34) rfl) (d334_2 (j := 35) rfl) (d334_2 (j := 36) rfl) (d334_2 (j := 37) rfl) (by decide) hi hL HF ?_
  refine st_arg (F := F) (n := 2) rfl rfl (d334_2 (j := 38) rfl) (d334_2 (j := 39) rfl) (d334_2 (j := 40) rfl) (d334_2 (j := 41) rfl) (d334_2 (j := 42) rfl) (by decide) hi hL HF ?_
  refine lw_call (t := 215) (a := 84) (as := [vI (F (i + 1)), vI (F (i + 2))]) (r := [vI _]) (n1 := 0) (n2 := 0) (d334_2 (j := 43) rfl) rfl rfl (m84.trans (by decide +kernel)) ⟨by decide +kernel, Nat.le_of_ble_eq_true rfl, (show 3 ≤ dsMx 215 by decide +kernel)⟩ ⟨by decide +kernel, by decide +kernel⟩ (by dsimp only; omega) ?_
  refine a_ct (as := [uR 11 84, uI (F (i + 1)), uI (F (i + 2))]) h1.1 ⟨V84, trivial, trivial, trivial⟩ (show 3 ≤ dsMx 215 by decide +kernel) rfl (rq215 h1.2.2.2.1.1) (fun M2 hL2 q2 => ?_)
  have h2 := JN_rq h1 hL2 q2
  exact a_icmp_eq (d334_2 (j := 44) rfl) (fun _ => nx _ _ _ _ h2 (by dsimp only; omega)) (fun q => absurd rfl q)
set_option maxHeartbeats 2000000 in
theorem case5 : lwC 503 := by
  intro G M F s i L u Q h hi hL hr hu nx
  obtain ⟨m0, m84, V0, V84⟩ := JN_0 h
  have HF := h.2.2.2.2
  refine a_aload_n (d334_2 (j := 47) rfl) rfl ?_
  refine st_arg (F := F) (n := 1) rfl rfl (d334_2 (j := 48) rfl) (d334_2 (j := 49) rfl) (d334_3 (j := 0) rfl) (d334_3 (j := 1) rfl) (d334_3 (j := 2) rfl) (by decide) hi hL HF ?_
  refine st_arg (F := F) (n := 2) rfl rfl (d334_3 (j := 3) rfl) (d334_3 (j := 4) rfl) (d334_3 (j := 5) rfl) (d334_3 (j := 6) rfl) (d334_3 (j := 7) rfl) (by decide) hi hL HF ?_
  refine lw_call (t := 74) (a := 0) (as := [vI (F (i + 1)), vI (F (i + 2))]) (r := []) (n1 := 0) (n2 := 0) (d334_3 (j := 8) rfl) rfl rfl (m0.trans (by decide +kernel)) ⟨by decide +kernel, Nat.le_of_ble_eq_true rfl, (show 3 ≤ dsMx 74 by decide +kernel)⟩ ⟨by decide +kernel, by decide +kernel⟩ (by omega) ?_
  refine a_ct (as := [uR 10 0, uI (F (i + 1)), uI (F (i + 2))]) h.1 ⟨V0, trivial, trivial, trivial⟩ (show 3 ≤ dsMx 74 by decide +kernel) rfl (cq74 h.2.2.1.1) (fun M1 hL1 q1 => ?_)
  have h1 := JN_cq h hL1 q1
  obtain ⟨m0, m84, V0, V84⟩ := JN_0 h1
  have HF := h1.2.2.2.2
  refine a_aload_n (d334_3 (j := 9) rfl) rfl ?_
  refine st_arg (F := F) (n := 1) rfl rfl (d334_3 (j := 10) rfl) (d334_3 (j := 11) rfl) (d334_3 (j := 12) rfl) (d334_3 (j := 13) rfl) (d334_3 (j := 14) rfl) (by decide) hi hL HF ?_
  refine st_arg (F := F) (n := 2) rfl rfl (d334_3 (j := 15) rfl) (d334_3 (j := 16) rfl) (d334_3 (j := 17) rfl) (d334_3 (j := 18) rfl) (d334_3 (j := 19) rfl) (by decide) hi hL HF ?_
  refine lw_call (t := 216) (a := 84) (as := [vI (F (i + 1)), vI (F (i + 2))]) (r := [vI _]) (n1 := 0) (n2 := 0) (d334_3 (j := 20) rfl) rfl rfl (m84.trans (by decide +kernel)) ⟨by decide +kernel, Nat.le_of_ble_eq_true rfl, (show 3 ≤ dsMx 216 by decide +kernel)⟩ ⟨by decide +kernel, by decide +kernel⟩ (by dsimp only; omega) ?_
  refine a_ct (as := [uR 11 84, uI (F (i + 1)), uI (F (i + 2))]) h1.1 ⟨V84, trivial, trivial, trivial⟩ (show 3 ≤ dsMx 216 by decide +kernel) rfl (rq216 h1.2.2.2.1.1) (fun M2 hL2 q2 => ?_)
  have h2 := JN_rq h1 hL2 q2
  exact a_icmp_eq (d334_3 (j := 21) rfl) (fun _ => nx _ _ _ _ h2 (by dsimp only; omega)) (fun q => absurd rfl q)
set_option maxHeartbeats 2000000 in
theorem case6 : lwC 536 := by
  intro G M F s i L u Q h hi hL hr hu nx
  obtain ⟨m0, m84, V0, V84⟩ := JN_0 h
  have HF := h.2.2.2.2
  refine a_aload_n (d334_3 (j := 24) rfl) rfl ?_
  refine st_arg (F := F) (n := 1) rfl rfl (d334_3 (j := 25) rfl) (d334_3 (j := 26) rfl) (d334_3 (j := 27) rfl) (d334_3 (j := 28) rfl) (d334_3 (j := 29) rfl) (by decide) hi hL HF ?_
  refine st_arg (F := F) (n := 2) rfl rfl (d334_3 (j := 30) rfl) (d334_3 (j := 31) rfl) (d334_3 (j := 32) rfl) (d334_3 (j := 33) rfl) (d334_3 (j := 34) rfl) (by decide) hi hL HF ?_
  refine lw_call (t := 75) (a := 0) (as := [vI (F (i + 1)), vI (F (i + 2))]) (r := []) (n1 := 0) (n2 := 0) (d334_3 (j := 35) rfl) rfl rfl (m0.trans (by decide +kernel)) ⟨by decide +kernel, Nat.le_of_ble_eq_true rfl, (show 3 ≤ dsMx 75 by decide +kernel)⟩ ⟨by decide +kernel, by decide +kernel⟩ (by omega) ?_
  refine a_ct (as := [uR 10 0, uI (F (i + 1)), uI (F (i + 2))]) h.1 ⟨V0, trivial, trivial, trivial⟩ (show 3 ≤ dsMx 75 by decide +kernel) rfl (cq75 h.2.2.1.1) (fun M1 hL1 q1 => ?_)
  have h1 := JN_cq h hL1 q1
  obtain ⟨m0, m84, V0, V84⟩ := JN_0 h1
  have HF := h1.2.2.2.2
  refine a_aload_n (d334_3 (j := 36) rfl) rfl ?_
  refine st_arg (F := F) (n := 1) rfl rfl (d334_3 (j := 37) rfl) (d334_3 (j := 38) rfl) (d334_3 (j := 39) rfl) (d334_3 (j := 40) rfl) (d334_3 (j := 41) rfl) (by decide) hi hL HF ?_
  refine st_arg (F := F) (n := 2) rfl rfl (d334_3 (j := 42) rfl) (d334_3 (j := 43) rfl) (d334_3 (j := 44) rfl) (d334_3 (j := 45) rfl) (d334_3 (j := 46) rfl) (by decide) hi hL HF ?_
  refine lw_call (t := 217) (a := 84) (as := [vI (F (i + 1)), vI (F (i + 2))]) (r := [vI _]) (n1 := 0) (n2 := 0) (d334_3 (j := 47) rfl) rfl rfl (m84.trans (by decide +kernel)) ⟨by decide +kernel, Nat.le_of_ble_eq_true rfl, (show 3 ≤ dsMx 217 by decide +kernel)⟩ ⟨by decide +kernel, by decide +kernel⟩ (by dsimp only; omega) ?_
  refine a_ct (as := [uR 11 84, uI (F (i + 1)), uI (F (i + 2))]) h1.1 ⟨V84, trivial, trivial, trivial⟩ (show 3 ≤ dsMx 217 by decide +kernel) rfl (rq217 h1.2.2.2.1.1) (fun M2 hL2 q2 => ?_)
  have h2 := JN_rq h1 hL2 q2
  exact a_icmp_eq (d334_3 (j := 48) rfl) (fun _ => nx _ _ _ _ h2 (by dsimp only; omega)) (fun q => absurd rfl q)
set_option maxHeartbeats 2000000 in
theorem case7 : lwC 569 := by
  intro G M F s i L u Q h hi hL hr hu nx
  obtain ⟨m0, m84, V0, V84⟩ := JN_0 h
  have HF := h.2.2.2.2
  refine a_aload_n (d334_4 (j := 1) rfl) rfl ?_
  refine st_arg (F := F) (n := 1) rfl rfl (d334_4 (j := 2) rfl) (d334_4 (j := 3) rfl) (d334_4 (j := 4) rfl) (d334_4 (j := 5) rfl) (d334_4 (j := 6) rfl) (by decide) hi hL HF ?_
  refine lw_call (t := 76) (a := 0) (as := [vI (F (i + 1))]) (r := []) (n1 := 0) (n2 := 0) (d334_4 (j := 7) rfl) rfl rfl (m0.trans (by decide +kernel)) ⟨by decide +kernel, Nat.le_of_ble_eq_true rfl, (show 2 ≤ dsMx 76 by decide +kernel)⟩ ⟨by decide +kernel, by decide +kernel⟩ (by omega) ?_
  refine a_ct (as := [uR 10 0, uI (F (i + 1))]) h.1 ⟨V0, trivial, trivial⟩ (show 2 ≤ dsMx 76 by decide +kernel) rfl (cq76 h.2.2.1.1) (fun M1 hL1 q1 => ?_)
  have h1 := JN_cq h hL1 q1
  obtain ⟨m0, m84, V0, V84⟩ := JN_0 h1
  have HF := h1.2.2.2.2
  refine a_aload_n (d334_4 (j := 8) rfl) rfl ?_
  refine st_arg (F := F) (n := 1) rfl rfl (d334_4 (j := 9) rfl) (d334_4 (j := 10) rfl) (d334_4 (j := 11) rfl) (d334_4 (j := 12) rfl) (d334_4 (j := 13) rfl) (by decide) hi hL HF ?_
  refine lw_call (t := 219) (a := 84) (as := [vI (F (i + 1))]) (r := [vI _]) (n1 := 0) (n2 := 0) (d334_4 (j := 14) rfl) rfl rfl (m84.trans (by decide +kernel)) ⟨by decide +kernel, Nat.le_of_ble_eq_true rfl, (show 2 ≤ dsMx 219 by decide +kernel)⟩ ⟨by decide +kernel, by decide +kernel⟩ (by dsimp only; omega) ?_
  refine a_ct (as := [uR 11 84, uI (F (i + 1))]) h1.1 ⟨V84, trivial, trivial⟩ (show 2 ≤ dsMx 219 by decide +kernel) rfl (rq219 h1.2.2.2.1.1) (fun M2 hL2 q2 => ?_)
  have h2 := JN_rq h1 hL2 q2
  exact a_icmp_eq (d334_4 (j := 15) rfl) (fun _ => nx _ _ _ _ h2 (by dsimp only; omega)) (fun q => absurd rfl q)
set_option maxHeartbeats 2000000 in
theorem case8 : lwC 592 := by
  intro G M F s i L u Q h hi hL hr hu nx
  obtain ⟨m0, m84, V0, V84⟩ := JN_0 h
  have HF := h.2.2.2.2
  refine a_aload_n (d334_4 (j := 18) rfl) rfl ?_
  refine st_arg (F := F) (n := 1) rfl rfl (d334_4 (j := 19) rfl) (d334_4 (j := 20) rfl) (d334_4 (j := 21) rfl) (d334_4 (j := 22) rfl) (d334_4 (j := 23) rfl) (by decide) hi hL HF ?_
  refine st_arg (F := F) (n := 2) rfl rfl (d334_4 (j := 24) rfl) (d334_4 (j := 25) rfl) (d334_4 (j := 26) rfl) (d334_4 (j := 27) rfl) (d334_4 (j := 28) rfl) (by decide) hi hL HF ?_
  refine lw_call (t := 77) (a := 0) (as := [vI (F (i + 1)), vI (F (i + 2))]) (r := []) (n1 := 0) (n2 := 0) (d334_4 (j := 29) rfl) rfl rfl (m0.trans (by decide +kernel)) ⟨by decide +kernel, Nat.le_of_ble_eq_true rfl, (show 3 ≤ dsMx 77 by decide +kernel)⟩ ⟨by decide +kernel, by decide +kernel⟩ (by omega) ?_
  refine a_ct (as := [uR 10 0, uI (F (i + 1)), uI (F (i + 2))]) h.1 ⟨V0, trivial, trivial, trivial⟩ (show 3 ≤ dsMx 77 by decide +kernel) rfl (cq77 h.2.2.1.1) (fun M1 hL1 q1 => ?_)
  have h1 := JN_cq h hL1 q1
  obtain ⟨m0, m84, V0, V84⟩ := JN_0 h1
  have HF := h1.2.2.2.2
  refine a_aload_n (d334_4 (j := 30) rfl) rfl ?_
  refine st_arg (F := F) (n := 1) rfl rfl (d334_4 (j := 31) rfl) (d334_4 (j := 32) rfl) (d334_4 (j := 33) rfl) (d334_4 (j := 34) rfl) (d334_4 (j := 35) rfl) (by decide) hi hL HF ?_
  refine st_arg (F := F) (n := 2) rfl rfl (d334_4 (j := 36) rfl) (d334_4 (j := 37) rfl) (d334_4 (j := 38) rfl) (d334_4 (j := 39) rfl) (d334_4 (j := 40) rfl) (by decide) hi hL HF ?_
  refine lw_call (t := 245) (a := 84) (as := [vI (F (i + 1)), vI (F (i + 2))]) (r := [vI _]) (n1 := 0) (n2 := 0) (d334_4 (j := 41) rfl) rfl rfl (m84.trans (by decide +kernel)) ⟨by decide +kernel, Nat.le_of_ble_eq_true rfl, (show 3 ≤ dsMx 245 by decide +kernel)⟩ ⟨by decide +kernel, by decide +kernel⟩ (by dsimp only; omega) ?_
  refine a_ct (as := [uR 11 84, uI (F (i + 1)), uI (F (i + 2))]) h1.1 ⟨V84, trivial, trivial, trivial⟩ (show 3 ≤ dsMx 245 by decide +kernel) rfl (rq245 h1.2.2.2.1.1) (fun M2 hL2 q2 => ?_)
  have h2 := JN_rq h1 hL2 q2
  exact a_icmp_eq (d334_4 (j := 42) rfl) (fun _ => nx _ _ _ _ h2 (by dsimp only; omega)) (fun q => absurd rfl q)
set_option maxHeartbeats 2000000 in
theorem case9 : lwC 625 := by
  intro G M F s i L u Q h hi hL hr hu nx
  obtain ⟨m0, m84, V0, V84⟩ := JN_0 h
  have HF := h.2.2.2.2
  refine a_aload_n (d334_4 (j := 45) rfl) rfl ?_
  refine st_arg (F := F) (n := 1) rfl rfl (d334_4 (j := 46) rfl) (d334_4 (j := 47) rfl) (d334_4 (j := 48) rfl) (d334_4 (j := 49) rfl) (d334_5 (j := 0) rfl) (by decide) hi hL HF ?_
  refine st_arg (F := F) (n := 2) rfl rfl (d334_5 (j := 1) rfl) (d334_5 (j := 2) rfl) (d334_5 (j := 3) rfl) (d334_5 (j := 4) rfl) (d334_5 (j := 5) rfl) (by decide) hi hL HF ?_
  refine lw_call (t := 78) (a := 0) (as := [vI (F (i + 1)), vI (F (i + 2))]) (r := []) (n1 := 0) (n2 := 0) (d334_5 (j := 6) rfl) rfl rfl (m0.trans (by decide +kernel)) ⟨by decide +kernel, Nat.le_of_ble_eq_true rfl, (show 3 ≤ dsMx 78 by decide +kernel)⟩ ⟨by decide +kernel, by decide +kernel⟩ (by omega) ?_
  refine a_ct (as := [uR 10 0, uI (F (i + 1)), uI (F (i + 2))]) h.1 ⟨V0, trivial, trivial, trivial⟩ (show 3 ≤ dsMx 78 by decide +kernel) rfl (cq78 h.2.2.1.1) (fun M1 hL1 q1 => ?_)
  have h1 := JN_cq h hL1 q1
  obtain ⟨m0, m84, V0, V84⟩ := JN_0 h1
  have HF := h1.2.2.2.2
  refine a_aload_n (d334_5 (j := 7) rfl) rfl ?_
  refine st_arg (F := F) (n := 1) rfl rfl (d334_5 (j := 8) rfl) (d334_5 (j := 9) rfl) (d334_5 (j := 10) rfl) (d334_5 (j := 11) rfl) (d334_5 (j := 12) rfl) (by decide) hi hL HF ?_
  refine st_arg (F := F) (n := 2) rfl rfl (d334_5 (j := 13) rfl) (d334_5 (j := 14) rfl) (d334_5 (j := 15) rfl) (d334_5 (j := 16) rfl) (d334_5 (j := 17) rfl) (by decide) hi hL HF ?_
  refine lw_call (t := 246) (a := 84) (as := [vI (F (i + 1)), vI (F (i + 2))]) (r := [vI _]) (n1 := 0) (n2 := 0) (d334_5 (j := 18) rfl) rfl rfl (m84.trans (by decide +kernel)) ⟨by decide +kernel, Nat.le_of_ble_eq_true rfl, (show 3 ≤ dsMx 246 by decide +kernel)⟩ ⟨by decide +kernel, by decide +kernel⟩ (by dsimp only; omega) ?_
  refine a_ct (as := [uR 11 84, uI (F (i + 1)), uI (F (i + 2))]) h1.1 ⟨V84, trivial, trivial, trivial⟩ (show 3 ≤ dsMx 246 by decide +kernel) rfl (rq246 h1.2.2.2.1.1) (fun M2 hL2 q2 => ?_)
  have h2 := JN_rq h1 hL2 q2
  exact a_icmp_eq (d334_5 (j := 19) rfl) (fun _ => nx _ _ _ _ h2 (by dsimp only; omega)) (fun q => absurd rfl q)
set_option maxHeartbeats 2000000 in
theorem case10 : lwC 658 := by
  intro G M F s i L u Q h hi hL hr hu nx
  obtain ⟨m0, m84, V0, V84⟩ := JN_0 h
  have HF := h.2.2.2.2
  refine a_aload_n (d334_5 (j := 22) rfl) rfl ?_
  refine st_arg (F := F) (n := 1) rfl rfl (d334_5 (j := 23) rfl) (d334_5 (j := 24) rfl) (d334_5 (j := 25) rfl) (d334_5 (j := 26) rfl) (d334_5 (j := 27) rfl) (by decide) hi hL HF ?_
  refine st_arg (F := F) (n := 2) rfl rfl (d334_5 (j := 28) rfl) (d334_5 (j := 29) rfl) (d334_5 (j := 30) rfl) (d334_5 (j := 31) rfl) (d334_5 (j := 32) rfl) (by decide) hi hL HF ?_
  refine st_arg (F := F) (n := 3) rfl rfl (d334_5 (j := 33) rfl) (d334_5 (j := 34) rfl) (d334_5 (j := 35) rfl) (d334_5 (j := 36) rfl) (d334_5 (j := 37) rfl) (by decide) hi hL HF ?_
  refine st_arg (F := F) (n := 4) rfl rfl (d334_5 (j := 38) rfl) (d334_5 (j := 39) rfl) (d334_5 (j := 40) rfl) (d334_5 (j := 41) rfl) (d334_5 (j := 42) rfl) (by decide) hi hL HF ?_
  refine lw_call (t := 79) (a := 0) (as := [vI (F (i + 1)), vI (F (i + 2)), vI (F (i + 3)), vI (F (i + 4))]) (r := []) (n1 := 0) (n2 := 0) (d334_5 (j := 43) rfl) rfl rfl (m0.trans (by decide +kernel)) ⟨by decide +kernel, Nat.le_of_ble_eq_true rfl, (show 5 ≤ dsMx 79 by decide +kernel)⟩ ⟨by decide +kernel, by decide +kernel⟩ (by omega) ?_
  refine a_ct (as := [uR 10 0, uI (F (i + 1)), uI (F (i + 2)), uI (F (i + 3)), uI (F (i + 4))]) h.1 ⟨V0, trivial, trivial, trivial, trivial, trivial⟩ (show 5 ≤ dsMx 79 by decide +kernel) rfl (cq79 h.2.2.1.1) (fun M1 hL1 q1 => ?_)
  have h1 := JN_cq h hL1 q1
  obtain ⟨m0, m84, V0, V84⟩ := JN_0 h1
  have HF := h1.2.2.2.2
  refine a_aload_n (d334_5 (j := 44) rfl) rfl ?_
  refine st_arg (F := F) (n := 1) rfl rfl (d334_5 (j := 45) rfl) (d334_5 (j := 46) rfl) (d334_5 (j := 47) rfl) (d334_5 (j := 48) rfl) (d334_5 (j := 49) rfl) (by decide) hi hL HF ?_
  refine st_arg (F := F) (n := 2) rfl rfl (d334_6 (j := 0) rfl) (d334_6 (j := 1) rfl) (d334_6 (j := 2) rfl) (d334_6 (j := 3) rfl) (d334_6 (j := 4) rfl) (by decide) hi hL HF ?_
  refine st_arg (F := F) (n := 3) rfl rfl (d334_6 (j := 5) rfl) (d334_6 (j := 6) rfl) (d334_6 (j := 7) rfl) (d334_6 (j := 8) rfl) (d334_6 (j := 9) rfl) (by decide) hi hL HF ?_
  refine st_arg (F := F) (n := 4) rfl rfl (d334_6 (j := 10) rfl) (d334_6 (j := 11) rfl) (d334_6 (j := 12) rfl) (d334_6 (j := 13) rfl) (d334_6 (j := 14) rfl) (by decide) hi hL HF ?_
  refine lw_call (t := 247) (a := 84) (as := [vI (F (i + 1)), vI (F (i + 2)), vI (F (i + 3)), vI (F (i + 4))]) (r := [vI _]) (n1 := 0) (n2 := 0) (d334_6 (j := 15) rfl) rfl rfl (m84.trans (by decide +kernel)) ⟨by decide +kernel, Nat.le_of_ble_eq_true rfl, (show 5 ≤ dsMx 247 by decide +kernel)⟩ ⟨by decide +kernel, by decide +kernel⟩ (by dsimp only; omega) ?_
  refine a_ct (as := [uR 11 84, uI (F (i + 1)), uI (F (i + 2)), uI (F (i + 3)), uI (F (i + 4))]) h1.1 ⟨V84, trivial, trivial, trivial, trivial, trivial⟩ (show 5 ≤ dsMx 247 by decide +kernel) rfl (rq247 h1.2.2.2.1.1) (fun M2 hL2 q2 => ?_)
  have h2 := JN_rq h1 hL2 q2
  exact a_icmp_eq (d334_6 (j := 16) rfl) (fun _ => nx _ _ _ _ h2 (by dsimp only; omega)) (fun q => absurd rfl q)
set_option maxHeartbeats 2000000 in
theorem case11 : lwC 711 := by
  intro G M F s i L u Q h hi hL hr hu nx
  obtain ⟨m0, m84, V0, V84⟩ := JN_0 h
  have HF := h.2.2.2.2
  refine a_aload_n (d334_6 (j := 19) rfl) rfl ?_
  refine st_arg (F := F) (n := 1) rfl rfl (d334_6 (j := 20) rfl) (d334_6 (j := 21) rfl) (d334_6 (j := 22) rfl) (d334_6 (j := 23) rfl) (d334_6 (j := 24) rfl) (by decide) hi hL HF ?_
  refine st_arg (F := F) (n := 2) rfl rfl (d334_6 (j := 25) rfl) (d334_6 (j := 26) rfl) (d334_6 (j := 27) rfl) (d334_6 (j := 28) rfl) (d334_6 (j := 29) rfl) (by decide) hi hL HF ?_
  refine st_arg (F := F) (n := 3) rfl rfl (d334_6 (j := 30) rfl) (d334_6 (j := 31) rfl) (d334_6 (j := 32) rfl) (d334_6 (j := 33) rfl) (d334_6 (j := 34) rfl) (by decide) hi hL HF ?_
  refine lw_call (t := 80) (a := 0) (as := [vI (F (i + 1)), vI (F (i + 2)), vI (F (i + 3))]) (r := []) (n1 := 0) (n2 := 0) (d334_6 (j := 35) rfl) rfl rfl (m0.trans (by decide +kernel)) ⟨by decide +kernel, Nat.le_of_ble_eq_true rfl, (show 4 ≤ dsMx 80 by decide +kernel)⟩ ⟨by decide +kernel, by decide +kernel⟩ (by omega) ?_
  refine a_ct (as := [uR 10 0, uI (F (i + 1)), uI (F (i + 2)), uI (F (i + 3))]) h.1 ⟨V0, trivial, trivial, trivial, trivial⟩ (show 4 ≤ dsMx 80 by decide +kernel) rfl (cq80 h.2.2.1.1) (fun M1 hL1 q1 => ?_)
  have h1 := JN_cq h hL1 q1
  obtain ⟨m0, m84, V0, V84⟩ := JN_0 h1
  have HF := h1.2.2.2.2
  refine a_aload_n (d334_6 (j := 36) rfl) rfl ?_
  refine st_arg (F := F) (n := 1) rfl rfl (d334_6 (j := 37) rfl) (d334_6 (j := 38) rfl) (d334_6 (j := 39) rfl) (d334_6 (j := 40) rfl) (d334_6 (j := 41) rfl) (by decide) hi hL HF ?_
  refine st_arg (F := F) (n := 2) rfl rfl (d334_6 (j := 42) rfl) (d334_6 (j := 43) rfl) (d334_6 (j := 44) rfl) (d334_6 (j := 45) rfl) (d334_6 (j := 46) rfl) (by decide) hi hL HF ?_
  refine st_arg (F := F) (n := 3) rfl rfl (d334_6 (j := 47) rfl) (d334_6 (j := 48) rfl) (d334_6 (j := 49) rfl) (d334_7 (j := 0) rfl) (d334_7 (j := 1) rfl) (by decide) hi hL HF ?_
  refine lw_call (t := 249) (a := 84) (as := [vI (F (i + 1)), vI (F (i + 2)), vI (F (i + 3))]) (r := [vI _]) (n1 := 0) (n2 := 0) (d334_7 (j := 2) rfl) rfl rfl (m84.trans (by decide +kernel)) ⟨by decide +kernel, Nat.le_of_ble_eq_true rfl, (show 4 ≤ dsMx 249 by decide +kernel)⟩ ⟨by decide +kernel, by decide +kernel⟩ (by dsimp only; omega) ?_
  refine a_ct (as := [uR 11 84, uI (F (i + 1)), uI (F (i + 2)), uI (F (i + 3))]) h1.1 ⟨V84, trivial, trivial, trivial, trivial⟩ (show 4 ≤ dsMx 249 by decide +kernel) rfl (rq249 h1.2.2.2.1.1) (fun M2 hL2 q2 => ?_)
  have h2 := JN_rq h1 hL2 q2
  exact a_icmp_eq (d334_7 (j := 3) rfl) (fun _ => nx _ _ _ _ h2 (by dsimp only; omega)) (fun q => absurd rfl q)
set_option maxHeartbeats 2000000 in
theorem case12 : lwC 754 := by
  intro G M F s i L u Q h hi hL hr hu nx
  obtain ⟨m0, m84, V0, V84⟩ := JN_0 h
  have HF := h.2.2.2.2
  refine a_aload_n (d334_7 (j := 6) rfl) rfl ?_
  refine st_arg (F := F) (n := 1) rfl rfl (d334_7 (j := 7) rfl) (d334_7 (j := 8) rfl) (d334_7 (j := 9) rfl) (d334_7 (j := 10) rfl) (d334_7 (j := 11) rfl) (by decide) hi hL HF ?_
  refine st_arg (F := F) (n := 2) rfl rfl (d334_7 (j := 12) rfl) (d334_7 (j := 13) rfl) (d334_7 (j := 14) rfl) (d334_7 (j := 15) rfl) (d334_7 (j := 16) rfl) (by decide) hi hL HF ?_
  refine lw_call (t := 81) (a := 0) (as := [vI (F (i + 1)), vI (F (i + 2))]) (r := []) (n1 := 0) (n2 := 0) (d334_7 (j := 17) rfl) rfl rfl (m0.trans (by decide +kernel)) ⟨by decide +kernel, Nat.le_of_ble_eq_true rfl, (show 3 ≤ dsMx 81 by decide +kernel)⟩ ⟨by decide +kernel, by decide +kernel⟩ (by omega) ?_
  refine a_ct (as := [uR 10 0, uI (F (i + 1)), uI (F (i + 2))]) h.1 ⟨V0, trivial, trivial, trivial⟩ (show 3 ≤ dsMx 81 by decide +kernel) rfl (cq81 h.2.2.1.1) (fun M1 hL1 q1 => ?_)
  have h1 := JN_cq h hL1 q1
  obtain ⟨m0, m84, V0, V84⟩ := JN_0 h1
  have HF := h1.2.2.2.2
  refine a_aload_n (d334_7 (j := 18) rfl) rfl ?_
  refine st_arg (F := F) (n := 1) rfl rfl (d334_7 (j := 19) rfl) (d334_7 (j := 20) rfl) (d334_7 (j := 21) rfl) (d334_7 (j := 22) rfl) (d334_7 (j := 23) rfl) (by decide) hi hL HF ?_
  refine st_arg (F := F) (n := 2) rfl rfl (d334_7 (j := 24) rfl) (d334_7 (j := 25) rfl) (d334_7 (j := 26) rfl) (d334_7 (j := 27) rfl) (d334_7 (j := 28) rfl) (by decide) hi hL HF ?_
  refine lw_call (t := 250) (a := 84) (as := [vI (F (i + 1)), vI (F (i + 2))]) (r := [vI _]) (n1 := 0) (n2 := 0) (d334_7 (j := 29) rfl) rfl rfl (m84.trans (by decide +kernel)) ⟨by decide +kernel, Nat.le_of_ble_eq_true rfl, (show 3 ≤ dsMx 250 by decide +kernel)⟩ ⟨by decide +kernel, by decide +kernel⟩ (by dsimp only; omega) ?_
  refine a_ct (as := [uR 11 84, uI (F (i + 1)), uI (F (i + 2))]) h1.1 ⟨V84, trivial, trivial, trivial⟩ (show 3 ≤ dsMx 250 by decide +kernel) rfl (rq250 h1.2.2.2.1.1) (fun M2 hL2 q2 => ?_)
  have h2 := JN_rq h1 hL2 q2
  exact a_icmp_eq (d334_7 (j := 30) rfl) (fun _ => nx _ _ _ _ h2 (by dsimp only; omega)) (fun q => absurd rfl q)
set_option maxHeartbeats 2000000 in
theorem case13 : lwC 787 := by
  intro G M F s i L u Q h hi hL hr hu nx
  obtain ⟨m0, m84, V0, V84⟩ := JN_0 h
  have HF := h.2.2.2.2
  refine a_aload_n (d334_7 (j := 33) rfl) rfl ?_
  refine st_arg (F := F) (n := 1) rfl rfl (d334_7 (j := 34) rfl) (d334_7 (j := 35) rfl) (d334_7 (j := 36) rfl) (d334_7 (j := 37) rfl) (d334_7 (j := 38) rfl) (by decide) hi hL HF ?_
  refine st_arg (F := F) (n := 2) rfl rfl (d334_7 (j := 39) rfl) (d334_7 (j := 40) rfl) (d334_7 (j := 41) rfl) (d334_7 (j := 42) rfl) (d334_7 (j := 43) rfl) (by decide) hi hL HF ?_
  refine lw_call (t := 82) (a := 0) (as := [vI (F (i + 1)), vI (F (i + 2))]) (r := []) (n1 := 0) (n2 := 0) (d334_7 (j := 44) rfl) rfl rfl (m0.trans (by decide +kernel)) ⟨by decide +kernel, Nat.le_of_ble_eq_true rfl, (show 3 ≤ dsMx 82 by decide +kernel)⟩ ⟨by decide +kernel, by decide +kernel⟩ (by omega) ?_
  refine a_ct (as := [uR 10 0, uI (F (i + 1)), uI (F (i + 2))]) h.1 ⟨V0, trivial, trivial, trivial⟩ (show 3 ≤ dsMx 82 by decide +kernel) rfl (cq82 h.2.2.1.1) (fun M1 hL1 q1 => ?_)
  have h1 := JN_cq h hL1 q1
  obtain ⟨m0, m84, V0, V84⟩ := JN_0 h1
  have HF := h1.2.2.2.2
  refine a_aload_n (d334_7 (j := 45) rfl) rfl ?_
  refine st_arg (F := F) (n := 1) rfl rfl (d334_7 (j := 46) rfl) (d334_7 (j := 47) rfl) (d334_7 (j := 48) rfl) (d334_7 (j := 49) rfl) (d334_8 (j := 0) rfl) (by decide) hi hL HF ?_
  refine st_arg (F := F) (n := 2) rfl rfl (d334_8 (j := 1) rfl) (d334_8 (j := 2) rfl) (d334_8 (j := 3) rfl) (d334_8 (j := 4) rfl) (d334_8 (j := 5) rfl) (by decide) hi hL HF ?_
  refine lw_call (t := 251) (a := 84) (as := [vI (F (i + 1)), vI (F (i + 2))]) (r := [vI _]) (n1 := 0) (n2 := 0) (d334_8 (j := 6) rfl) rfl rfl (m84.trans (by decide +kernel)) ⟨by decide +kernel, Nat.le_of_ble_eq_true rfl, (show 3 ≤ dsMx 251 by decide +kernel)⟩ ⟨by decide +kernel, by decide +kernel⟩ (by dsimp only; omega) ?_
  refine a_ct (as := [uR 11 84, uI (F (i + 1)), uI (F (i + 2))]) h1.1 ⟨V84, trivial, trivial, trivial⟩ (show 3 ≤ dsMx 251 by decide +kernel) rfl (rq251 h1.2.2.2.1.1) (fun M2 hL2 q2 => ?_)
  have h2 := JN_rq h1 hL2 q2
  exact a_icmp_eq (d334_8 (j := 7) rfl) (fun _ => nx _ _ _ _ h2 (by dsimp only; omega)) (fun q => absurd rfl q)
set_option maxHeartbeats 2000000 in
theorem case14 : lwC 820 := by
  intro G M F s i L u Q h hi hL hr hu nx
  obtain ⟨m0, m84, V0, V84⟩ := JN_0 h
  have HF := h.2.2.2.2
  refine a_aload_n (d334_8 (j := 10) rfl) rfl ?_
  refine st_arg (F := F) (n := 1) rfl rfl (d334_8 (j := 11) rfl) (d334_8 (j := 12) rfl) (d334_8 (j := 13) rfl) (d334_8 (j := 14) rfl) (d334_8 (j := 15) rfl) (by decide) hi hL HF ?_
  refine st_arg (F := F) (n := 2) rfl rfl (d334_8 (j := 16) rfl) (d334_8 (j := 17) rfl) (d334_8 (j := 18) rfl) (d334_8 (j := 19) rfl) (d334_8 (j := 20) rfl) (by decide) hi hL HF ?_
  refine lw_call (t := 83) (a := 0) (as := [vI (F (i + 1)), vI (F (i + 2))]) (r := []) (n1 := 0) (n2 := 0) (d334_8 (j := 21) rfl) rfl rfl (m0.trans (by decide +kernel)) ⟨by decide +kernel, Nat.le_of_ble_eq_true rfl, (show 3 ≤ dsMx 83 by decide +kernel)⟩ ⟨by decide +kernel, by decide +kernel⟩ (by omega) ?_
  refine a_ct (as := [uR 10 0, uI (F (i + 1)), uI (F (i + 2))]) h.1 ⟨V0, trivial, trivial, trivial⟩ (show 3 ≤ dsMx 83 by decide +kernel) rfl (cq83 h.2.2.1.1) (fun M1 hL1 q1 => ?_)
  have h1 := JN_cq h hL1 q1
  obtain ⟨m0, m84, V0, V84⟩ := JN_0 h1
  have HF := h1.2.2.2.2
  refine a_aload_n (d334_8 (j := 22) rfl) rfl ?_
  refine st_arg (F := F) (n := 1) rfl rfl (d334_8 (j := 23) rfl) (d334_8 (j := 24) rfl) (d334_8 (j := 25) rfl) (d334_8 (j := 26) rfl) (d334_8 (j := 27) rfl) (by decide) hi hL HF ?_
  refine st_arg (F := F) (n := 2) rfl rfl (d334_8 (j := 28) rfl) (d334_8 (j := 29) rfl) (d334_8 (j := 30) rfl) (d334_8 (j := 31) rfl) (d334_8 (j := 32) rfl) (by decide) hi hL HF ?_
  refine lw_call (t := 252) (a := 84) (as := [vI (F (i + 1)), vI (F (i + 2))]) (r := [vI _]) (n1 := 0) (n2 := 0) (d334_8 (j := 33) rfl) rfl rfl (m84.trans (by decide +kernel)) ⟨by decide +kernel, Nat.le_of_ble_eq_true rfl, (show 3 ≤ dsMx 252 by decide +kernel)⟩ ⟨by decide +kernel, by decide +kernel⟩ (by dsimp only; omega) ?_
  refine a_ct (as := [uR 11 84, uI (F (i + 1)), uI (F (i + 2))]) h1.1 ⟨V84, trivial, trivial, trivial⟩ (show 3 ≤ dsMx 252 by decide +kernel) rfl (rq252 h1.2.2.2.1.1) (fun M2 hL2 q2 => ?_)
  have h2 := JN_rq h1 hL2 q2
  exact a_icmp_eq (d334_8 (j := 34) rfl) (fun _ => nx _ _ _ _ h2 (by dsimp only; omega)) (fun q => absurd rfl q)
