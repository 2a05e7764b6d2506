/-! save, saves, latest -/
theorem bAt_ct {M : dsMem} {W : dsW} {y set : Int} (h : CN M W) (hy : 0 ≤ y ∧ y ≤ wY W) : bCt 10 [uR 5 62, uI y, uR 5 47, uI set, uX 0] M (fun _ => []) (fun M' => CK M' 62 (P0 W) y (svS W y set) ∧ Fr (fun a _ => 64 ≤ a ∧ a ≤ 69) M M') := by
  intro Q hQ
  have b := CI_b h.1
  have hfr := FR_y (cfr h) hy
  refine r10_0 (k1 := ?_)
  refine b_forM (wN W) (fun s => [uR 5 62, uI y, uR 5 47, uI set, uI s]) (fun s M' => 0 ≤ s ∧ s ≤ wN W ∧ (∀ t, 0 ≤ t → t < s → dyCell M' 62 (y * 6 + t) (sL (svS W y set) t)) ∧ Fr (fun a _ => 64 ≤ a ∧ a ≤ 67) M M') ?_ ?_ 0 M ⟨by omega, by omega, fun t _ _ => by omega, Fr_refl⟩
  · rintro s M' ⟨s0, sn, hc, hf⟩ hs ih
    have e5 : M' 24 5 = wN W := (hf 24 5 (by omega)).trans b.1.2.2.2.2.2.1
    have hB := cB h hy ⟨s0, hs⟩
    have hl : dyCell M' 47 (y * 6 + s) (sL (stP (P0 W) y) s) := cell_ne (hfr.1.1 s s0 hs) (fun a j q => hf a j (by omega))
    have hsv := svS_L (W := W) (y := y) (set := set) (s := s) ⟨s0, hs⟩
    have keep : ∀ M1 : dsMem, Fr (FC 62 (y * 6 + s)) M' M1 → ∀ t, 0 ≤ t → t < s → dyCell M1 62 (y * 6 + t) (sL (svS W y set) t) := by
      intro M1 hf1 t t0 t1
      have hBt := cB h hy (s := t) ⟨t0, by omega⟩
      have hsvt := svS_L (W := W) (y := y) (set := set) (s := t) ⟨t0, by omega⟩
      refine cell_fr (hc t t0 t1) ?_ (fun a j q => hf1 a j (by unfold FC; omega))
      rw [hsvt.1]
      split
      · simp
      · exact hBt.2.2.2.1
    refine r10_3 (k1 := fun q => by omega) (hA1 := fun q => copy_ct (Or.inr ⟨rfl, rfl⟩) (by omega) (by omega) hB.2.2.2.1 hl) (k2 := fun q M1 r q2 => ?_) (k3 := fun q M1 r q2 => ?_)
    · refine ih M1 ⟨by omega, by omega, fun t t0 t1 => ?_, Fr_trans hf (Fr_mono (fun a j q => by unfold FC at q; omega) r.2)⟩
      by_cases ht : t = s
      · subst ht
        rw [hsv.1, if_neg q2]; exact r.1
      · exact keep M1 r.2 t t0 (by omega)
    · refine ih _ ⟨by omega, by omega, fun t t0 t1 => ?_, Fr_set (Fr_set (Fr_trans hf (Fr_mono (fun a j q => by unfold FC at q; omega) r.2)) (by omega)) (by omega)⟩
      by_cases ht : t = s
      · subst ht
        rw [hsv.1, if_pos q2]
        refine ⟨?_, ?_, trivial⟩
        · show dsSet (dsSet M1 66 (y * 6 + t) 0) 67 (y * 6 + t) 0 66 (y * 6 + t) = 0
          simp (disch := omega) only [ds_gn, ds_ge]
        · show dsSet (dsSet M1 66 (y * 6 + t) 0) 67 (y * 6 + t) 0 67 (y * 6 + t) = 0
          simp (disch := omega) only [ds_gn, ds_ge]
      · have hBt := cB h hy (s := t) ⟨t0, by omega⟩
        have hsvt := svS_L (W := W) (y := y) (set := set) (s := t) ⟨t0, by omega⟩
        refine cell_fr (keep M1 r.2 t t0 (by omega)) ?_ (fun a j q => by rw [ds_gn (by omega), ds_gn (by omega)])
        rw [hsvt.1]
        split
        · simp
        · exact hBt.2.2.2.1
  · rintro s M' ⟨s0, sn, hc, hf⟩ hs
    have e5 : M' 24 5 = wN W := (hf 24 5 (by omega)).trans b.1.2.2.2.2.2.1
    refine r10_3 (R1 := fun _ => False) (k1 := fun q => ?_) (hA1 := fun q => by omega) (k2 := fun q => by omega) (k3 := fun q => by omega)
    have hsv := fun t (ht : 0 ≤ t ∧ t < wN W) => svS_L (W := W) (y := y) (set := set) (s := t) ht
    have hKU : sK (svS W y set) = sK (stP (P0 W) y) ∧ sU (svS W y set) = sU (stP (P0 W) y) := by
      refine ⟨?_, save_U _⟩
      unfold svS dsSave
      refine dsIter_pres (g := fun S : dsS => sK S) (fun j b => ?_) _ _
      show sK (if pSv (PS W y set) y j = true then dsEmpty b j 0 else b) = sK b
      split <;> rfl
    refine b_forM 3 (fun w => [uR 5 62, uI y, uR 5 47, uX 0, uI w]) (fun w M2 => 0 ≤ w ∧ w ≤ 3 ∧ (∀ t, 0 ≤ t → t < w → M2 68 (y * 3 + t) = sK (stP (P0 W) y) t) ∧ Fr (fun a _ => a = 68) M' M2) ?_ ?_ 0 M' ⟨by omega, by omega, fun t _ _ => by omega, Fr_refl⟩
    · rintro w M2 ⟨w0, w3, hk, hf2⟩ hw ih
      have e53 : M2 53 (y * 3 + w) = sK (stP (P0 W) y) w := by
        rw [hf2 53 _ (by omega), hf 53 _ (by omega)]; exact hfr.1.2.1 w w0 hw
      refine r10_74 (k1 := fun q => by omega) (k2 := fun q => ih _ ⟨by omega, by omega, fun t t0 t1 => ?_, Fr_set hf2 rfl⟩)
      by_cases ht : t = w
      · subst ht; rw [ds_ge (by omega)]; exact e53
      · rw [ds_gn (by omega)]; exact hk t t0 (by omega)
    · rintro w M2 ⟨w0, w3, hk, hf2⟩ hw
      have e54 : M2 54 y = sU (stP (P0 W) y) := by
        rw [hf2 54 _ (by omega), hf 54 _ (by omega)]; exact hfr.1.2.2
      refine r10_74 (k1 := fun q => hQ _ ⟨⟨fun t t0 t1 => ?_, fun t t0 t1 => ?_, ?_⟩, ?_⟩) (k2 := fun q => by omega)
      · refine cell_ne (hc t t0 (by show t < s; have : t < wN W := t1; omega)) (fun a j q => ?_)
        rw [ds_gn (by omega)]
        exact hf2 a j (by omega)
      · show dsSet M2 69 y (M2 54 y) 68 (y * 3 + t) = _
        rw [ds_gn (by omega), hk t t0 (by omega), hKU.1]
      · show dsSet M2 69 y (M2 54 y) 69 y = _
        rw [ds_ge (by omega), e54, hKU.2]
      · exact Fr_set (Fr_trans (Fr_mono (fun a j q => by omega) hf) (Fr_mono (fun a j q => by omega) hf2)) (by omega)
/-- a state with other sums -/
def setA (S : dsS) (A F D : Int → Int) : dsS := mS (sL S) (sK S) (sU S) (sX S) (sH S) (sB S) A F D
theorem WS_sv (P : dsP) (g : Int → Int → Bool) (S : dsS) : WS (setSv P g) S ↔ WS P S := Iff.rfl
theorem save_Kk {P : dsP} {y : Int} (S : dsS) : sK (dsSave P y S) = sK S := by
  unfold dsSave
  refine dsIter_pres (g := fun S : dsS => sK S) (fun j b => ?_) _ _
  show sK (if pSv P y j = true then dsEmpty b j 0 else b) = sK b
  split <;> rfl
theorem gs_ok {P : dsP} {g : Int → Int → Bool} {y : Int} {S : dsS} (hPs : POK (setSv P g)) (hS : WS P S) : WS P (dsSave (setSv P g) y S) :=
  (WS_sv P g _).1 (save_WS hPs y ((WS_sv P g S).2 hS))
theorem svS_ok {W : dsW} {y set : Int} (hW : WOK W) : WS (P0 W) (svS W y set) ∧ UB (P0 W) (svS W y set) ∧ (0 ≤ y → KB (svS W y set) (73 * y)) := by
  unfold svS
  refine ⟨?_, ?_, fun hy => ?_⟩
  · rw [PS_sv]
    exact gs_ok (by rw [← PS_sv]; exact PS_ok hW) (stP_WS (P0_ok hW) (P0_T hW) y)
  · have := stP_U (P0_ok hW) y
    unfold UB at this ⊢
    rw [save_U]; exact this
  · intro t t0 t1
    have hK := stN_KB (P0_ok hW) (P0_T hW) y.toNat t t0 t1
    rw [save_Kk]
    unfold stP
    omega
theorem init_c {W : dsW} {set : Int} : eqc (svS W 0 set) (dyInit (P0 W)) := by
  unfold svS dsSave
  have e : stP (P0 W) 0 = dyInit (P0 W) := rfl
  rw [e]
  refine dsIter_all (fun T => eqc T (dyInit (P0 W))) 0 (dyInit (P0 W)) (eqc_refl _) (fun j T _ _ hT => ?_)
  show eqc (if pSv (PS W 0 set) 0 j = true then dsEmpty T j 0 else T) (dyInit (P0 W))
  split
  · refine ⟨?_, hT.2.1, hT.2.2⟩
    show dsUpd (sL T) j [] = _
    rw [hT.1]
    funext t
    show (if t = j then [] else sL (dyInit (P0 W)) t) = sL (dyInit (P0 W)) t
    split <;> rfl
  · exact hT
def CQ3 : Int → Int → Prop := fun a _ => 62 ≤ a ∧ a ≤ 80 ∧ ¬ a = 63
theorem runF_ct {M : dsMem} {W : dsW} {y set : Int} (h : CI M W) (hd : Dfl M 63) (hy : 0 ≤ y ∧ y < wY W) (hK : CK M 62 (P0 W) y (svS W y set)) : bCt 7 [uR 5 62, uI y, uI 1, uX 0, uX 0] M (fun _ => [uI (if gSv W y set then 1 else 0)]) (fun M' => Fr CQ3 M M') := by
  intro Q hQ
  refine bB_gr (fun G hL hg hv => ?_)
  have g62 : G 62 = 5 := (hv 0).2
  have hrg := lay_rg hL hg g62
  have b := CI_b h
  have hP := P0_ok h.1
  have hs := svS_ok (W := W) (y := y) (set := set) h.1
  have hCP := CP0 (x0 := 62) h.1 h.2.1 hd
  have hw := @shl_w (wW W) (by omega)
  have hgi := gSv_iff (W := W) (y := y) (set := set) hy
  have fin : ∀ (S0 : dsS), eqc S0 (svS W y set) → ∀ M' x3, Fr CQ3 M M' → (x3 = 0 ∨ x3 = 1) → (x3 = 1 ↔ sU (dsStN (P0 W) S0 y (pY (P0 W) - y).toNat) = dsShl 1 (pW (P0 W)) - 1) → Q [uI x3] M' := by
    intro S0 hc M' x3 hF hx hi
    have e : sU (dsStN (P0 W) S0 y (pY (P0 W) - y).toNat) = sU (dsStN (P0 W) (svS W y set) y (wY W - y).toNat) := (stN_c hc (wY W - y).toNat).2.2
    rw [e] at hi
    refine q_eq ?_ (hQ M' hF)
    have hi2 : x3 = 1 ↔ gSv W y set := hi.trans hgi.symm
    by_cases hq : gSv W y set
    · rw [if_pos hq]; exact hi2.2 hq
    · rw [if_neg hq]
      have : ¬ x3 = 1 := fun q => hq (hi2.1 q)
      omega
  have go : ∀ (S0 : dsS) (M2 : dsMem), eqc S0 (svS W y set) → Fr CQ3 M M2 → CK M2 62 (P0 W) y S0 → CAc M2 62 (P0 W) S0 → CW M2 62 (P0 W) → CE M2 62 (P0 W) → ∀ x3, (x3 = 0 ∨ x3 = 1) → (x3 = 1 ↔ M2 69 y = dsShl 1 (wW W) - 1) → bB 7 37 [uR 5 62, uX 0, uI 1, uI x3, uI y] [] M2 Q := by
    intro S0 M2 hc hF hCK hCA hCW hCE x3 hx hi
    have hWS : WS (P0 W) S0 := fun s s0 s1 => by rw [hc.1]; exact hs.1 s s0 s1
    have hUB : UB (P0 W) S0 := by unfold UB; rw [hc.2.2]; exact hs.2.1
    have hKB : KB S0 (73 * y) := fun t t0 t1 => by rw [hc.2.1]; exact hs.2.2 hy.1 t t0 t1
    refine run_br (M0 := M2) (f := y) (S0 := S0) hP hy.1 (fun _ _ => rfl) hUB (fun M' x3 hf hx hi => fin S0 hc M' x3 (Fr_trans hF (Fr_mono (fun a j q => by unfold CQ3; omega) hf)) hx hi) y M2 x3 ?_ hx hi
    refine ⟨⟨Int.le_refl _, by show y ≤ wY W; omega⟩, fun k hk => ?_, fun k hk => by omega, ?_, ?_, hCW, hCE, Fr_refl⟩
    · have e0 : k = 0 := by omega
      subst e0
      rw [show y + ((0 : Nat) : Int) = y by omega]
      exact ⟨hCK, hWS⟩
    · rw [show (y - y).toNat = 0 by omega]; exact hCA
    · rw [show (y - y).toNat = 0 by omega]; exact hKB
  have fx : ∀ M1, CW M1 62 (P0 W) ∧ Fr (fun a j => (a = 62 ∧ j = 14) ∨ a = 62 + 14) M M1 → Fr CQ3 M M1 := fun M1 r => Fr_mono (fun a j q => by unfold CQ3; omega) r.2
  have ce : ∀ M1, CW M1 62 (P0 W) ∧ Fr (fun a j => (a = 62 ∧ j = 14) ∨ a = 62 + 14) M M1 → CE M1 62 (P0 W) := fun M1 r => CE_fr hCP.2 (fun a j q => r.2 a j (by omega))
  have ck : ∀ M1, CW M1 62 (P0 W) ∧ Fr (fun a j => (a = 62 ∧ j = 14) ∨ a = 62 + 14) M M1 → CK M1 62 (P0 W) y (svS W y set) := fun M1 r => by
    refine ⟨fun s s0 s1 => cell_ne (hK.1 s s0 s1) (fun a j q => r.2 a j (by omega)), fun w w0 w1 => ?_, ?_⟩
    · rw [r.2 _ _ (by omega)]; exact hK.2.1 w w0 w1
    · rw [r.2 _ _ (by omega)]; exact hK.2.2
  have e4 : ∀ M1, CW M1 62 (P0 W) ∧ Fr (fun a j => (a = 62 ∧ j = 14) ∨ a = 62 + 14) M M1 → M1 24 4 = wW W := fun M1 r => r.1.1.2.1
  have S1 : ∀ M1, CW M1 62 (P0 W) ∧ Fr (fun a j => (a = 62 ∧ j = 14) ∨ a = 62 + 14) M M1 → CAc M1 62 (P0 W) (setA (svS W y set) (fun k => M1 72 k) (fun s => M1 73 s) (fun s => M1 74 s)) := fun M1 r => by
    refine ⟨fun k k0 k1 => ?_, fun s s0 s1 => ⟨rfl, ?_⟩⟩
    · show M1 72 k = dsw (M1 72 k)
      rw [r.2 72 k (by omega)]; exact (hrg k (by omega) (by omega)).1.symm
    · show M1 74 s = dsw (M1 74 s)
      have : s < wN W := s1
      rw [r.2 74 s (by omega)]; exact (hrg s (by omega) (by omega)).2.symm
  refine r7_0 (hA1 := settle_ct hP (Or.inr rfl) hCP.1) (s1 := fun M1 r q => by omega) (s2 := fun M1 r q => by rw [e4 M1 r]; omega) (k1 := fun M1 r q q2 => ?k1) (k2 := fun M1 r q q2 => ?k2) (hA2 := fun M1 r q => begin_ct hP (Or.inr rfl) r.1) (s3 := fun M1 r q M2 r2 => by omega) (s4 := fun M1 r q M2 r2 => ?s4) (k3 := fun M1 r q M2 r2 q2 => ?k3) (k4 := fun M1 r q M2 r2 q2 => ?k4)
  case k1 =>
    rw [e4 M1 r] at q2
    exact go (setA (svS W y set) (fun k => M1 72 k) (fun s => M1 73 s) (fun s => M1 74 s)) M1 (eqc_refl _) (fx M1 r) (ck M1 r) (S1 M1 r) r.1 (ce M1 r) 0 (Or.inl rfl) ⟨fun q => by omega, fun q => absurd q q2⟩
  case k2 =>
    rw [e4 M1 r] at q2
    exact go (setA (svS W y set) (fun k => M1 72 k) (fun s => M1 73 s) (fun s => M1 74 s)) M1 (eqc_refl _) (fx M1 r) (ck M1 r) (S1 M1 r) r.1 (ce M1 r) 1 (Or.inr rfl) ⟨fun _ => q2, fun _ => rfl⟩
  case s4 =>
    rw [r2.2.2 24 4 (by omega), e4 M1 r]; omega
  all_goals
    have ey : y = 0 := q
    subst ey
    have e24 : M2 24 4 = wW W := by rw [r2.2.2 24 4 (by omega), e4 M1 r]
    rw [e24] at q2
    have hcw : CW M2 62 (P0 W) := CW_out (Or.inr rfl) r.1 (fun a j q => r2.2.2 a j (by omega))
    have hce : CE M2 62 (P0 W) := CE_fr (ce M1 r) (fun a j q => r2.2.2 a j (by omega))
    have hc0 : eqc (dyInit (P0 W)) (svS W 0 set) := ⟨init_c.1.symm, init_c.2.1.symm, init_c.2.2.symm⟩
    have hff : Fr CQ3 M M2 := Fr_trans (fx M1 r) (Fr_mono (fun a j q => by unfold CQ3; omega) r2.2.2)
  case k3 => exact go (dyInit (P0 W)) M2 hc0 hff r2.1 r2.2.1 hcw hce 0 (Or.inl rfl) ⟨fun q => by omega, fun q => absurd q q2⟩
  case k4 => exact go (dyInit (P0 W)) M2 hc0 hff r2.1 r2.2.1 hcw hce 1 (Or.inr rfl) ⟨fun _ => q2, fun _ => rfl⟩
theorem runG_ct {M : dsMem} {W : dsW} {y set : Int} (h : CI M W) (hd : Dfl M 63) (hy : 0 ≤ y ∧ y < wY W) (hK : CK M 62 (P0 W) y (svS W y set)) : bCt 7 [uR 5 62, uI y, uI 1, uX 0, uX 0] M (fun _ => [uI (if gSv W y set then 1 else 0)]) (fun M' => Fr CQ2 M M' ∧ Dfl M' 63) := by
  intro Q hQ
  exact runF_ct h hd hy hK Q (fun M' r => hQ M' ⟨Fr_mono (fun a j q => by unfold CQ3 at q; unfold CQ2; omega) r, Dfl_e hd (fun j => r 63 j (by unfold CQ3; omega))⟩)
-- the least of the smallest sets
def svF (W : dsW) (y set best : Int) : Int := if (best = -1 ∨ bitc set < bitc best) ∧ gSv W y set then set else best
def svI (W : dsW) (y : Int) : Int := dsIter (svF W y) 0 (dsShl 1 (wN W)) (-1)
theorem bitc_s0 : ∀ u : Fin 64, 0 ≤ bitc ((u.val : Nat) : Int) ∧ bitc ((u.val : Nat) : Int) ≤ 6 := by decide +kernel
theorem bitc_s {u : Int} (h : 0 ≤ u ∧ u < 64) : 0 ≤ bitc u ∧ bitc u ≤ 6 := by
  obtain ⟨u, rfl⟩ : ∃ m : Nat, u = m := ⟨u.toNat, by omega⟩
  exact bitc_s0 ⟨u, by omega⟩
theorem svF_b {W : dsW} {y n : Int} {best : Int} {i : Int} (h : 0 ≤ i ∧ i ≤ n) (hb : best = -1 ∨ (0 ≤ best ∧ best < n)) (hi : i < n) : svF W y i best = -1 ∨ (0 ≤ svF W y i best ∧ svF W y i best < n) := by
  unfold svF
  split
  · right; omega
  · exact hb
theorem fewest_ct {M : dsMem} {W : dsW} {y : Int} (h : CN M W) (hy : 0 ≤ y ∧ y < wY W) : bCt 161 [uR 10 0, uR 5 47, uI y, uX 0, uX 0, uX 0] M (fun _ => [uI (svI W y)]) (fun M' => CN M' W ∧ Fr CQ M M') := by
  intro Q hQ
  have b := CI_b h.1
  have e4 := cW4 h.1
  have hs := @dsShl_b (wN W) (by omega)
  have hw := @shl_w (wW W) (by omega)
  refine r161n_0 (s2 := by rw [e4]; omega) (hA1 := fun q => oth_ct) (k1 := fun q M1 r1 => ?_) (k2 := fun q => ?_)
  · refine b_loop (fun (a : Int × Int × Int) => [uR 10 0, uR 5 47, uI y, uI a.1, uI a.2.1, uI a.2.2]) (fun a M' => (0 ≤ a.2.2 ∧ a.2.2 ≤ dsShl 1 (wN W) ∧ ((a.1 = -1 ∧ a.2.1 = 7) ∨ (0 ≤ a.1 ∧ a.1 < dsShl 1 (wN W) ∧ a.2.1 = bitc a.1))) ∧ CN M' W ∧ Dfl M' 63 ∧ Fr CQ M M' ∧ dsIter (svF W y) a.2.2 (dsShl 1 (wN W)) a.1 = svI W y) (fun a => (dsShl 1 (wN W) - a.2.2).toNat) ?_ (-1, 7, 0) M1 ⟨⟨by show (0 : Int) ≤ 0; omega, by show (0 : Int) ≤ dsShl 1 (wN W); omega, Or.inl ⟨rfl, rfl⟩⟩, CN_w h (fun a j _ _ q => r1.2 a j (by omega)), r1.1, Fr_mono (fun a j q => by unfold CQ; omega) r1.2, rfl⟩
    rintro ⟨x3, x4, x5⟩ M' ⟨⟨h0, hn, hx⟩, hI, hd, hF, e⟩ ih
    simp only at h0 hn hx e
    show bB 161 32 [uR 10 0, uR 5 47, uI y, uI x3, uI x4, uI x5] [] M' Q
    have e5 := cN5 hI.1
    have hb5 : x5 < dsShl 1 (wN W) → 0 ≤ bitc x5 ∧ bitc x5 ≤ 6 := fun q => bitc_s (by omega)
    have hrun : ∀ M2, CK M2 62 (P0 W) y (svS W y x5) ∧ Fr (fun a _ => 64 ≤ a ∧ a ≤ 69) M' M2 → CI M2 W ∧ Dfl M2 63 ∧ Fr CQ2 M' M2 := fun M2 r => by
      have hf2 : Fr CQ2 M' M2 := Fr_mono (fun a j q => by unfold CQ2; omega) r.2
      exact ⟨CI_q hI.1 hf2, Dfl_e hd (fun j => r.2 _ _ (by omega)), hf2⟩
    have hgo : ∀ M2 M3, CK M2 62 (P0 W) y (svS W y x5) ∧ Fr (fun a _ => 64 ≤ a ∧ a ≤ 69) M' M2 → (Fr CQ2 M2 M3 ∧ Dfl M3 63) → CN M3 W ∧ Fr CQ M M3 := fun M2 M3 r r3 => by
      have hf3 : Fr CQ2 M' M3 := Fr_trans (hrun M2 r).2.2 r3.1
      exact ⟨CN_q hI hf3, Fr_trans hF (CQ2_q hf3)⟩
    have hrc : ∀ M2, CK M2 62 (P0 W) y (svS W y x5) ∧ Fr (fun a _ => 64 ≤ a ∧ a ≤ 69) M' M2 → bCt 7 [uR 5 62, uI y, uI 1, uX 0, uX 0] M2 (fun _ => [uI (if gSv W y x5 then 1 else 0)]) (fun M3 => Fr CQ2 M2 M3 ∧ Dfl M3 63) := fun M2 r => runG_ct (hrun M2 r).1 (hrun M2 r).2.1 hy r.1
    refine r161n_32 (s1 := by rw [e5]; omega) (k1 := fun q => ?k1) (hA1 := fun q => cnt_ct (by rw [e5] at q; omega)) (s2 := fun q M2 r q2 => by rw [e5] at q; omega) (k2 := fun q M2 r q2 => ?k2) (hA2 := fun q M2 r q2 => bAt_ct (set := x5) (show CN M2 W by rw [r]; exact hI) ⟨hy.1, Int.le_of_lt hy.2⟩) (hA3 := fun q M2 r q2 M3 r3 => hrc M3 (by subst r; exact r3)) (s3 := fun q M2 r q2 M3 r3 M4 r4 q3 => by rw [e5] at q; omega) (k3 := fun q M2 r q2 M3 r3 M4 r4 q3 => ?k3) (hA4 := fun q M2 r q2 M3 r3 M4 r4 q3 => cnt_ct (by rw [e5] at q; omega)) (s4 := fun q M2 r q2 M3 r3 M4 r4 q3 M5 r5 => by rw [e5] at q; omega) (k4 := fun q M2 r q2 M3 r3 M4 r4 q3 M5 r5 => ?k4)
    case k1 =>
      rw [e5] at q
      rw [dsIter_end (by omega)] at e
      exact q_eq e (hQ M' ⟨hI, hF⟩)
    case k2 =>
      rw [e5] at q
      subst r
      have hb := hb5 (by omega)
      rw [dsIter_step (by omega), show svF W y x5 x3 = x3 from if_neg (fun z => by omega)] at e
      exact ih (x3, x4, x5 + 1) M2 (by show (dsShl 1 (wN W) - (x5 + 1)).toNat < (dsShl 1 (wN W) - x5).toNat; omega) ⟨⟨by show 0 ≤ x5 + 1; omega, by show x5 + 1 ≤ dsShl 1 (wN W); omega, hx⟩, hI, hd, hF, e⟩
    case k3 =>
      rw [e5] at q
      subst r
      have hg := hgo M3 M4 r3 r4
      have hz := if01_0 q3
      rw [dsIter_step (by omega), show svF W y x5 x3 = x3 from if_neg (fun z => hz z.2)] at e
      exact ih (x3, x4, x5 + 1) M4 (by show (dsShl 1 (wN W) - (x5 + 1)).toNat < (dsShl 1 (wN W) - x5).toNat; omega) ⟨⟨by show 0 ≤ x5 + 1; omega, by show x5 + 1 ≤ dsShl 1 (wN W); omega, hx⟩, hg.1, r4.2, hg.2, e⟩
    case k4 =>
      rw [e5] at q
      subst r
      subst r5
      have hg := hgo M3 M5 r3 r4
      have hz := if01_1 q3
      have hb := hb5 (by omega)
      rw [dsIter_step (by omega), show svF W y x5 x3 = x5 from if_pos ⟨by omega, hz⟩] at e
      obtain ⟨z, hz2⟩ : ∃ z, bitc x5 = z := ⟨_, rfl⟩
      rw [hz2]
      exact ih (x5, z, x5 + 1) M5 (by show (dsShl 1 (wN W) - (x5 + 1)).toNat < (dsShl 1 (wN W) - x5).toNat; omega) ⟨⟨by show 0 ≤ x5 + 1; omega, by show x5 + 1 ≤ dsShl 1 (wN W); omega, Or.inr ⟨h0, by show x5 < dsShl 1 (wN W); omega, hz2.symm⟩⟩, hg.1, r4.2, hg.2, e⟩
  · rw [e4, cU h (by omega)] at q
    refine q_eq ?_ (hQ M ⟨h, Fr_refl⟩)
    unfold svI
    have : dsIter (svF W y) 0 (dsShl 1 (wN W)) (-1) = -1 := dsIter_all (fun a => a = -1) 0 (-1) rfl (fun j c _ _ hc => by
      subst hc
      exact if_neg (fun z => gSv_no h.1.1 hy q z.2))
    exact this.symm
