/-! calls of static methods and of constructors, returns; the walk by numbers is closed -/
set_option maxHeartbeats 4000000 in
theorem ds_stat {E : dsE} {l : Launch} {m pc : Nat} {ls st : List dsV} {u : Nat × Nat} {M : dsMem} {Q : dsQT} {i len : Nat} (hd : decode (dsCd m) pc = .ok (.invokestatic i, len)) (hl : dsTs (.invokestatic i) = true ∨ len = dsLn (.invokestatic i))
    (h : dsI m pc (.invokestatic i) ls st u M (dsCallOf (dsSem E l)) (fun pc' ls' st' u' M' => dsSem E l m pc' ls' st' u' M' Q) Q) : dsSem E l m pc ls st u M Q := by
  intro p e R s mid args below meth c H locs arr Z hX hR hS hL hG hu hZ
  have go : ∀ (pc' : Nat) (st' : List dsV), dsSem E l m pc' ls st' u M Q → dsGs st' → W p l e R s mid args below meth c H locs u.1 u.2 Z (F0 mid pc' arr (st'.map (dsVal E))) := fun pc' st' k b => k p e R s mid args below meth c H locs arr Z hX hR hS hL b hu hZ
  obtain ⟨hx, hb, hml, hown, hts, hnm, ⟨hrf, hrl, hrc, hrs⟩, hev⟩ := id hX
  obtain rfl : len = 3 := hl.resolve_left (fun q => by cases q)
  have main : ∀ (t : Nat) (as rest : List dsV), dsPop (dsNa t) st [] = some (as, rest) → dsKd t = 1 → dsCa m pc ls rest u M (dsCallOf (dsSem E l)) (fun pc' ls' st' u' M' => dsSem E l m pc' ls' st' u' M' Q) t as →
      ((Cond.methodLink (dsR (dsCl m)) i (dsYn t)).before args s = true ∨ va_Nw (dsNW (dsCl m) i t) s) → W p l e R s mid args below meth c H locs u.1 u.2 Z (F0 mid pc arr (st.map (dsVal E))) := by
    intro t as rest hpop hk1 h hlink
    unfold dsCa at h
    split at h
    · rename_i hst
      obtain ⟨⟨hu1, hu2⟩, h⟩ := h
      have hk3 : dsKd t ≠ 3 := by rw [hk1]; decide
      obtain ⟨m1, m2, m3, m4, m5, m6, m7, m8, m9⟩ := ds_meth hk3
      obtain ⟨xs, hst1, has, hlen⟩ := dsPop_spec _ _ _ _ _ hpop
      rw [List.append_nil] at has
      have hxs : xs = as.reverse := by rw [has, List.reverse_reverse]
      rw [hst1] at hG ⊢
      obtain ⟨hGx, hGr⟩ := dsGs_split hG
      have hGa : dsGs as := by rw [has]; exact dsGs_rev hGx
      have hM := ds_met (Q := fun r M' => dsSem E l m (pc + 3) ls (r ++ rest) (u.1 + dsMc t, u.2 + dsMs t) M' Q) hk3 hGa hst.2.2 h
      have hna : as.length = dsNa t := by
        rw [hxs] at hlen
        simpa using hlen
      have hRm : (dsRm t).frames + 1 ≤ R.frames ∧ 8 + (dsMx t + 11) + (dsRm t).locals ≤ R.locals := ⟨by show dsRk t + 1 ≤ _; omega, by show 8 + (dsMx t + 11) + 40 * dsRk t ≤ _; omega⟩
      have hpre : PreS s H (dsPc E M as) (as.map (dsVal E)) := ⟨dsPc_blind, fun U hU hW => ⟨rfl, hev.moved hU hW hS, by rw [hU]; exact hR⟩⟩
      have hstk : (F0 mid pc arr ((xs ++ rest).map (dsVal E))).stack = (as.map (dsVal E)).reverse ++ rest.map (dsVal E) := by
        show (xs ++ rest).map (dsVal E) = _
        rw [hxs, List.map_append, List.map_reverse]
      have hW8 : 2 * (F0 mid pc arr ((xs ++ rest).map (dsVal E))).monitorRoom + ((rest.map (dsVal E)).map fun v => v.category).sum ≤ 8 := by
        show 2 * 0 + _ ≤ 8
        rw [dsCats]; omega
      have fin : ∀ (r : List dsV) (M' : dsMem) (H' : Heap) (locs' : List Loc), dsSem E l m (pc + 3) ls (r ++ rest) (u.1 + dsMc t, u.2 + dsMs t) M' Q → dsGs r → dsRel E M' H' → va_S (dsOwn E) s.heap H' locs' → W p l e R s mid args below meth c H' locs' (u.1 + dsMc t) (u.2 + dsMs t) Z (F0 mid (pc + 3) arr ((r ++ rest).map (dsVal E))) :=
        fun r M' H' locs' hQ hgr hrel' hS' => hQ p e R s mid args below meth c H' locs' arr Z hX hrel' hS' hL (dsGs_app hgr hGr) ⟨hu1, hu2⟩ hZ
      rcases hlink with hlink | hlink
      · exact ds_after (t := t) (rest := rest) (va_runS (As := as.map (dsVal E)) (bytes := dsCd t) (maxL := dsMx t) (ret := dsRt t) ⟨hx, hb, hml, hown, hts⟩ hM
          ⟨callB_of (dsNa t) hts (ds_goodc hk3) rfl rfl rfl (hts _ m2) hlink m3 hRm, hts _ (m6 hk1)⟩ hpre rfl (by simpa using hna) hL.1 hstk hW8 hd ⟨by omega, by omega⟩) hS fin
      · exact ds_after (t := t) (rest := rest) (va_runSN (As := as.map (dsVal E)) (bytes := dsCd t) (maxL := dsMx t) (ret := dsRt t) (host := RX8) ⟨hx, hb, hml, hown, hts⟩ hM
          ⟨va_cnB (dsNa t) hts (ds_goodc hk3) rfl rfl rfl hlink (hts _ m2) m3 hRm, hts _ (m6 hk1), trivial⟩ hpre rfl (by simpa using hna) hL.1 hstk hW8 hd ⟨by omega, by omega⟩) hS fin
    · exact h.elim
  simp only [dsI] at h
  split at h
  · rename_i t z hk
    have hK : Cond.methodLink (dsR (dsCl m)) i (dsYn t) ∈ dsTS ∧ dsKd t = 1 := dsOkK_ok _ _ (dsLk_in hk)
    split at h
    · exact main _ _ _ ‹_› hK.2 h (Or.inl (hts _ hK.1))
    · exact h.elim
  · rename_i t z hk
    have hK : dsNW (dsCl m) i t ∈ tables_1 ∧ dsKd t = 1 := dsOkK_ok _ _ (dsLk_in hk)
    split at h
    · exact main _ _ _ ‹_› hK.2 h (Or.inr (hev.2.1 _ _ _ hK.1))
    · exact h.elim
  · rename_i z1 z2 hk
    have hK : Cond.methodLink (dsR (dsCl m)) i Lib.Math.max.name ∈ dsTS := dsOkK_ok _ _ (dsLk_in hk)
    split at h
    · rename_i y x r
      split at h
      · rename_i hst
        have hgv : dsGv (vI (if x < y then y else x)) := by
          by_cases h1 : x < y
          · rw [if_pos h1]; exact hG.1
          · rw [if_neg h1]; exact hG.2.1
        have k := go _ _ h ⟨hgv, hG.2.2⟩
        have e2 : dsVal E (vI (if x < y then y else x)) = .int (if Int32.ofInt x < Int32.ofInt y then Int32.ofInt y else Int32.ofInt x) := by
          by_cases h1 : x < y
          · rw [if_pos h1, if_pos ((ds_lt32 hG.2.1 hG.1).mpr h1)]; rfl
          · rw [if_neg h1, if_neg (fun q => h1 ((ds_lt32 hG.2.1 hG.1).mp q))]; rfl
        rw [List.map_cons, e2] at k
        exact va_mmax hx hb (hml.trans hL.1.symm) hown (hts _ hK) (hts _ dsS_max) (hts _ dsIniMath) (hts _ dsC_max) (by omega) (by rw [dsCats]; omega) (by omega) (by omega) hd k
      · exact h.elim
    · exact h.elim
  · rename_i z1 z2 hk
    have hK : Cond.methodLink (dsR (dsCl m)) i Lib.Math.min.name ∈ dsTS := dsOkK_ok _ _ (dsLk_in hk)
    split at h
    · rename_i y x r
      split at h
      · rename_i hst
        have hgv : dsGv (vI (if y < x then y else x)) := by
          by_cases h1 : y < x
          · rw [if_pos h1]; exact hG.1
          · rw [if_neg h1]; exact hG.2.1
        have k := go _ _ h ⟨hgv, hG.2.2⟩
        have e2 : dsVal E (vI (if y < x then y else x)) = .int (if Int32.ofInt y < Int32.ofInt x then Int32.ofInt y else Int32.ofInt x) := by
          by_cases h1 : y < x
          · rw [if_pos h1, if_pos ((ds_lt32 hG.1 hG.2.1).mpr h1)]; rfl
          · rw [if_neg h1, if_neg (fun q => h1 ((ds_lt32 hG.1 hG.2.1).mp q))]; rfl
        rw [List.map_cons, e2] at k
        exact va_mmin hx hb (hml.trans hL.1.symm) hown (hts _ hK) (hts _ dsS_min) (hts _ dsIniMath) (hts _ dsC_min) (by omega) (by rw [dsCats]; omega) (by omega) (by omega) hd k
      · exact h.elim
    · exact h.elim
  · rename_i z1 z2 hk
    have hK : Cond.methodLink (dsR (dsCl m)) i Lib.MathLoose.abs_long.x ∈ dsTS := dsOkK_ok _ _ (dsLk_in hk)
    split at h
    · rename_i x r
      split at h
      · rename_i hst
        have hgv : dsGv (vJ (if 0 < x then x else dsw64 (-x))) := by
          by_cases h1 : 0 < x
          · rw [if_pos h1]; exact hG.1
          · rw [if_neg h1]; exact dsGw64 _
        have k := go _ _ h ⟨hgv, hG.2⟩
        have h0 : (0 : Int64) = Int64.ofInt 0 := rfl
        have e2 : dsVal E (vJ (if 0 < x then x else dsw64 (-x))) = .long (if 0 < Int64.ofInt x then Int64.ofInt x else -Int64.ofInt x) := by
          by_cases h1 : 0 < x
          · rw [if_pos h1, if_pos (by rw [h0]; exact (ds_lt64 (by omega) hG.1).mpr h1)]; rfl
          · rw [if_neg h1, if_neg (fun q => h1 (by rw [h0] at q; exact (ds_lt64 (by omega) hG.1).mp q))]
            show Value.long _ = _
            rw [dsw64_o, Int64.ofInt_neg]
        rw [List.map_cons, e2] at k
        exact va_mabs_long hx hb (hml.trans hL.1.symm) hown (hts _ hK) (hts _ dsS_abs) (hts _ dsIniMath) (hts _ dsC_abs) (by omega) (by rw [dsCats]; omega) (by omega) (by omega) hd k
      · exact h.elim
    · exact h.elim
  · rename_i z1 z2 hk
    have hK : Cond.methodLink (dsR (dsCl m)) i arraycopyName ∈ dsTS := dsOkK_ok _ _ (dsLk_in hk)
    split at h
    · rename_i n dp b sp a r
      split at h
      · rename_i hst
        obtain ⟨⟨hMM, h0, h1, h2, h3, h4⟩, h⟩ := h
        have kk : ∀ (H' : Heap) (locs' : List Loc), dsRel E (dsCpy M a sp b dp n) H' → va_S (dsOwn E) s.heap H' locs' → W p l e R s mid args below meth c H' locs' u.1 u.2 Z (F0 mid (pc + 3) arr (r.map (dsVal E))) :=
          fun H' locs' hr' hs' => h p e R s mid args below meth c H' locs' arr Z hX hr' hs' hL hG.2.2.2.2.2 hu hZ
        rcases hMM with ⟨hMa, hMb⟩ | ⟨hMa, hMb⟩
        · exact ds_copy (fun z : Int32 => .int z) Int32.ofInt 0 (Or.inl rfl) (fun _ => rfl) (fun _ _ _ _ => trivial) (fun _ _ => rfl) hX hR hS hK hd hL.1 hst.1 hst.2 hG.1 hG.2.1 hG.2.2.2.1 hMa hMb h0 h1 h2 h3 h4 kk
        · exact ds_copy (fun z : Int64 => .long z) Int64.ofInt 3 (Or.inr rfl) (fun _ => rfl) (fun _ _ _ _ => trivial) (fun _ _ => rfl) hX hR hS hK hd hL.1 hst.1 hst.2 hG.1 hG.2.1 hG.2.2.2.1 hMa hMb h0 h1 h2 h3 h4 kk
      · exact h.elim
    · exact h.elim
  · exact h.elim
set_option maxHeartbeats 4000000 in
theorem ds_spec {E : dsE} {l : Launch} {m pc : Nat} {ls st : List dsV} {u : Nat × Nat} {M : dsMem} {Q : dsQT} {i len : Nat} (hd : decode (dsCd m) pc = .ok (.invokespecial i, len)) (hl : dsTs (.invokespecial i) = true ∨ len = dsLn (.invokespecial i))
    (h : dsI m pc (.invokespecial i) ls st u M (dsCallOf (dsSem E l)) (fun pc' ls' st' u' M' => dsSem E l m pc' ls' st' u' M' Q) Q) : dsSem E l m pc ls st u M Q := by
  intro p e R s mid args below meth c H locs arr Z hX hR hS hL hG hu hZ
  have go : ∀ (pc' : Nat) (st' : List dsV), dsSem E l m pc' ls st' u M Q → dsGs st' → W p l e R s mid args below meth c H locs u.1 u.2 Z (F0 mid pc' arr (st'.map (dsVal E))) := fun pc' st' k b => k p e R s mid args below meth c H locs arr Z hX hR hS hL b hu hZ
  obtain ⟨hx, hb, hml, hown, hts, hnm, ⟨hrf, hrl, hrc, hrs⟩, hev⟩ := id hX
  obtain rfl : len = 3 := hl.resolve_left (fun q => by cases q)
  have main : ∀ (t : Nat) (a : Int) (as rest : List dsV), dsPop (dsNa t + 1) st [] = some (vR a :: as, rest) → 0 ≤ a → dsKd t = 2 → dsCa m pc ls rest u M (dsCallOf (dsSem E l)) (fun pc' ls' st' u' M' => dsSem E l m pc' ls' st' u' M' Q) t (vR a :: as) →
      ((Cond.methodLink (dsR (dsCl m)) i (dsYn t)).before args s = true ∨ va_Nw (dsNW (dsCl m) i t) s) → W p l e R s mid args below meth c H locs u.1 u.2 Z (F0 mid pc arr (st.map (dsVal E))) := by
    intro t a as rest hpop ha hk1 h hlink
    unfold dsCa at h
    split at h
    · rename_i hst
      obtain ⟨⟨hu1, hu2⟩, h⟩ := h
      have hk3 : dsKd t ≠ 3 := by rw [hk1]; decide
      obtain ⟨m1, m2, m3, m4, m5, m6, m7, m8, m9⟩ := ds_meth hk3
      obtain ⟨xs, hst1, has, hlen⟩ := dsPop_spec _ _ _ _ _ hpop
      rw [List.append_nil] at has
      have hxs : xs = as.reverse ++ [vR a] := by
        have := congrArg List.reverse has
        rw [List.reverse_reverse] at this
        rw [← this]; simp
      rw [hst1] at hG ⊢
      obtain ⟨hGx, hGr⟩ := dsGs_split hG
      have hGa : dsGs (vR a :: as) := by rw [has]; exact dsGs_rev hGx
      have hM := ds_met (Q := fun r M' => dsSem E l m (pc + 3) ls (r ++ rest) (u.1 + dsMc t, u.2 + dsMs t) M' Q) hk3 hGa hst.2.2 h
      have hna : as.length = dsNa t := by
        rw [hxs] at hlen
        simpa using hlen
      obtain ⟨q, rfl⟩ := Int.eq_ofNat_of_zero_le ha
      have hRm : (dsRm t).frames + 1 ≤ R.frames ∧ 8 + (dsMx t + 11) + (dsRm t).locals ≤ R.locals := ⟨by show dsRk t + 1 ≤ _; omega, by show 8 + (dsMx t + 11) + 40 * dsRk t ≤ _; omega⟩
      have hpre : PreS s H (dsPc E M (vR (q : Int) :: as)) (.ref (eB E + q) :: as.map (dsVal E)) := by
        refine ⟨dsPc_blind, fun U hU hW => ⟨?_, hev.moved hU hW hS, by rw [hU]; exact hR⟩⟩
        show _ = (dsRf E (q : Int) :: _).toArray
        rw [dsRf_at]
      have hstk : (F0 mid pc arr ((xs ++ rest).map (dsVal E))).stack = (as.map (dsVal E)).reverse ++ .ref (eB E + q) :: rest.map (dsVal E) := by
        show (xs ++ rest).map (dsVal E) = _
        rw [hxs, List.map_append, List.map_append, List.map_reverse]
        show _ ++ [dsRf E (q : Int)] ++ _ = _
        rw [dsRf_at]
        simp
      have hW8 : 2 * (F0 mid pc arr ((xs ++ rest).map (dsVal E))).monitorRoom + ((rest.map (dsVal E)).map fun v => v.category).sum ≤ 8 := by
        show 2 * 0 + _ ≤ 8
        rw [dsCats]; omega
      have fin : ∀ (r : List dsV) (M' : dsMem) (H' : Heap) (locs' : List Loc), dsSem E l m (pc + 3) ls (r ++ rest) (u.1 + dsMc t, u.2 + dsMs t) M' Q → dsGs r → dsRel E M' H' → va_S (dsOwn E) s.heap H' locs' → W p l e R s mid args below meth c H' locs' (u.1 + dsMc t) (u.2 + dsMs t) Z (F0 mid (pc + 3) arr ((r ++ rest).map (dsVal E))) :=
        fun r M' H' locs' hQ hgr hrel' hS' => hQ p e R s mid args below meth c H' locs' arr Z hX hrel' hS' hL (dsGs_app hgr hGr) ⟨hu1, hu2⟩ hZ
      have hrt := (m9 hk1).2
      rcases hlink with hlink | hlink
      · have hcb := callB_of (R := R) (own := dsR (dsCl m)) (index := i) (dsNa t) hts (ds_goodc hk3) rfl (rm := dsRm t) (mc := dsMc t) (ms := dsMs t) rfl rfl (hts _ m2) hlink m3 hRm
        have hM2 := hM
        rw [hrt] at hcb hM2
        exact ds_after (t := t) (rest := rest) (va_runI (As := as.map (dsVal E)) (b := eB E + q) (bytes := dsCd t) (maxL := dsMx t) ⟨hx, hb, hml, hown, hts⟩ hM2
          ⟨hcb, (m9 hk1).1, hts _ (m7 (by rw [hk1]; decide))⟩ hpre rfl (by simpa using hna) hL.1 hstk hW8 hd ⟨by omega, by omega⟩) hS fin
      · have hcb := va_cnB (R := R) (own := dsR (dsCl m)) (index := i) (host := RX8) (dsNa t) hts (ds_goodc hk3) rfl (rm := dsRm t) (mc := dsMc t) (ms := dsMs t) rfl rfl hlink (hts _ m2) m3 hRm
        have hM2 := hM
        rw [hrt] at hcb hM2
        exact ds_after (t := t) (rest := rest) (va_runIN (As := as.map (dsVal E)) (b := eB E + q) (bytes := dsCd t) (maxL := dsMx t) (host := RX8) ⟨hx, hb, hml, hown, hts⟩ hM2
          ⟨hcb, (m9 hk1).1, hts _ (m7 (by rw [hk1]; decide))⟩ hpre rfl (by simpa using hna) hL.1 hstk hW8 hd ⟨by omega, by omega⟩) hS fin
    · exact h.elim
  simp only [dsI] at h
  split at h
  · rename_i t z hk
    have hK : Cond.methodLink (dsR (dsCl m)) i (dsYn t) ∈ dsTS ∧ dsKd t = 2 := dsOkK_ok _ _ (dsLk_in hk)
    split at h
    · exact main _ _ _ _ ‹_› h.1 hK.2 h.2 (Or.inl (hts _ hK.1))
    · exact h.elim
  · rename_i t z hk
    have hK : dsNW (dsCl m) i t ∈ tables_1 ∧ dsKd t = 2 := dsOkK_ok _ _ (dsLk_in hk)
    split at h
    · exact main _ _ _ _ ‹_› h.1 hK.2 h.2 (Or.inr (hev.2.1 _ _ _ hK.1))
    · exact h.elim
  · rename_i z1 z2 hk
    have hK : Cond.methodLink (dsR (dsCl m)) i objectInit ∈ dsTS := dsOkK_ok _ _ (dsLk_in hk)
    split at h
    · rename_i a r
      split at h
      · rename_i hst
        obtain ⟨q, rfl⟩ := Int.eq_ofNat_of_zero_le h.1
        show W p l e R s mid args below meth c H locs u.1 u.2 Z (F0 mid pc arr (dsRf E (q : Int) :: r.map (dsVal E)))
        rw [dsRf_at]
        exact W.objInit hx hb hown (hts _ hK) (hts _ dsInstObj) (hts _ dsCodeObj) rfl (by rw [hml]; exact hL.1) rfl hd (by omega) (by show 2 * 0 + _ + 12 ≤ _; rw [dsCats]; omega) (go _ _ h.2 hG.2)
      · exact h.elim
    · exact h.elim
  · exact h.elim
theorem ds_rets {E : dsE} {l : Launch} {m pc : Nat} {ls st : List dsV} {u : Nat × Nat} {M : dsMem} {Q : dsQT} {ins : Instr} {len : Nat} (hd : decode (dsCd m) pc = .ok (ins, len)) (hl : dsTs ins = true ∨ len = dsLn ins)
    (hp : ins = .ireturn ∨ ins = .lreturn ∨ ins = .areturn ∨ ins = .return_) {call : Nat → List dsV → dsMem → dsQT → Prop} {K : dsKT1} (h : dsI m pc ins ls st u M call K Q) : dsSem E l m pc ls st u M Q := by
  intro p e R s mid args below meth c H locs arr Z hX hR hS hL hG hu hZ
  rcases hp with rfl | rfl | rfl | rfl
  · obtain rfl : len = 1 := hl.resolve_left (fun q => by cases q)
    simp only [dsI] at h
    split at h
    · split at h
      · exact hZ _ _ _ _ u pc arr h hG hR hS hu ⟨hd, Or.inl ‹_›⟩
      · exact hZ _ _ _ _ u pc arr h.2 hG hR hS hu ⟨hd, Or.inr ⟨‹_›, h.1⟩⟩
      · exact h.elim
    · exact h.elim
  · obtain rfl : len = 1 := hl.resolve_left (fun q => by cases q)
    simp only [dsI] at h
    split at h
    · split at h
      · exact hZ _ _ _ _ u pc arr h hG hR hS hu ⟨hd, ‹_›⟩
      · exact h.elim
    · exact h.elim
  · obtain rfl : len = 1 := hl.resolve_left (fun q => by cases q)
    simp only [dsI] at h
    split at h
    · split at h
      · exact hZ _ _ _ _ u pc arr h hG hR hS hu ⟨hd, _, ‹_›⟩
      · exact h.elim
    · exact h.elim
  · obtain rfl : len = 1 := hl.resolve_left (fun q => by cases q)
    simp only [dsI] at h
    split at h
    · split at h
      · exact hZ _ _ _ _ u pc arr h hG hR hS hu ⟨hd, ‹_›⟩
      · exact h.elim
    · exact h.elim
theorem dsRel_gr {E : dsE} {M : dsMem} {H : Heap} (h : dsRel E M H) : dsGr M := by
  obtain ⟨n, -, -, -, hg, -⟩ := h
  intro a i h0 h1
  refine ⟨fun hk => ?_, fun hk => ?_, fun hk => ?_⟩
  · obtain ⟨q, len, -, -, hl, -, ho⟩ := hg.a (k := 0) (by omega) (by rw [hk]; rfl)
    have := ho i.toNat (by omega)
    rw [show ((i.toNat : Nat) : Int) = i by omega] at this
    exact this
  · obtain ⟨q, len, -, -, hl, -, ho⟩ := hg.a (k := 1) (by omega) (by rw [hk]; rfl)
    have := ho i.toNat (by omega)
    rw [show ((i.toNat : Nat) : Int) = i by omega] at this
    exact this
  · obtain ⟨q, len, -, -, hl, -, ho⟩ := hg.a (k := 3) (by omega) (by rw [hk]; rfl)
    have := ho i.toNat (by omega)
    rw [show ((i.toNat : Nat) : Int) = i by omega] at this
    exact this
theorem dsSem_clo (E : dsE) (l : Launch) : dsClo (dsSem E l) := by
  refine ⟨fun m pc ls st u M Q Q' hq h => dsSem_mono hq h, fun m pc ls st u M Q ins len hd hl h => ?_, fun m pc ls st u M Q h p e R s mid args below meth c H locs arr Z h1 h2 => h (dsRel_gr h2) p e R s mid args below meth c H locs arr Z h1 h2⟩
  by_cases hp : dsPu ins = true
  · exact ds_pure hd hl hp h
  · cases ins with
    | getfield i => exact ds_read hd hl (Or.inl ⟨i, rfl⟩) h
    | iaload => exact ds_read hd hl (Or.inr (Or.inl rfl)) h
    | baload => exact ds_read hd hl (Or.inr (Or.inr (Or.inl rfl))) h
    | laload => exact ds_read hd hl (Or.inr (Or.inr (Or.inr (Or.inl rfl)))) h
    | aaload => exact ds_read hd hl (Or.inr (Or.inr (Or.inr (Or.inr (Or.inl rfl))))) h
    | arraylength => exact ds_read hd hl (Or.inr (Or.inr (Or.inr (Or.inr (Or.inr rfl))))) h
    | putfield i => exact ds_write hd hl (Or.inl ⟨i, rfl⟩) h
    | iastore => exact ds_write hd hl (Or.inr (Or.inl rfl)) h
    | bastore => exact ds_write hd hl (Or.inr (Or.inr (Or.inl rfl))) h
    | lastore => exact ds_write hd hl (Or.inr (Or.inr (Or.inr (Or.inl rfl)))) h
    | aastore => exact ds_write hd hl (Or.inr (Or.inr (Or.inr (Or.inr rfl)))) h
    | new i => exact ds_alloc hd hl (Or.inl ⟨i, rfl⟩) h
    | newarray t => exact ds_alloc hd hl (Or.inr (Or.inl ⟨t, rfl⟩)) h
    | anewarray i => exact ds_alloc hd hl (Or.inr (Or.inr ⟨i, rfl⟩)) h
    | invokevirtual i => exact ds_virt hd hl h
    | invokestatic i => exact ds_stat hd hl h
    | invokespecial i => exact ds_spec hd hl h
    | ireturn => exact ds_rets hd hl (Or.inl rfl) h
    | lreturn => exact ds_rets hd hl (Or.inr (Or.inl rfl)) h
    | areturn => exact ds_rets hd hl (Or.inr (Or.inr (Or.inl rfl))) h
    | return_ => exact ds_rets hd hl (Or.inr (Or.inr (Or.inr rfl))) h
    | _ => exact absurd rfl hp
/-- what is shown of the numbers holds of the machine -/
theorem dsA_sound (E : dsE) (l : Launch) {m pc : Nat} {ls st : List dsV} {u : Nat × Nat} {M : dsMem} {Q : dsQT} (h : dsA m pc ls st u M Q) : dsSem E l m pc ls st u M Q := h _ (dsSem_clo E l)
