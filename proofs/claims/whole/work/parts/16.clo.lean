/-! every step: the walk by numbers is closed -/
section DsStr
variable {E : dsE} {l : Launch} {m pc : Nat} {p : Program} {e : Env} {R : Room} {s : State} {mid : MethodId} {args : Array Value} {below : List Frame} {meth : Method} {c : Code} {H : Heap} {locs : List Loc} {arr : Array Slot} {Z : State → Prop} {cells slots : Nat} {rest : List dsV} {i k : Nat}
theorem ds_strlen (hX : dsCx E m p R s mid args meth c) (hS : va_S (dsOwn E) s.heap H locs) (hl : Cond.methodLink (dsR (dsCl m)) i yJ0_length_8abf5 ∈ dsTS) (hd : decode (dsCd m) pc = .ok (.invokevirtual i, 3)) (hsz : arr.size = dsMx m) (hrk : 4 ≤ dsRk m) (hcs : dsCs rest ≤ 8) (hk : k < dsTX.length) (hc : cells ≤ R.cells) (hs : slots ≤ R.slots)
    (kk : W p l e R s mid args below meth c H locs cells slots Z (F0 mid (pc + 3) arr (.int (Int32.ofInt (dsLen k)) :: rest.map (dsVal E)))) : W p l e R s mid args below meth c H locs cells slots Z (F0 mid pc arr (.ref (eK E k) :: rest.map (dsVal E))) := by
  obtain ⟨hx, hb, hml, hown, hts, hnm, ⟨hrf, hrl, hrc, hrs⟩, hev⟩ := id hX
  have hk : k < 15 := hk
  refine ss_after (va_runV (As := []) (rest := rest.map (dsVal E)) (b := eK E k) (C := RJ0) (bytes := cJ0_length_8abf5) (maxL := 1) (ret := some .int) ⟨hx, hb, hml, hown, hts⟩ (ss_length l E hk H)
    ⟨callB_of 0 hts (ss_good ssLen_c) rfl rfl rfl (hts _ ssI0) (hts _ hl) ⟨by decide +kernel, by decide +kernel, by decide +kernel⟩ ⟨by show 1 + 1 ≤ _; omega, by show 8 + (1 + 11) + 40 * 1 ≤ _; omega⟩, hts _ ssLen_i, hts _ ssLen_s⟩
    ⟨ssP_blind, vk_recv hev.2.2.2.1.1 hk hS, fun U hU hW => ⟨rfl, hU, hev.moved hU hW hS⟩⟩ rfl rfl hsz rfl (by show 2 * 0 + _ ≤ 8; rw [dsCats]; omega) hd ⟨hc, hs⟩) ?_
  rw [(ss_f1 k hk).2.1]
  exact kk
theorem ds_strchr {j : Int} (hX : dsCx E m p R s mid args meth c) (hS : va_S (dsOwn E) s.heap H locs) (hl : Cond.methodLink (dsR (dsCl m)) i yJ0_charAt_5068e ∈ dsTS) (hd : decode (dsCd m) pc = .ok (.invokevirtual i, 3)) (hsz : arr.size = dsMx m) (hrk : 5 ≤ dsRk m) (hcs : dsCs rest ≤ 8) (hk : k < dsTX.length) (hj0 : 0 ≤ j) (hj1 : j < dsLen k) (hc : cells ≤ R.cells) (hs : slots ≤ R.slots)
    (kk : W p l e R s mid args below meth c H locs cells slots Z (F0 mid (pc + 3) arr (.int (Int32.ofInt (dsChr k j)) :: rest.map (dsVal E)))) : W p l e R s mid args below meth c H locs cells slots Z (F0 mid pc arr (.int (Int32.ofInt j) :: .ref (eK E k) :: rest.map (dsVal E))) := by
  obtain ⟨hx, hb, hml, hown, hts, hnm, ⟨hrf, hrl, hrc, hrs⟩, hev⟩ := id hX
  have hk : k < 15 := hk
  obtain ⟨n, rfl⟩ := Int.eq_ofNat_of_zero_le hj0
  have hn : n < dsSl.getD k 0 := by
    have := (ss_f1 k hk).2.2.1
    omega
  obtain ⟨f1, f2, f3, f4, f5, f6⟩ := ss_f2 k hk n (by have := (ss_f1 k hk).2.2.2; omega) hn
  rw [f5]
  refine ss_after (va_runV (As := [.int (Int32.ofNat n)]) (rest := rest.map (dsVal E)) (b := eK E k) (C := RJ0) (bytes := cJ0_charAt_5068e) (maxL := 2) (ret := some .char) ⟨hx, hb, hml, hown, hts⟩ (ss_charAt l E hk hn H)
    ⟨callB_of 1 hts (ss_good ssChr_c) rfl rfl rfl (hts _ ssI0) (hts _ hl) ⟨by decide +kernel, by decide +kernel, by decide +kernel⟩ ⟨by show 3 + 1 ≤ _; omega, by show 8 + (2 + 11) + 40 * 3 ≤ _; omega⟩, hts _ ssChr_i, hts _ ssChr_s⟩
    ⟨ssP_blind, vk_recv hev.2.2.2.1.1 hk hS, fun U hU hW => ⟨rfl, hU, hev.moved hU hW hS⟩⟩ rfl rfl hsz rfl (by show 2 * 0 + _ ≤ 8; rw [dsCats]; omega) hd ⟨hc, hs⟩) ?_
  exact kk
theorem dsTX_len : dsTX.length = 15 := rfl
theorem dsLen_rng : ∀ k, k < 15 → (-2147483648 ≤ dsLen k ∧ dsLen k < 2147483648) := by decide
theorem dsChr_rng (k : Nat) (j : Int) (hk : k < 15) (h0 : 0 ≤ j) (h1 : j < dsLen k) : -2147483648 ≤ dsChr k j ∧ dsChr k j < 2147483648 := by
  have h : ∀ k, k < 15 → ∀ j, j < 10 → (-2147483648 ≤ dsChr k ((j : Nat) : Int) ∧ dsChr k ((j : Nat) : Int) < 2147483648) := by decide
  have h2 : ∀ k, k < 15 → dsLen k ≤ 10 := by decide
  have := h2 k hk
  have h3 := h k hk j.toNat (by omega)
  rwa [show ((j.toNat : Nat) : Int) = j by omega] at h3
end DsStr
set_option maxHeartbeats 4000000 in
theorem ds_virt {E : dsE} {l : Launch} {m pc : Nat} {ls st : List dsV} {u : Nat × Nat} {M : dsMem} {Q : dsQT} {i len : Nat} (hd : decode (dsCd m) pc = .ok (.invokevirtual i, len)) (hl : dsTs (.invokevirtual i) = true ∨ len = dsLn (.invokevirtual i))
    (h : dsI m pc (.invokevirtual i) ls st u M (dsCallOf (dsSem E l)) (fun pc' ls' st' u' M' => dsSem E l m pc' ls' st' u' M' Q) Q) : dsSem E l m pc ls st u M Q := by
  intro p e R s mid args below meth c H locs arr Z hX hR hS hL hG hu hZ
  obtain ⟨hx, hb, hml, hown, hts, hnm, ⟨hrf, hrl, hrc, hrs⟩, hev⟩ := id hX
  obtain rfl : len = 3 := hl.resolve_left (fun q => by cases q)
  simp only [dsI] at h
  split at h
  · rename_i t z hk
    split at h
    · rename_i a as rest hpop
      obtain ⟨hMa, h⟩ := h
      unfold dsCa at h
      split at h
      · rename_i hst
        obtain ⟨⟨hu1, hu2⟩, h⟩ := h
        have hK : Cond.methodLink (dsR (dsCl m)) i (dsYn t) ∈ dsTS ∧ dsKd t = 0 := dsOkK_ok _ _ (dsLk_in hk)
        have hk3 : dsKd t ≠ 3 := by rw [hK.2]; decide
        obtain ⟨m1, m2, m3, m4, m5, m6, m7, m8, m9⟩ := ds_meth hk3
        obtain ⟨xs, hst1, has, hlen⟩ := dsPop_spec _ _ _ _ _ hpop
        rw [List.append_nil] at has
        have hxs : xs = as.reverse ++ [vR a] := by
          have := congrArg List.reverse has
          rw [List.reverse_reverse] at this
          rw [← this]; simp
        rw [hst1] at hG ⊢
        obtain ⟨hGx, hGr⟩ := dsGs_split hG
        have hGa : dsGs (vR a :: as) := by rw [has]; exact dsGs_rev hGx
        obtain ⟨n, hn, hsz, hP, hgd, hsc⟩ := id hR
        have hcl : dsCl t < 10 := by
          have h9 := dsVcl (dsCl m) (i, t, z) (dsLk_in hk)
          exact h9
        obtain ⟨q, rfl, hq, -⟩ := hgd.o hcl hMa
        have he := dsWl_get E M hq
        rw [dsEt_o E hcl hMa] at he
        have hM := ds_met (Q := fun r M' => dsSem E l m (pc + 3) ls (r ++ rest) (u.1 + dsMc t, u.2 + dsMs t) M' Q) hk3 hGa hst.2.2 h
        have hna : as.length = dsNa t := by
          rw [hxs] at hlen
          simpa using hlen
        refine ds_after (t := t) (rest := rest) (va_runV (As := as.map (dsVal E)) (b := eB E + q) (C := (dsYn t).cls) (bytes := dsCd t) (maxL := dsMx t) (ret := dsRt t) ⟨hx, hb, hml, hown, hts⟩ hM
          ⟨callB_of (dsNa t) hts (ds_goodc hk3) rfl rfl rfl (hts _ m2) (hts _ hK.1) m3 ⟨by show dsRk t + 1 ≤ _; omega, by show 8 + (dsMx t + 11) + 40 * dsRk t ≤ _; omega⟩, hts _ (m7 (by rw [hK.2]; decide)), hts _ (m8 hK.2)⟩
          ⟨dsPc_blind, ?_, fun U hU hW => ⟨?_, hev.moved hU hW hS, by rw [hU]; exact hR⟩⟩ rfl (by simpa using hna) hL.1 ?_ (by show 2 * 0 + _ ≤ 8; rw [dsCats]; omega) hd ⟨by omega, by omega⟩) hS ?_
        · rw [m5.1]
          exact va_recv hev.1 hP (dsVw hcl) he
        · show _ = ((vR (q : Int) :: as).map (dsVal E)).toArray
          rw [List.map_cons]
          show _ = (dsRf E (q : Int) :: _).toArray
          rw [dsRf_at]
        · show (xs ++ rest).map (dsVal E) = _
          rw [hxs, List.map_append, List.map_append, List.map_reverse]
          show _ ++ [dsRf E (q : Int)] ++ _ = _
          rw [dsRf_at]
          simp
        · intro r M' H' locs' hQ hgr hrel' hS'
          exact hQ p e R s mid args below meth c H' locs' arr Z hX hrel' hS' hL (dsGs_app hgr hGr) ⟨hu1, hu2⟩ hZ
      · exact h.elim
    · exact h.elim
  · rename_i z1 z2 hk
    split at h
    · rename_i k r
      split at h
      · rename_i hst
        have hK : Cond.methodLink (dsR (dsCl m)) i yJ0_length_8abf5 ∈ dsTS := dsOkK_ok _ _ (dsLk_in hk)
        refine ds_strlen (k := k) hX hS hK hd hL.1 hst.1 hst.2 h.1 (by omega) (by omega) ?_
        exact h.2 p e R s mid args below meth c H locs arr Z hX hR hS hL ⟨dsLen_rng k (by have := h.1; rw [dsTX_len] at this; exact this), hG.2⟩ hu hZ
      · exact h.elim
    · exact h.elim
  · rename_i z1 z2 hk
    split at h
    · rename_i j k r
      split at h
      · rename_i hst
        have hK : Cond.methodLink (dsR (dsCl m)) i yJ0_charAt_5068e ∈ dsTS := dsOkK_ok _ _ (dsLk_in hk)
        refine ds_strchr (k := k) hX hS hK hd hL.1 hst.1 hst.2 h.1.1 h.1.2.1 h.1.2.2 (by omega) (by omega) ?_
        exact h.2 p e R s mid args below meth c H locs arr Z hX hR hS hL ⟨dsChr_rng k j (by have := h.1.1; rw [dsTX_len] at this; exact this) h.1.2.1 h.1.2.2, hG.2.2⟩ hu hZ
      · exact h.elim
    · exact h.elim
  · exact h.elim
