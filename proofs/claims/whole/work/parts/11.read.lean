/-! instructions that read the heap -/
theorem ds_idx {i : Int} (h0 : 0 ≤ i) (h1 : i < 2147483648) : (((Int32.ofInt i).toNatClampNeg : Nat) : Int) = i := by
  rw [ds_nat32 h0 h1]
  omega
theorem dsRf_at (E : dsE) (q : Nat) : dsRf E (q : Int) = .ref (eB E + q) := by
  unfold dsRf
  rw [if_neg (by omega)]
  rfl
set_option maxHeartbeats 4000000 in
theorem ds_read {E : dsE} {l : Launch} {m pc : Nat} {ls st : List dsV} {u : Nat × Nat} {M : dsMem} {Q : dsQT} {ins : Instr} {len : Nat} (hd : decode (dsCd m) pc = .ok (ins, len)) (hl : dsTs ins = true ∨ len = dsLn ins)
    (hp : (∃ i, ins = .getfield i) ∨ ins = .iaload ∨ ins = .baload ∨ ins = .laload ∨ ins = .aaload ∨ ins = .arraylength)
    {call : Nat → List dsV → dsMem → dsQT → Prop} (h : dsI m pc ins ls st u M call (fun pc' ls' st' u' M' => dsSem E l m pc' ls' st' u' M' Q) Q) : dsSem E l m pc ls st u M Q := by
  intro p e R s mid args below meth c H locs arr Z hX hR hS hL hG hu hZ
  have go : ∀ (pc' : Nat) (ls' st' : List dsV) (arr' : Array Slot), dsSem E l m pc' ls' st' u M Q → dsLR E arr' (dsMx m) ls' → dsGs st' → W p l e R s mid args below meth c H locs u.1 u.2 Z (F0 mid pc' arr' (st'.map (dsVal E))) := fun pc' ls' st' arr' k a b => k p e R s mid args below meth c H locs arr' Z hX hR hS a b hu hZ
  obtain ⟨hx, hb, hml, hown, hts, hnm, ⟨hrf, hrl, hrc, hrs⟩, hev⟩ := id hX
  obtain ⟨n, hn, hsz, hP, hgd, hsc⟩ := id hR
  rcases hp with ⟨i, rfl⟩ | rfl | rfl | rfl | rfl | rfl
  · obtain rfl : len = 3 := hl.resolve_left (fun q => by cases q)
    simp only [dsI] at h
    split at h
    · rename_i cc k z hk
      split at h
      · rename_i a r
        obtain ⟨hMa, h⟩ := h
        have hF := dsOkF_ok _ _ (dsLk_in hk)
        obtain ⟨q, rfl, hq, hok⟩ := hgd.o hF.1.1 hMa
        have he := dsWl_get E M hq
        rw [dsEt_o E hF.1.1 hMa] at he
        show W p l e R s mid args below meth c H locs u.1 u.2 Z (F0 mid pc arr (dsRf E (q : Int) :: r.map (dsVal E)))
        rw [dsRf_at]
        exact va_get (D := eG E) (ci := cc) (C := dsR cc) (T := dsT cc) (N := dsN cc) hx hb hts (dsLay hF.1.1) hown hev.1 hP q he (dsVw hF.1.1) k hF.1.2 (hts _ hF.2) (fun _ h9 => h9) (dsFs_get E _ hF.1.2) hd (go _ _ _ arr h hL ⟨dsOk_g (hok k hF.1.2), hG.2⟩)
      · exact h.elim
    · exact h.elim
  · obtain rfl : len = 1 := hl.resolve_left (fun q => by cases q)
    simp only [dsI] at h
    split at h
    · rename_i i a r
      obtain ⟨⟨hMa, h0, h1⟩, h⟩ := h
      obtain ⟨q, ln, rfl, hq, hln, hlt, hok⟩ := hgd.a (k := 0) (by omega) hMa
      have he := dsWl_get E M hq
      rw [dsEt_a E (k := 0) hMa hln] at he
      show W p l e R s mid args below meth c H locs u.1 u.2 Z (F0 mid pc arr (.int (Int32.ofInt i) :: dsRf E (q : Int) :: r.map (dsVal E)))
      rw [dsRf_at]
      have hok := hok i.toNat (by omega)
      rw [show ((i.toNat : Nat) : Int) = i by omega] at hok
      have k := go _ _ _ arr h hL ⟨hok, hG.2.2⟩
      refine va_iald hx hb hev.1 hP q 0 (f := fun j => Int32.ofInt (M q j)) he (dsTy_get E (k := 0) (by omega)) (ds_in h0 (by omega) (by omega)) hd ?_
      rw [ds_idx h0 (by omega)]
      exact k
    · rename_i i r
      obtain ⟨⟨h0, h1⟩, h⟩ := h
      obtain ⟨hs1, hs2, hs3⟩ := hsc
      have e3 := hs3 i.toNat (by omega)
      rw [show ((i.toNat : Nat) : Int) = i by omega] at e3
      have k := go _ _ _ arr h hL ⟨by rw [e3]; exact ds_r32 _, hG.2.2⟩
      have hlS : eS E < s.heap.size := Nat.lt_of_lt_of_le hev.2.2.2.2.1.2 hev.2.2.2.2.2
      refine va_sld (A := dsOwn E) hx hb hev.2.2.2.2.1.1 hlS (Nat.not_le.mpr hev.2.2.2.2.1.2) hS (ds_in h0 (by omega) (by omega)) hd ?_
      rw [ds_nat32 h0 (by omega)]
      have e4 : dsVal E (vI (M (-2) i)) = .int (eX E i.toNat) := by
        show Value.int _ = _
        rw [e3, ds_o32]
      rw [List.map_cons, e4] at k
      exact k
    · exact h.elim
  · obtain rfl : len = 1 := hl.resolve_left (fun q => by cases q)
    simp only [dsI] at h
    split at h
    · rename_i i a r
      obtain ⟨⟨hMa, h0, h1⟩, h⟩ := h
      rcases hMa with hMa | hMa
      · obtain ⟨q, ln, rfl, hq, hln, hlt, hok⟩ := hgd.a (k := 1) (by omega) hMa
        have he := dsWl_get E M hq
        rw [dsEt_a E (k := 1) hMa hln] at he
        show W p l e R s mid args below meth c H locs u.1 u.2 Z (F0 mid pc arr (.int (Int32.ofInt i) :: dsRf E (q : Int) :: r.map (dsVal E)))
        rw [dsRf_at]
        have hok : -128 ≤ M q (i.toNat : Nat) ∧ M q (i.toNat : Nat) ≤ 127 := hok i.toNat (by omega)
        rw [show ((i.toNat : Nat) : Int) = i by omega] at hok
        have k := go _ _ _ arr h hL ⟨⟨by omega, by omega⟩, hG.2.2⟩
        refine va_bald hx hb hev.1 hP q 1 (f := fun j => Int32.ofInt (M q j)) he (dsTy_get E (k := 1) (by omega)) (ds_in h0 (by omega) (by omega)) hd ?_
        rw [ds_idx h0 (by omega)]
        exact k
      · obtain ⟨q, ln, rfl, hq, hln, hlt, hok⟩ := hgd.a (k := 2) (by omega) hMa
        have he := dsWl_get E M hq
        rw [dsEt_a E (k := 2) hMa hln] at he
        show W p l e R s mid args below meth c H locs u.1 u.2 Z (F0 mid pc arr (.int (Int32.ofInt i) :: dsRf E (q : Int) :: r.map (dsVal E)))
        rw [dsRf_at]
        have hok : M q (i.toNat : Nat) = 0 ∨ M q (i.toNat : Nat) = 1 := hok i.toNat (by omega)
        rw [show ((i.toNat : Nat) : Int) = i by omega] at hok
        have k := go _ _ _ arr h hL ⟨⟨by omega, by omega⟩, hG.2.2⟩
        refine va_zald hx hb hev.1 hP q 2 (f := fun j => Int32.ofInt (M q j)) he (dsTy_get E (k := 2) (by omega)) (ds_in h0 (by omega) (by omega)) hd ?_
        rw [ds_idx h0 (by omega)]
        exact k
    · exact h.elim
  · obtain rfl : len = 1 := hl.resolve_left (fun q => by cases q)
    simp only [dsI] at h
    split at h
    · rename_i i a r
      obtain ⟨⟨hMa, h0, h1⟩, h⟩ := h
      obtain ⟨q, ln, rfl, hq, hln, hlt, hok⟩ := hgd.a (k := 3) (by omega) hMa
      have he := dsWl_get E M hq
      rw [dsEt_a E (k := 3) hMa hln] at he
      show W p l e R s mid args below meth c H locs u.1 u.2 Z (F0 mid pc arr (.int (Int32.ofInt i) :: dsRf E (q : Int) :: r.map (dsVal E)))
      rw [dsRf_at]
      have hok := hok i.toNat (by omega)
      rw [show ((i.toNat : Nat) : Int) = i by omega] at hok
      have k := go _ _ _ arr h hL ⟨hok, hG.2.2⟩
      refine va_lald hx hb hev.1 hP q 3 (f := fun j => Int64.ofInt (M q j)) he (dsTy_get E (k := 3) (by omega)) (ds_in h0 (by omega) (by omega)) hd ?_
      rw [ds_idx h0 (by omega)]
      exact k
    · exact h.elim
  · obtain rfl : len = 1 := hl.resolve_left (fun q => by cases q)
    simp only [dsI] at h
    split at h
    · rename_i i a r
      obtain ⟨⟨hMa, h0, h1⟩, h⟩ := h
      have k := go _ _ _ arr h hL ⟨trivial, hG.2.2⟩
      rcases hMa with hMa | hMa
      · obtain ⟨q, ln, rfl, hq, hln, hlt, hok⟩ := hgd.a (k := 4) (by omega) hMa
        have he := dsWl_get E M hq
        rw [dsEt_a E (k := 4) hMa hln] at he
        show W p l e R s mid args below meth c H locs u.1 u.2 Z (F0 mid pc arr (.int (Int32.ofInt i) :: dsRf E (q : Int) :: r.map (dsVal E)))
        rw [dsRf_at]
        refine va_aldq hx hb hev.1 hP q 4 (f := fun j => dsOq E (M q j)) he (dsTy_get E (k := 4) (by omega)) (ds_in h0 (by omega) (by omega)) hd ?_
        rw [ds_idx h0 (by omega), dsOq_rf]
        exact k
      · obtain ⟨q, ln, rfl, hq, hln, hlt, hok⟩ := hgd.a (k := 5) (by omega) hMa
        have he := dsWl_get E M hq
        rw [dsEt_a E (k := 5) hMa hln] at he
        show W p l e R s mid args below meth c H locs u.1 u.2 Z (F0 mid pc arr (.int (Int32.ofInt i) :: dsRf E (q : Int) :: r.map (dsVal E)))
        rw [dsRf_at]
        refine va_aldq hx hb hev.1 hP q 5 (f := fun j => dsOq E (M q j)) he (dsTy_get E (k := 5) (by omega)) (ds_in h0 (by omega) (by omega)) hd ?_
        rw [ds_idx h0 (by omega), dsOq_rf]
        exact k
    · exact h.elim
  · obtain rfl : len = 1 := hl.resolve_left (fun q => by cases q)
    simp only [dsI] at h
    split at h
    · rename_i a r
      obtain ⟨hMa, h⟩ := h
      obtain ⟨q, ln, rfl, hq, hln, hlt, hok⟩ := hgd.a (k := 0) (by omega) hMa
      have he := dsWl_get E M hq
      rw [dsEt_a E (k := 0) hMa hln] at he
      show W p l e R s mid args below meth c H locs u.1 u.2 Z (F0 mid pc arr (dsRf E (q : Int) :: r.map (dsVal E)))
      rw [dsRf_at]
      have k := go _ _ _ arr h hL ⟨⟨by omega, by omega⟩, hG.2⟩
      refine va_alen hx hb hev.1 hP q 0 he (dsTy_get E (k := 0) (by omega)) (v := Int32.ofInt (M q (-2))) (by rw [hln]; rfl) hd ?_
      exact k
    · rename_i r
      obtain ⟨hs1, hs2, hs3⟩ := hsc
      have k := go _ _ _ arr h hL ⟨⟨by omega, by omega⟩, hG.2⟩
      have hlS : eS E < s.heap.size := Nat.lt_of_lt_of_le hev.2.2.2.2.1.2 hev.2.2.2.2.2
      refine va_slen (A := dsOwn E) hx hb hev.2.2.2.2.1.1 hlS (Nat.not_le.mpr hev.2.2.2.2.1.2) hS hd ?_
      rw [List.map_cons, hs1] at k
      exact k
    · exact h.elim
