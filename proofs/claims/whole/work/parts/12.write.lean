/-! instructions that write the heap -/
theorem dsPv_inv {E : dsE} {t : FieldType} {v : dsV} {K : Int → Prop} (h : dsPv t v K) (hg : dsGv v) : ∃ x, v = dsMk t x ∧ K x ∧ dsOk t x ∧ narrow t (dsVal E v) = dsVal E v ∧ fits t (dsVal E v) = true := by
  cases t with
  | long =>
    simp only [dsPv] at h
    split at h
    · exact ⟨_, rfl, h, hg, rfl, rfl⟩
    · exact h.elim
  | int =>
    simp only [dsPv] at h
    split at h
    · exact ⟨_, rfl, h, hg, rfl, rfl⟩
    · exact h.elim
  | boolean =>
    simp only [dsPv] at h
    split at h
    · refine ⟨_, rfl, h.2, h.1, ?_, ?_⟩
      · exact ds_narB h.1
      · rcases h.1 with q | q <;> subst q <;> rfl
    · exact h.elim
  | object n =>
    simp only [dsPv] at h
    split at h
    · refine ⟨_, rfl, h, trivial, ?_, ?_⟩
      · simp only [dsVal, dsRf]; split <;> rfl
      · simp only [dsVal, dsRf]; split <;> rfl
    · exact h.elim
  | array n =>
    simp only [dsPv] at h
    split at h
    · refine ⟨_, rfl, h, trivial, ?_, ?_⟩
      · simp only [dsVal, dsRf]; split <;> rfl
      · simp only [dsVal, dsRf]; split <;> rfl
    · exact h.elim
  | _ => exact h.elim
theorem dsRel_set {E : dsE} {M : dsMem} {H H1 : Heap} {n q : Nat} {i x : Int} (hn : M (-1) 0 = n) (hsz : H.size = eB E + n) (hP : va_P (eG E) vwCl (dsWl E M n) H) (hgd : dsGd (dsSet M q i x) n) (hsc : dsSc E M) (hq : q < n)
    (hat : va_at (eG E) vwCl (eB E + q, dsEt E (dsSet M q i x q)) H1) (z : H1.size = H.size) (oq : ∀ r, r ≠ eB E + q → H1[r]? = H[r]?) : dsRel E (dsSet M q i x) H1 := by
  refine ⟨n, by rw [dsSet_ne (by omega)]; exact hn, by rw [z, hsz], ?_, hgd, hsc.set (by omega)⟩
  rw [dsWl_set E hq (fun b hb => dsSet_ne (by omega)) rfl]
  exact hP.set (dsWl_D E M n) (dsWl_get E M hq) hat oq
theorem dsAd_set (E : dsE) {M : dsMem} {q : Nat} {i x : Int} (h0 : 0 ≤ i) (k len : Nat) (h1 : M q (-1) = 100 + k) (h2 : M q (-2) = len) : dsEt E (dsSet M q i x q) = .inl (eA E k, (len, dsAd E (dsSet M q i x q) k)) :=
  dsEt_a E (by rw [dsSet_at, if_neg (by omega)]; exact h1) (by rw [dsSet_at, if_neg (by omega)]; exact h2)
theorem ds_up {α : Type} (g : Int → α) {M : dsMem} {q : Nat} {i x : Int} (h0 : 0 ≤ i) (h1 : i < 2147483648) : (fun j : Nat => g (dsSet M q i x q j)) = fun j : Nat => if j = (Int32.ofInt i).toNatClampNeg then g x else g (M q j) := by
  funext j
  rw [dsSet_at, ds_nat32 h0 h1]
  by_cases hj : (j : Int) = i
  · rw [if_pos hj, if_pos (by omega)]
  · rw [if_neg hj, if_neg (by omega)]
set_option maxHeartbeats 4000000 in
theorem ds_write {E : dsE} {l : Launch} {m pc : Nat} {ls st : List dsV} {u : Nat × Nat} {M : dsMem} {Q : dsQT} {ins : Instr} {len : Nat} (hd : decode (dsCd m) pc = .ok (ins, len)) (hl : dsTs ins = true ∨ len = dsLn ins)
    (hp : (∃ i, ins = .putfield i) ∨ ins = .iastore ∨ ins = .bastore ∨ ins = .lastore ∨ ins = .aastore)
    {call : Nat → List dsV → dsMem → dsQT → Prop} (h : dsI m pc ins ls st u M call (fun pc' ls' st' u' M' => dsSem E l m pc' ls' st' u' M' Q) Q) : dsSem E l m pc ls st u M Q := by
  intro p e R s mid args below meth c H locs arr Z hX hR hS hL hG hu hZ
  have go : ∀ (pc' : Nat) (st' : List dsV) (M' : dsMem) (H' : Heap) (locs' : List Loc), dsSem E l m pc' ls st' u M' Q → dsRel E M' H' → va_S (dsOwn E) s.heap H' locs' → dsGs st' → W p l e R s mid args below meth c H' locs' u.1 u.2 Z (F0 mid pc' arr (st'.map (dsVal E))) := fun pc' st' M' H' locs' k a a2 b => k p e R s mid args below meth c H' locs' arr Z hX a a2 hL b hu hZ
  obtain ⟨hx, hb, hml, hown, hts, hnm, ⟨hrf, hrl, hrc, hrs⟩, hev⟩ := id hX
  obtain ⟨n, hn, hsz, hP, hgd, hsc⟩ := id hR
  have hO : ∀ q : Nat, dsOwn E (eB E + q) := fun q => Nat.le_add_right _ _
  rcases hp with ⟨i, rfl⟩ | rfl | rfl | rfl | rfl
  · obtain rfl : len = 3 := hl.resolve_left (fun q => by cases q)
    simp only [dsI] at h
    split at h
    · rename_i cc k z hk
      split at h
      · rename_i v a r
        split at h
        · rename_i hfin
          obtain ⟨hMa, h⟩ := h
          have hF := dsOkF_ok _ _ (dsLk_in hk)
          have hc : cc < 10 := hF.1.1
          have hkN : k < dsN cc := hF.1.2
          obtain ⟨q, rfl, hq, hok⟩ := hgd.o hc hMa
          obtain ⟨x, rfl, h, hxo, hnar, hfit⟩ := dsPv_inv (E := E) h hG.1
          have he := dsWl_get E M hq
          rw [dsEt_o E hc hMa] at he
          have hap := va_apart (own := dsR (dsCl m)) hts (dsLay hc) (dsY cc) (dsYok hc) (dsNmk hc) hev.1 (dsVw hc)
          obtain ⟨r0, h1, cell, q1, q2, q3, q4⟩ := hP q _ he
          obtain rfl : r0 = (dsR cc, dsT cc, dsN cc) := Option.some.inj (h1.symm.trans (dsVw hc))
          obtain ⟨hSl, hfc, kC, hkC, hkind⟩ := hev.1.1 cc _ (dsVw hc)
          obtain ⟨cf, kf, fi, f, hi, hsl⟩ := hSl k hkN
          have hlay := hts _ (dsLay hc _ (u_in_lay hkN))
          unfold u_lay at hlay
          show W p l e R s mid args below meth c H locs u.1 u.2 Z (F0 mid pc arr (dsVal E (dsMk (dsY cc k) x) :: dsRf E (q : Int) :: r.map (dsVal E)))
          rw [dsRf_at]
          have fin : ∀ H' : Heap, H'[eB E + q]? = some (cell.setSlot f.slot (dsVal E (dsMk (dsY cc k) x))) → H'.size = H.size → (∀ w, w ≠ eB E + q → H'[w]? = H[w]?) → W p l e R s mid args below meth c H' (locs ++ [⟨eB E + q, f.slot⟩]) u.1 u.2 Z (F0 mid (pc + 3) arr (r.map (dsVal E))) := by
            intro H' e1 e2 e3
            refine go _ _ _ H' _ h (dsRel_set hn hsz hP (hgd.setO hq hc hMa hkN hxo) hsc hq ?_ e2 e3) (hS.put e2 e3 (hO q)) hG.2.2
            rw [dsEt_o E hc (by rw [dsSet_at, if_neg (by omega)]; exact hMa), dsFs_set E (r := M q) (v := dsVal E (dsMk (dsY cc k) x)) hkN (fun j hj => by rw [dsSet_at, if_neg (by omega)]) (by rw [dsSet_at, if_pos rfl])]
            rw [hsl] at e1
            exact ⟨_, dsVw hc, t_OB.to (V := updV (vp_V (dsFs E (M q) cc)) k (dsVal E (dsMk (dsY cc k) x))) ⟨_, e1, q2, q3, t_set q4 hap hkN _⟩ (fun j _ => vp_updV_set (by rw [dsFs_len]; exact hkN) _ j)⟩
          by_cases hf : (dsT cc k).2.2.2 = false
          · rw [if_neg (by rw [hf]; decide)] at hlay
            exact W.putK hx hb (f := f) ⟨hown, hts _ hF.2, ⟨_, _, _, hi⟩, (u_facts hfc hkC (Or.inl hlay) hi).1⟩ (by rw [q2]; exact u_store hfc hkC hkind hlay hi (dsYok hc k hkN) hnar hfit) q1 q3 (by rw [hsl]; exact k2_hasslot (q4 k hkN)) rfl rfl hd fin
          · obtain ⟨hk2, hcl⟩ := hfin.resolve_left hf
            have hf1 : (dsT cc k).2.2.2 = true := by simpa using hf
            rw [if_pos hf1] at hlay
            have hcf : mid.cls = cf := by
              obtain ⟨_, _, c', _, _, _, -, -, hf', -, -, -, hown2, -⟩ := Cond.laysFinal_spec hlay
              have e1 : c' = cf := by have := hi.symm.trans hf'; simp at this; exact this.1.symm
              have hdecl : (dsT cc k).1 = dsR (dsCl m) := by rw [hcl]; exact dsDecl hc hkN
              rw [hdecl] at hown2
              rw [← e1]; exact Option.some.inj (hown.symm.trans hown2)
            exact W.putFinK hx hb hown (hts _ hF.2) hi (u_facts hfc hkC (Or.inr hlay) hi).1 hcf (hnm hk2) (by rw [q2]; exact u_fits hfc hkC hkind (Or.inr hlay) hi (dsYok hc k hkN) hnar hfit) q1 q3 (by rw [hsl]; exact k2_hasslot (q4 k hkN)) rfl rfl hd fin
        · exact h.elim
      · exact h.elim
    · exact h.elim
  · obtain rfl : len = 1 := hl.resolve_left (fun q => by cases q)
    simp only [dsI] at h
    split at h
    · rename_i x i a r
      obtain ⟨⟨hMa, h0, h1⟩, h⟩ := h
      obtain ⟨q, ln, rfl, hq, hln, hlt, hok⟩ := hgd.a (k := 0) (by omega) hMa
      have he := dsWl_get E M hq
      rw [dsEt_a E (k := 0) hMa hln] at he
      show W p l e R s mid args below meth c H locs u.1 u.2 Z (F0 mid pc arr (.int (Int32.ofInt x) :: .int (Int32.ofInt i) :: dsRf E (q : Int) :: r.map (dsVal E)))
      rw [dsRf_at]
      have hin := ds_in (n := ln) h0 (by omega) (by omega)
      refine W.iast hx hb (hP q _ he) ((hev.1.2 0 _ (dsTy_get E (k := 0) (by omega))).1 ln (fun j => .int (Int32.ofInt (M q j)))) (fun q => by cases q) (by show ¬ (_ ∨ (arrV _ _ _).slots.size ≤ _); rw [arrV_size]; exact hin) rfl rfl hd fun H1 e1 e2 e3 => ?_
      refine go _ _ _ H1 _ h (dsRel_set hn hsz hP (by have := hgd.setA (k := 0) (i := i.toNat) (x := x) hq (by omega) hMa hln (by omega) hG.1; rwa [show ((i.toNat : Nat) : Int) = i by omega] at this) hsc hq ?_ e2 e3) (hS.put e2 e3 (hO q)) hG.2.2.2
      rw [dsAd_set E h0 0 ln hMa hln]
      show H1[eB E + q]? = some (vp_cell (eA E 0) (ln, .inl fun j : Nat => Int32.ofInt (dsSet M q i x q j)))
      rw [ds_up Int32.ofInt h0 (by omega), e1]
      congr 1
      show (arrV _ _ _).setSlot _ _ = _
      rw [vp_cell_i, arrV_store]
      congr 1
      funext j
      unfold updV
      split <;> rfl
    · exact h.elim
  · obtain rfl : len = 1 := hl.resolve_left (fun q => by cases q)
    simp only [dsI] at h
    split at h
    · rename_i x i a r
      obtain ⟨⟨hMa, h0, h1⟩, h⟩ := h
      rcases hMa with ⟨hMa, hb1, hb2⟩ | ⟨hMa, hb1⟩
      · obtain ⟨q, ln, rfl, hq, hln, hlt, hok⟩ := hgd.a (k := 1) (by omega) hMa
        have he := dsWl_get E M hq
        rw [dsEt_a E (k := 1) hMa hln] at he
        show W p l e R s mid args below meth c H locs u.1 u.2 Z (F0 mid pc arr (.int (Int32.ofInt x) :: .int (Int32.ofInt i) :: dsRf E (q : Int) :: r.map (dsVal E)))
        rw [dsRf_at]
        have hin := ds_in (n := ln) h0 (by omega) (by omega)
        have hnb : narrow .byte (.int (Int32.ofInt x)) = .int (Int32.ofInt x) := by
          show Value.int _ = _
          congr 1
          rw [← Int32.toInt_inj, Int8.toInt_toInt32, Int32.toInt_toInt8, ds_t32 (by omega) (by omega)]
          exact Int.bmod_eq_of_le_mul_two (by omega) (by omega)
        refine W.bast hx hb (hP q _ he) ((hev.1.2 1 _ (dsTy_get E (k := 1) (by omega))).1 ln (fun j => .int (Int32.ofInt (M q j)))) (fun q => by cases q) (by show ¬ (_ ∨ (arrV _ _ _).slots.size ≤ _); rw [arrV_size]; exact hin) rfl rfl hd fun H1 e1 e2 e3 => ?_
        refine go _ _ _ H1 _ h (dsRel_set hn hsz hP (by have := hgd.setA (k := 1) (i := i.toNat) (x := x) hq (by omega) hMa hln (by omega) ⟨hb1, hb2⟩; rwa [show ((i.toNat : Nat) : Int) = i by omega] at this) hsc hq ?_ e2 e3) (hS.put e2 e3 (hO q)) hG.2.2.2
        rw [dsAd_set E h0 1 ln hMa hln]
        show H1[eB E + q]? = some (vp_cell (eA E 1) (ln, .inl fun j : Nat => Int32.ofInt (dsSet M q i x q j)))
        rw [ds_up Int32.ofInt h0 (by omega), e1, hnb]
        congr 1
        show (arrV _ _ _).setSlot _ _ = _
        rw [vp_cell_i, arrV_store]
        congr 1
        funext j
        unfold updV
        split <;> rfl
      · obtain ⟨q, ln, rfl, hq, hln, hlt, hok⟩ := hgd.a (k := 2) (by omega) hMa
        have he := dsWl_get E M hq
        rw [dsEt_a E (k := 2) hMa hln] at he
        show W p l e R s mid args below meth c H locs u.1 u.2 Z (F0 mid pc arr (.int (Int32.ofInt x) :: .int (Int32.ofInt i) :: dsRf E (q : Int) :: r.map (dsVal E)))
        rw [dsRf_at]
        have hin := ds_in (n := ln) h0 (by omega) (by omega)
        refine W.zast hx hb (hP q _ he) ((hev.1.2 2 _ (dsTy_get E (k := 2) (by omega))).1 ln (fun j => .int (Int32.ofInt (M q j)))) (fun q => by cases q) (by show ¬ (_ ∨ (arrV _ _ _).slots.size ≤ _); rw [arrV_size]; exact hin) rfl rfl hd fun H1 e1 e2 e3 => ?_
        refine go _ _ _ H1 _ h (dsRel_set hn hsz hP (by have := hgd.setA (k := 2) (i := i.toNat) (x := x) hq (by omega) hMa hln (by omega) hb1; rwa [show ((i.toNat : Nat) : Int) = i by omega] at this) hsc hq ?_ e2 e3) (hS.put e2 e3 (hO q)) hG.2.2.2
        rw [dsAd_set E h0 2 ln hMa hln]
        show H1[eB E + q]? = some (vp_cell (eA E 2) (ln, .inl fun j : Nat => Int32.ofInt (dsSet M q i x q j)))
        rw [ds_up Int32.ofInt h0 (by omega), e1, ds_narB hb1]
        congr 1
        show (arrV _ _ _).setSlot _ _ = _
        rw [vp_cell_i, arrV_store]
        congr 1
        funext j
        unfold updV
        split <;> rfl
    · exact h.elim
  · obtain rfl : len = 1 := hl.resolve_left (fun q => by cases q)
    simp only [dsI] at h
    split at h
    · rename_i x i a r
      obtain ⟨⟨hMa, h0, h1⟩, h⟩ := h
      obtain ⟨q, ln, rfl, hq, hln, hlt, hok⟩ := hgd.a (k := 3) (by omega) hMa
      have he := dsWl_get E M hq
      rw [dsEt_a E (k := 3) hMa hln] at he
      show W p l e R s mid args below meth c H locs u.1 u.2 Z (F0 mid pc arr (.long (Int64.ofInt x) :: .int (Int32.ofInt i) :: dsRf E (q : Int) :: r.map (dsVal E)))
      rw [dsRf_at]
      have hin := ds_in (n := ln) h0 (by omega) (by omega)
      refine W.last hx hb (hP q _ he) ((hev.1.2 3 _ (dsTy_get E (k := 3) (by omega))).1 ln (fun j => .long (Int64.ofInt (M q j)))) (fun q => by cases q) (by show ¬ (_ ∨ (arrV _ _ _).slots.size ≤ _); rw [arrV_size]; exact hin) rfl rfl hd fun H1 e1 e2 e3 => ?_
      refine go _ _ _ H1 _ h (dsRel_set hn hsz hP (by have := hgd.setA (k := 3) (i := i.toNat) (x := x) hq (by omega) hMa hln (by omega) hG.1; rwa [show ((i.toNat : Nat) : Int) = i by omega] at this) hsc hq ?_ e2 e3) (hS.put e2 e3 (hO q)) hG.2.2.2
      rw [dsAd_set E h0 3 ln hMa hln]
      show H1[eB E + q]? = some (vp_cell (eA E 3) (ln, .inr (.inl fun j : Nat => Int64.ofInt (dsSet M q i x q j))))
      rw [ds_up Int64.ofInt h0 (by omega), e1]
      congr 1
      show (arrV _ _ _).setSlot _ _ = _
      rw [vp_cell_l, arrV_store]
      congr 1
      funext j
      unfold updV
      split <;> rfl
    · exact h.elim
  · obtain rfl : len = 1 := hl.resolve_left (fun q => by cases q)
    simp only [dsI] at h
    split at h
    · rename_i x i a r
      obtain ⟨⟨hMa, h0, h1⟩, h⟩ := h
      have key : ∀ (k cv : Nat), (k = 4 ∧ cv = 7 ∨ k = 5 ∧ cv = 5) → M a (-1) = 100 + (k : Int) → M x (-1) = (cv : Int) → W p l e R s mid args below meth c H locs u.1 u.2 Z (F0 mid pc arr (dsVal E (vR x) :: .int (Int32.ofInt i) :: dsVal E (vR a) :: r.map (dsVal E))) := by
        intro k cv hkc hMk hMx
        obtain ⟨q, ln, rfl, hq, hln, hlt, hok⟩ := hgd.a (k := k) (by omega) hMk
        obtain ⟨qx, rfl, hqx, -⟩ := hgd.o (c := cv) (by omega) hMx
        have he := dsWl_get E M hq
        rw [dsEt_a E (k := k) hMk hln] at he
        have hex := dsWl_get E M hqx
        rw [dsEt_o E (c := cv) (by omega) hMx] at hex
        show W p l e R s mid args below meth c H locs u.1 u.2 Z (F0 mid pc arr (dsRf E (qx : Int) :: .int (Int32.ofInt i) :: dsRf E (q : Int) :: r.map (dsVal E)))
        rw [dsRf_at, dsRf_at]
        have hin := ds_in (n := ln) h0 (by omega) (by omega)
        have hda : dsAd E (M q) k = .inr (.inr (.inr (.inr (fun j : Nat => dsOq E (M q j))))) := by
          rcases hkc with ⟨rfl, -⟩ | ⟨rfl, -⟩ <;> rfl
        rw [hda] at he
        have hel : dsEl k = .object (dsR cv) := by
          rcases hkc with ⟨rfl, rfl⟩ | ⟨rfl, rfl⟩ <;> rfl
        have ht := dsTy_get E (k := k) (by omega)
        rw [hel] at ht
        have hlti : (Int32.ofInt i).toNatClampNeg < ln := Nat.not_le.mp fun w => hin (Or.inr w)
        have hi0 : ¬ Int32.ofInt i < 0 := fun w => hin (Or.inl w)
        obtain ⟨r', hr', cellV, g1, g2, g3, -⟩ := hP qx _ hex
        have hcls := (hev.1.1 cv _ (dsVw (c := cv) (by omega))).2
        obtain ⟨kA, comp, k1, k2, k3, -⟩ := (hev.1.2 k _ ht).2
        have hcomp : comp = (eG E).1 cv := Option.some.inj (k3.symm.trans hcls.1)
        subst hcomp
        obtain ⟨kC, hkC, -⟩ := hcls.2
        refine W.aast hx hb (hP q _ he) (fun w h => by cases h) (fun h => by cases h) k1 k2 rfl hkC ⟨hi0, by show _ < (arrV _ _ _).slots.size; rw [arrV_size]; exact hlti⟩ g1 (fun w h => by rw [g3] at h; cases h) (by rw [g2]; exact hkC) (by rw [g2]; exact va_assign hcls) rfl rfl hd fun H1 e1 e2 e3 => ?_
        refine go _ _ _ H1 _ h (dsRel_set hn hsz hP (by have := hgd.setA (k := k) (i := i.toNat) (x := qx) hq (by omega) hMk hln (by omega) (by rw [hel]; trivial); rwa [show ((i.toNat : Nat) : Int) = i by omega] at this) hsc hq ?_ e2 e3) (hS.put e2 e3 (hO q)) hG.2.2.2
        rw [dsAd_set E h0 k ln hMk hln]
        have hda2 : dsAd E (dsSet M q i qx q) k = .inr (.inr (.inr (.inr (fun j : Nat => dsOq E (dsSet M q i qx q j))))) := by
          rcases hkc with ⟨rfl, -⟩ | ⟨rfl, -⟩ <;> rfl
        rw [hda2]
        show H1[eB E + q]? = some (vp_cell (eA E k) (ln, .inr (.inr (.inr (.inr (fun j : Nat => dsOq E (dsSet M q i qx q j)))))))
        rw [ds_up (dsOq E) h0 (by omega), e1]
        congr 1
        show (arrV _ _ _).setSlot _ _ = _
        rw [vp_cell_q, arrV_store]
        congr 1
        funext j
        unfold updV
        split
        · rw [dsOq_rf, dsRf_at]
        · rfl
      rcases hMa with ⟨hMa, hMx⟩ | ⟨hMa, hMx⟩
      · exact key 4 7 (Or.inl ⟨rfl, rfl⟩) hMa hMx
      · exact key 5 5 (Or.inr ⟨rfl, rfl⟩) hMa hMx
    · exact h.elim
