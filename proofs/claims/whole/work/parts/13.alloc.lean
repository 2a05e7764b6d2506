/-! instructions that make cells -/
theorem dsRel_new {E : dsE} {M M' : dsMem} {H H1 : Heap} {n : Nat} (hsz : H.size = eB E + n) (hP : va_P (eG E) vwCl (dsWl E M n) H) (hgd : dsGd M' (n + 1)) (hsc : dsSc E M') (hn' : M' (-1) 0 = (n : Int) + 1) (ho : ∀ b : Nat, b < n → M' b = M b)
    (hat : va_at (eG E) vwCl (eB E + n, dsEt E (M' n)) H1) (z : H1.size = H.size + 1) (o : ∀ q, q < H.size → H1[q]? = H[q]?) : dsRel E M' H1 := by
  refine ⟨n + 1, by rw [hn']; omega, by rw [z, hsz]; omega, ?_, hgd, hsc⟩
  rw [dsWl_push E ho rfl]
  refine (hP.kept (fun k q hk => o q.1 ((hP k q hk).lt))).app (fun k q hk => ?_)
  have hz : k < 1 := (List.getElem?_eq_some_iff.mp hk).1
  rw [show k = 0 by omega] at hk
  cases hk
  exact hat
theorem dsS_new {E : dsE} {s : State} {H H1 : Heap} {locs : List Loc} (hS : va_S (dsOwn E) s.heap H locs) (z : H1.size = H.size + 1) (o : ∀ q, q < H.size → H1[q]? = H[q]?) : va_S (dsOwn E) s.heap H1 locs :=
  ⟨Nat.le_trans hS.1 (by omega), fun q h1 h2 => (o q (Nat.lt_of_lt_of_le h1 hS.1)).trans (hS.2.1 q h1 h2), hS.2.2⟩
theorem dsNew_ne {M : dsMem} {n : Nat} (hn : M (-1) 0 = n) {kd len d : Int} {b : Int} (h1 : b ≠ n) (h2 : b ≠ -1) : dsNew M kd len d b = M b := by
  funext i
  unfold dsNew
  rw [if_neg (by rw [hn]; exact h1), if_neg (fun q => h2 q.1)]
theorem dsNew_at {M : dsMem} {n : Nat} (hn : M (-1) 0 = n) {kd len d : Int} (i : Int) : dsNew M kd len d n i = if i = -1 then kd else if i = -2 then len else d := by
  unfold dsNew
  rw [if_pos hn.symm]
theorem dsNewO_ne {M : dsMem} {n : Nat} (hn : M (-1) 0 = n) {c : Nat} {b : Int} (h1 : b ≠ n) (h2 : b ≠ -1) : dsNewO M c b = M b := by
  funext i
  unfold dsNewO
  rw [if_neg (by rw [hn]; exact h1), if_neg (fun q => h2 q.1)]
theorem dsNewO_at {M : dsMem} {n : Nat} (hn : M (-1) 0 = n) {c : Nat} (i : Int) : dsNewO M c n i = if i = -1 then (c : Int) else dsDf (dsY c i.toNat) := by
  unfold dsNewO
  rw [if_pos hn.symm]
theorem dsGd_new {M : dsMem} {n : Nat} (hn : M (-1) 0 = n) (h : dsGd M n) {k len : Nat} {d : Int} (hk : k < 6) (hl : len < 2147483648) (hd : dsOk (dsEl k) d) : dsGd (dsNew M (100 + k) len d) (n + 1) := by
  refine ⟨fun a ha => ?_, fun a ha => ?_⟩
  · by_cases e : a = -1
    · subst e
      unfold dsNew
      rw [if_neg (by omega), if_neg (by omega)]
      exact h.1 _ (by omega)
    · rw [dsNew_ne hn (by omega) e]
      exact h.1 a (by omega)
  · by_cases e : a = n
    · subst e
      right
      refine ⟨k, len, hk, by rw [dsNew_at hn, if_pos rfl], by rw [dsNew_at hn, if_neg (by omega), if_pos rfl], hl, fun i hi => ?_⟩
      rw [dsNew_at hn, if_neg (by omega), if_neg (by omega)]
      exact hd
    · rw [dsNew_ne hn (by omega) (by omega)]
      exact h.2 a (by omega)
theorem dsOk_df (t : FieldType) : dsOk t (dsDf t) := by
  cases t <;> first | exact trivial | exact Or.inl rfl | (show _ ∧ _; exact ⟨by decide, by decide⟩)
theorem dsGd_newO {M : dsMem} {n : Nat} (hn : M (-1) 0 = n) (h : dsGd M n) {c : Nat} (hc : c < 10) : dsGd (dsNewO M c) (n + 1) := by
  refine ⟨fun a ha => ?_, fun a ha => ?_⟩
  · by_cases e : a = -1
    · subst e
      unfold dsNewO
      rw [if_neg (by omega), if_neg (by omega)]
      exact h.1 _ (by omega)
    · rw [dsNewO_ne hn (by omega) e]
      exact h.1 a (by omega)
  · by_cases e : a = n
    · subst e
      left
      refine ⟨c, hc, by rw [dsNewO_at hn, if_pos rfl], fun k hk => ?_⟩
      rw [dsNewO_at hn, if_neg (by omega)]
      exact dsOk_df _
    · rw [dsNewO_ne hn (by omega) (by omega)]
      exact h.2 a (by omega)
theorem dsSc_new {E : dsE} {M : dsMem} {n : Nat} (hn : M (-1) 0 = n) (h : dsSc E M) {kd len d : Int} : dsSc E (dsNew M kd len d) := by
  unfold dsSc at *
  rw [dsNew_ne hn (by omega) (by omega)]
  exact h
theorem dsSc_newO {E : dsE} {M : dsMem} {n : Nat} (hn : M (-1) 0 = n) (h : dsSc E M) {c : Nat} : dsSc E (dsNewO M c) := by
  unfold dsSc at *
  rw [dsNewO_ne hn (by omega) (by omega)]
  exact h
def dsTk (t : FieldType) : Bool := match t with
  | .int | .long | .boolean | .object _ | .array _ => true
  | _ => false
theorem dsTk_ok : ∀ c, c < 10 → ∀ k, k < dsN c → dsTk (dsY c k) = true := by decide +kernel
theorem dsDf_v (E : dsE) {t : FieldType} (h : dsTk t = true) : dsVal E (dsMk t (dsDf t)) = defaultValue t := by
  cases t <;> first | rfl | cases h
set_option maxHeartbeats 4000000 in
theorem ds_alloc {E : dsE} {l : Launch} {m pc : Nat} {ls st : List dsV} {u : Nat × Nat} {M : dsMem} {Q : dsQT} {ins : Instr} {len : Nat} (hd : decode (dsCd m) pc = .ok (ins, len)) (hl : dsTs ins = true ∨ len = dsLn ins)
    (hp : (∃ i, ins = .new i) ∨ (∃ t, ins = .newarray t) ∨ ∃ i, ins = .anewarray i)
    {call : Nat → List dsV → dsMem → dsQT → Prop} (h : dsI m pc ins ls st u M call (fun pc' ls' st' u' M' => dsSem E l m pc' ls' st' u' M' Q) Q) : dsSem E l m pc ls st u M Q := by
  intro p e R s mid args below meth c H locs arr Z hX hR hS hL hG hu hZ
  have go : ∀ (pc' : Nat) (st' : List dsV) (u' : Nat × Nat) (M' : dsMem) (H' : Heap), dsSem E l m pc' ls st' u' M' Q → dsRel E M' H' → va_S (dsOwn E) s.heap H' locs → dsGs st' → (u'.1 ≤ dsMc m ∧ u'.2 ≤ dsMs m) → W p l e R s mid args below meth c H' locs u'.1 u'.2 Z (F0 mid pc' arr (st'.map (dsVal E))) := fun pc' st' u' M' H' k a a2 b hu' => k p e R s mid args below meth c H' locs arr Z hX a a2 hL b hu' hZ
  obtain ⟨hx, hb, hml, hown, hts, hnm, ⟨hrf, hrl, hrc, hrs⟩, hev⟩ := id hX
  obtain ⟨n, hn, hsz, hP, hgd, hsc⟩ := id hR
  have hval : dsVal E (vR (M (-1) 0)) = .ref H.size := by
    rw [hn, hsz]
    exact dsRf_at E n
  rcases hp with ⟨i, rfl⟩ | ⟨t, rfl⟩ | ⟨i, rfl⟩
  · obtain rfl : len = 3 := hl.resolve_left (fun q => by cases q)
    simp only [dsI] at h
    split at h
    · rename_i cc z hk
      obtain ⟨⟨hu1, hu2⟩, h⟩ := h
      have hC := dsOkC_ok _ _ (dsLk_in hk)
      have hc : cc < 10 := hC.1
      have hKn := hev.1.1 cc _ (dsVw hc)
      refine W.newcK hx hb hown (hts _ hC.2) (hts _ (dsInst hc).1) (hts _ (dsInst hc).2) rfl hd (by omega) (by omega) hKn.2.1 rfl fun H1 kC hkC e1 z1 o1 => ?_
      have k := go _ _ _ _ H1 h (dsRel_new (M := M) hsz hP (dsGd_newO hn hgd hc) (dsSc_newO hn hsc) (by unfold dsNewO; rw [if_neg (by omega), if_pos ⟨rfl, rfl⟩, hn]) (fun b hb => dsNewO_ne hn (by omega) (by omega)) ?_ z1 o1) (dsS_new hS z1 o1) ⟨trivial, hG⟩ ⟨hu1, hu2⟩
      · rw [List.map_cons, hval] at k
        exact k
      · rw [dsEt_o E hc (by rw [dsNewO_at hn, if_pos rfl]), ← hsz]
        refine ⟨_, dsVw hc, (u_born (dsY cc) hts (dsLay hc) hKn hkC e1 (dsYok hc)).to (fun j hj => ?_)⟩
        have hg := dsFs_get E (dsNewO M cc n) hj
        rw [dsNewO_at hn, if_neg (by omega), show ((j : Int)).toNat = j by omega, dsDf_v E (dsTk_ok cc hc j hj)] at hg
        unfold vp_V
        rw [List.getD_eq_getElem?_getD, hg]
        rfl
    · exact h.elim
  · obtain rfl : len = 2 := hl.resolve_left (fun q => by cases q)
    simp only [dsI] at h
    split at h
    · rename_i nn r
      split at h
      · exact h.elim
      · rename_i hkn
        obtain ⟨⟨hn0, hn1, hu1, hu2⟩, h⟩ := h
        have hnn : ¬ Int32.ofInt nn < 0 := by
          rw [show (0 : Int32) = Int32.ofInt 0 from rfl, ds_lt32 (by omega) (by omega)]
          omega
        have hN : (Int32.ofInt nn).toNatClampNeg = nn.toNat := ds_nat32 hn0 (by omega)
        have key : ∀ (k : Nat), k < 4 → dsKn t = 100 + (k : Int) → newarray.typeOf t = dsEl k → (Cond.arrayClass (dsEl k)).before args s = true → W p l e R s mid args below meth c H locs u.1 u.2 Z (F0 mid pc arr (.int (Int32.ofInt nn) :: r.map (dsVal E))) := by
          intro k hk4 hkt hty harr
          have hRA : s.vm.findClass ("[" ++ (dsEl k).toString) = some (eA E k) := by
            have h9 := (hev.1.2 k _ (dsTy_get E (k := k) (by omega))).2
            match k, hk4, h9 with
            | 0, _, h9 => exact h9
            | 1, _, h9 => exact h9
            | 2, _, h9 => exact h9
            | 3, _, h9 => exact h9
          have hdf : defaultValue (dsEl k) = dsVal E (dsMk (dsEl k) 0) ∧ dsOk (dsEl k) 0 := by
            match k, hk4 with
            | 0, _ => exact ⟨rfl, by show _ ∧ _; omega⟩
            | 1, _ => exact ⟨rfl, by show _ ∧ _; omega⟩
            | 2, _ => exact ⟨rfl, Or.inl rfl⟩
            | 3, _ => exact ⟨rfl, by show _ ∧ _; omega⟩
          refine va_newaK (N := nn.toNat) hx hb (by rw [hty]; exact harr) rfl hd rfl hnn hN (by rw [hty]; match k, hk4 with
            | 0, _ => show nn.toNat * 4 ≤ _; omega
            | 1, _ => show nn.toNat * 1 ≤ _; omega
            | 2, _ => show nn.toNat * 1 ≤ _; omega
            | 3, _ => show nn.toNat * 8 ≤ _; omega) (by omega) (by omega) rfl fun H1 cA e1 z1 o1 hAr hNm => ?_
          rw [hty] at hNm e1
          obtain rfl : cA = eA E k := Option.some.inj (hNm.symm.trans hRA)
          rw [hkt] at h
          have kk := go _ _ _ _ H1 h (dsRel_new (M := M) hsz hP (by have := dsGd_new (len := nn.toNat) (d := 0) (k := k) hn hgd (by omega) (by omega) hdf.2; rwa [show ((nn.toNat : Nat) : Int) = nn by omega] at this) (dsSc_new hn hsc) (by unfold dsNew; rw [if_neg (by omega), if_pos ⟨rfl, rfl⟩, hn]) (fun b hb => dsNew_ne hn (by omega) (by omega)) ?_ z1 o1) (dsS_new hS z1 o1) ⟨trivial, hG.2⟩ ⟨hu1, hu2⟩
          · rw [List.map_cons, hval] at kk
            exact kk
          · rw [dsEt_a E (k := k) (len := nn.toNat) (by rw [dsNew_at hn, if_pos rfl]) (by rw [dsNew_at hn, if_neg (by omega), if_pos rfl]; omega), ← hsz]
            show H1[H.size]? = some (vp_cell _ _)
            rw [e1]
            congr 1
            match k, hk4, hdf with
            | 0, _, hdf =>
              show _ = vp_cell _ (nn.toNat, .inl fun i : Nat => Int32.ofInt (dsNew M (100 + ((0 : Nat) : Int)) nn 0 n i))
              rw [vp_cell_i]
              congr 1
              funext i
              rw [dsNew_at hn, if_neg (by omega), if_neg (by omega)]
              rfl
            | 1, _, hdf =>
              show _ = vp_cell _ (nn.toNat, .inl fun i : Nat => Int32.ofInt (dsNew M (100 + ((1 : Nat) : Int)) nn 0 n i))
              rw [vp_cell_i]
              congr 1
              funext i
              rw [dsNew_at hn, if_neg (by omega), if_neg (by omega)]
              rfl
            | 2, _, hdf =>
              show _ = vp_cell _ (nn.toNat, .inl fun i : Nat => Int32.ofInt (dsNew M (100 + ((2 : Nat) : Int)) nn 0 n i))
              rw [vp_cell_i]
              congr 1
              funext i
              rw [dsNew_at hn, if_neg (by omega), if_neg (by omega)]
              rfl
            | 3, _, hdf =>
              show _ = vp_cell _ (nn.toNat, .inr (.inl fun i : Nat => Int64.ofInt (dsNew M (100 + ((3 : Nat) : Int)) nn 0 n i)))
              rw [vp_cell_l]
              congr 1
              funext i
              rw [dsNew_at hn, if_neg (by omega), if_neg (by omega)]
              rfl
        cases t with
        | int => exact key 0 (by omega) rfl rfl (hts _ dsArr_int)
        | byte => exact key 1 (by omega) rfl rfl (hts _ dsArr_byte)
        | boolean => exact key 2 (by omega) rfl rfl (hts _ dsArr_boolean)
        | long => exact key 3 (by omega) rfl rfl (hts _ dsArr_long)
        | _ => exact absurd rfl hkn
    · exact h.elim
  · obtain rfl : len = 3 := hl.resolve_left (fun q => by cases q)
    simp only [dsI] at h
    split at h
    · rename_i cc z hk
      have hC := dsOkC_ok _ _ (dsLk_in hk)
      split at h
      · rename_i nn r
        have key : ∀ (k : Nat), (k = 4 ∧ cc = 7 ∨ k = 5 ∧ cc = 5) → (0 ≤ nn ∧ nn ≤ 100000 ∧ u.1 + 1 ≤ dsMc m ∧ u.2 + nn.toNat ≤ dsMs m) → dsSem E l m (pc + 3) ls (vR (M (-1) 0) :: r) (u.1 + 1, u.2 + nn.toNat) (dsNew M (100 + (k : Int)) nn (-1)) Q → va_AO (dsR cc) s → W p l e R s mid args below meth c H locs u.1 u.2 Z (F0 mid pc arr (.int (Int32.ofInt nn) :: r.map (dsVal E))) := by
          intro k hkc hcn h hao
          obtain ⟨hn0, hn1, hu1, hu2⟩ := hcn
          have hnn : ¬ Int32.ofInt nn < 0 := by
            rw [show (0 : Int32) = Int32.ofInt 0 from rfl, ds_lt32 (by omega) (by omega)]
            omega
          have hN : (Int32.ofInt nn).toNatClampNeg = nn.toNat := ds_nat32 hn0 (by omega)
          have hel : dsEl k = .object (dsR cc) := by
            rcases hkc with ⟨rfl, rfl⟩ | ⟨rfl, rfl⟩ <;> rfl
          have ht := dsTy_get E (k := k) (by omega)
          rw [hel] at ht
          obtain ⟨kA0, comp0, k1, k2, k3, k4⟩ := (hev.1.2 k _ ht).2
          refine W.anew hx hb hown (hts _ hC.2) hao.use rfl hd rfl hnn (by rw [hN]; omega) (by omega) (by rw [hN]; omega) fun cA kA comp a1 a2 a3 a4 => ?_
          obtain rfl : cA = eA E k := Option.some.inj (a1.symm.trans k4)
          rw [hN]
          have z1 : (H.push { cls := eA E k, slots := Array.replicate nn.toNat .null, vm := .none } : Heap).size = H.size + 1 := by simp
          have o1 : ∀ q, q < H.size → (H.push { cls := eA E k, slots := Array.replicate nn.toNat .null, vm := .none } : Heap)[q]? = H[q]? := by
            intro q hq
            rw [Array.getElem?_push, if_neg (Nat.ne_of_lt hq)]
          have kk := go _ _ _ _ _ h (dsRel_new (M := M) hsz hP (by have := dsGd_new (len := nn.toNat) (d := -1) (k := k) hn hgd (by omega) (by omega) (by rw [hel]; trivial); rwa [show ((nn.toNat : Nat) : Int) = nn by omega] at this) (dsSc_new hn hsc) (by unfold dsNew; rw [if_neg (by omega), if_pos ⟨rfl, rfl⟩, hn]) (fun b hb => dsNew_ne hn (by omega) (by omega)) ?_ z1 o1) (dsS_new hS z1 o1) ⟨trivial, hG.2⟩ ⟨hu1, hu2⟩
          · rw [List.map_cons, hval] at kk
            exact kk
          · rw [dsEt_a E (k := k) (len := nn.toNat) (by rw [dsNew_at hn, if_pos rfl]) (by rw [dsNew_at hn, if_neg (by omega), if_pos rfl]; omega), ← hsz]
            have hda : dsAd E (dsNew M (100 + (k : Int)) nn (-1) n) k = .inr (.inr (.inr (.inr (fun j : Nat => none)))) := by
              have e2 : (fun j : Nat => dsOq E (dsNew M (100 + (k : Int)) nn (-1) n j)) = fun _ => none := by
                funext j
                rw [dsNew_at hn, if_neg (by omega), if_neg (by omega)]
                rfl
              rw [← e2]
              rcases hkc with ⟨rfl, -⟩ | ⟨rfl, -⟩ <;> rfl
            rw [hda]
            show _ = some (vp_cell _ _)
            rw [vp_cell_q, Array.getElem?_push_size]
            congr 1
            unfold arrV
            congr 1
            apply Array.ext
            · simp
            · intro j h1 h2
              simp [va_rf]
        by_cases h7 : cc = 7
        · rw [if_pos h7] at h
          exact key 4 (Or.inl ⟨rfl, h7⟩) h.1 h.2 (by rw [h7]; exact hev.2.2.1.1)
        · rw [if_neg h7] at h
          by_cases h5 : cc = 5
          · rw [if_pos h5] at h
            exact key 5 (Or.inr ⟨rfl, h5⟩) h.1 h.2 (by rw [h5]; exact hev.2.2.1.2)
          · rw [if_neg h5] at h
            exact h.elim
      · exact h.elim
    · exact h.elim
