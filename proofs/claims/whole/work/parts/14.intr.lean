/-! calls of the library that are one step here -/
theorem dsRel_row {E : dsE} {M M' : dsMem} {H H1 : Heap} {n q : Nat} (hn : M (-1) 0 = n) (hsz : H.size = eB E + n) (hP : va_P (eG E) vwCl (dsWl E M n) H) (ho : ∀ b : Int, b ≠ q → M' b = M b) (hgd : dsGd M' n) (hsc : dsSc E M) (hq : q < n)
    (hat : va_at (eG E) vwCl (eB E + q, dsEt E (M' q)) H1) (z : H1.size = H.size) (oq : ∀ r, r ≠ eB E + q → H1[r]? = H[r]?) : dsRel E M' H1 := by
  refine ⟨n, by rw [ho _ (by omega)]; exact hn, by rw [z, hsz], ?_, hgd, ?_⟩
  · rw [dsWl_set E hq (fun b hb => ho b (by omega)) rfl]
    exact hP.set (dsWl_D E M n) (dsWl_get E M hq) hat oq
  · unfold dsSc at *
    rw [ho _ (by omega)]
    exact hsc
theorem dsCpy_ne {M : dsMem} {a sp b dp n c : Int} (h : c ≠ b) : dsCpy M a sp b dp n c = M c := by
  funext i
  unfold dsCpy
  rw [if_neg (fun q => h q.1)]
theorem dsCpy_at {M : dsMem} {a sp b dp n : Int} (i : Int) : dsCpy M a sp b dp n b i = if dp ≤ i ∧ i < dp + n then M a (sp + (i - dp)) else M b i := by
  unfold dsCpy
  by_cases h : dp ≤ i ∧ i < dp + n
  · rw [if_pos ⟨rfl, h⟩, if_pos h]
  · rw [if_neg (fun q => h q.2), if_neg h]
theorem dsGd_cpy {M : dsMem} {n k la lb qa qb : Nat} {sp dp nn : Int} (h : dsGd M n) (hqb : qb < n) (hk : k < 6) (hMa : M qa (-1) = 100 + k) (hMb : M qb (-1) = 100 + k) (hla : M qa (-2) = la) (hlb : M qb (-2) = lb)
    (h0 : 0 ≤ nn) (h1 : 0 ≤ sp) (h2 : 0 ≤ dp) (h3 : sp + nn ≤ la) (h4 : dp + nn ≤ lb) : dsGd (dsCpy M qa sp qb dp nn) n := by
  refine ⟨fun a ha => ?_, fun a ha => ?_⟩
  · rw [dsCpy_ne (by omega)]
    exact h.1 a ha
  · by_cases e : a = qb
    · subst e
      right
      obtain ⟨_, len', -, -, h6, h7, h8⟩ := h.a hk hMb
      obtain ⟨_, len2, -, -, g6, g7, g8⟩ := h.a hk hMa
      refine ⟨k, lb, hk, by rw [dsCpy_at, if_neg (by omega)]; exact hMb, by rw [dsCpy_at, if_neg (by omega)]; exact hlb, by omega, fun j hj => ?_⟩
      rw [dsCpy_at]
      split
      · have := g8 (sp + (j - dp)).toNat (by omega)
        rwa [show (((sp + (j - dp)).toNat : Nat) : Int) = sp + (j - dp) by omega] at this
      · exact h8 j (by omega)
    · rw [dsCpy_ne (by omega)]
      exact h.2 a ha
section DsIntr
variable {E : dsE} {l : Launch} {m pc : Nat} {M : dsMem} {p : Program} {e : Env} {R : Room} {s : State} {mid : MethodId} {args : Array Value} {below : List Frame} {meth : Method} {c : Code} {H : Heap} {locs : List Loc} {arr : Array Slot} {Z : State → Prop} {cells slots : Nat}
set_option maxHeartbeats 4000000 in
theorem ds_copy {α : Type} (mk : α → Value) (cv : Int → α) (k : Nat) (hk : k = 0 ∨ k = 3) (hfit : ∀ x, fits (dsEl k) (mk x) = true) (htk : ∀ (vm' : Vm) (T : State) (cm : ClassId) (x : α), (T.setVm vm').takes cm (mk x))
    (hcell : ∀ (r : Int → Int) (ln : Nat), vp_cell (eA E k) (ln, dsAd E r k) = arrV (eA E k) ln (fun j => mk (cv (r j))))
    (hX : dsCx E m p R s mid args meth c) (hR : dsRel E M H) (hS : va_S (dsOwn E) s.heap H locs) {i : Nat} (hl : Cond.methodLink (dsR (dsCl m)) i arraycopyName ∈ dsTS) (hd : decode (dsCd m) pc = .ok (.invokestatic i, 3)) (hsz0 : arr.size = dsMx m) {rest : List dsV} (hrk : 1 ≤ dsRk m) (hcs : dsCs rest ≤ 8)
    {n dp b sp a : Int} (hn : dsGv (vI n)) (hdp : dsGv (vI dp)) (hsp : dsGv (vI sp)) (hMa : M a (-1) = 100 + (k : Int)) (hMb : M b (-1) = 100 + (k : Int)) (h0 : 0 ≤ n) (h1 : 0 ≤ sp) (h2 : 0 ≤ dp) (h3 : sp + n ≤ M a (-2)) (h4 : dp + n ≤ M b (-2))
    (kk : ∀ (H' : Heap) (locs' : List Loc), dsRel E (dsCpy M a sp b dp n) H' → va_S (dsOwn E) s.heap H' locs' → W p l e R s mid args below meth c H' locs' cells slots Z (F0 mid (pc + 3) arr (rest.map (dsVal E)))) :
    W p l e R s mid args below meth c H locs cells slots Z (F0 mid pc arr (.int (Int32.ofInt n) :: .int (Int32.ofInt dp) :: dsRf E b :: .int (Int32.ofInt sp) :: dsRf E a :: rest.map (dsVal E))) := by
  obtain ⟨hx, hb, hml, hown, hts, hnm, ⟨hrf, hrl, hrc, hrs⟩, hev⟩ := id hX
  obtain ⟨nn, hnn, hsz, hP, hgd, hsc⟩ := id hR
  obtain ⟨qa, la, rfl, hqa, hla, hla2, -⟩ := hgd.a (k := k) (by omega) hMa
  obtain ⟨qb, lb, rfl, hqb, hlb, hlb2, -⟩ := hgd.a (k := k) (by omega) hMb
  rw [dsRf_at, dsRf_at]
  have hea := dsWl_get E M hqa
  rw [dsEt_a E (k := k) hMa hla] at hea
  have heb := dsWl_get E M hqb
  rw [dsEt_a E (k := k) hMb hlb] at heb
  have hc0 : H[eB E + qa]? = some (arrV (eA E k) la (fun j => mk (cv (M qa j)))) := by
    have := hP qa _ hea
    rw [← hcell]; exact this
  have hc1 : H[eB E + qb]? = some (arrV (eA E k) lb (fun j => mk (cv (M qb j)))) := by
    have := hP qb _ heb
    rw [← hcell]; exact this
  have t32 : ∀ z : Int, dsGv (vI z) → (Int32.ofInt z).toInt = z := fun z hz => ds_t32 hz.1 hz.2
  have nneg : ∀ z : Int, dsGv (vI z) → 0 ≤ z → ¬ Int32.ofInt z < 0 := by
    intro z hz hz0
    rw [show (0 : Int32) = Int32.ofInt 0 from rfl, ds_lt32 hz (by omega)]
    omega
  have hnat : ∀ z : Int, dsGv (vI z) → 0 ≤ z → (Int32.ofInt z).toNatClampNeg = z.toNat := fun z hz hz0 => ds_nat32 hz0 hz.2
  intro T hT X
  obtain ⟨-, k0, hk0, cm0, hkk0⟩ := (hev.1.2 k _ (dsTy_get E (k := k) (by omega))).1 la (fun j => mk (cv (M qa j)))
  obtain ⟨vm', X', step⟩ := X.arraycopy hx hown (hts _ hl) (hts _ dsNatCopy) (hts _ dsStCopy) (hts _ dsIniSys) (src := eB E + qa) (dst := eB E + qb) (cs := arrV (eA E k) la (fun j => mk (cv (M qa j)))) (cd := arrV (eA E k) lb (fun j => mk (cv (M qb j)))) (srcPos := Int32.ofInt sp) (destPos := Int32.ofInt dp) (n := Int32.ofInt n)
    (by rw [hT]; exact hc0) (by rw [hT]; exact hc1) (fun _ h => by cases h) (fun _ h => by cases h) (fun h => by cases h) (fun h => by cases h) hk0 hk0 hkk0 hkk0 (by rcases hk with rfl | rfl <;> rfl) (nneg _ hsp h1) (nneg _ hdp h2) (nneg _ hn h0)
    (by rw [arrV_size, t32 _ hsp, t32 _ hn]; omega) (by rw [arrV_size, t32 _ hdp, t32 _ hn]; omega)
    (fun vm₁ _ j hj => by
      rw [hnat _ hn h0] at hj
      have e9 : (arrV (eA E k) la (fun j => mk (cv (M qa j)))).slots.getD ((Int32.ofInt sp).toNatClampNeg + j) .null = mk (cv (M qa (((Int32.ofInt sp).toNatClampNeg + j : Nat) : Int))) := by
        rw [Array.getD_eq_getD_getElem?, arrV_read _ _ (by rw [hnat _ hsp h1]; omega)]
        rfl
      rw [e9]
      exact ⟨hfit _, htk _ _ _ _⟩)
    (g := F0 mid pc arr (.int (Int32.ofInt n) :: .int (Int32.ofInt dp) :: .ref (eB E + qb) :: .int (Int32.ofInt sp) :: .ref (eB E + qa) :: rest.map (dsVal E))) rfl (by rw [hml]; exact hsz0) (rest := rest.map (dsVal E)) rfl (by rw [hb]; exact hd) (by omega)
    (by rw [dsCats]; show 2 * 0 + _ + (7 + 11) ≤ _; omega)
  have e1 : copied (arrV (eA E k) la (fun j => mk (cv (M qa j)))) (arrV (eA E k) lb (fun j => mk (cv (M qb j)))) (Int32.ofInt sp) (Int32.ofInt dp) (Int32.ofInt n) = arrV (eA E k) lb (fun j => mk (va_cpy (fun j : Nat => cv (M qa j)) (fun j : Nat => cv (M qb j)) sp.toNat dp.toNat n.toNat j)) := by
    have := va_copied mk (eA E k) (eA E k) (n0 := la) (n1 := lb) (sp := sp.toNat) (dp := dp.toNat) (n := n.toNat) (fun j : Nat => cv (M qa j)) (fun j : Nat => cv (M qb j)) (by omega)
    rw [← this, ← hnat _ hsp h1, ← hnat _ hdp h2, ← hnat _ hn h0]
    first | done | rfl
  rw [e1] at X' step
  have hlq : eB E + qb < H.size := (Array.getElem?_eq_some_iff.mp hc1).1
  have hheap : ∀ cell : Cell, ((T.setVm vm').setCell (eB E + qb) cell).heap = H.setIfInBounds (eB E + qb) cell := fun cell => by rw [← hT]; rfl
  have oq : ∀ (cell : Cell) (q : Nat), q ≠ eB E + qb → (H.setIfInBounds (eB E + qb) cell)[q]? = H[q]? := fun cell q hq => by simp [Array.getElem?_setIfInBounds, Ne.symm hq]
  have z1 : ∀ cell : Cell, (H.setIfInBounds (eB E + qb) cell).size = H.size := fun cell => by simp
  obtain ⟨t, a1, b1⟩ := kk _ _ (dsRel_row (q := qb) hnn hsz hP (fun b hb => dsCpy_ne hb) (dsGd_cpy (k := k) hgd hqb (by omega) hMa hMb hla hlb h0 h1 h2 (by omega) (by omega)) hsc hqb (by
      rw [dsEt_a E (k := k) (len := lb) (by rw [dsCpy_at, if_neg (by omega)]; exact hMb) (by rw [dsCpy_at, if_neg (by omega)]; exact hlb)]
      show (H.setIfInBounds (eB E + qb) _)[eB E + qb]? = some (vp_cell _ _)
      rw [hcell, Array.getElem?_setIfInBounds_self_of_lt hlq]
      congr 2
      funext j
      rw [dsCpy_at]
      unfold va_cpy
      by_cases hj : dp ≤ (j : Int) ∧ (j : Int) < dp + n
      · rw [if_pos hj, if_pos (by omega)]
        show mk (cv (M qa ((sp.toNat + (j - dp.toNat) : Nat) : Int))) = _
        rw [show ((sp.toNat + (j - dp.toNat) : Nat) : Int) = sp + ((j : Int) - dp) by omega]
      · rw [if_neg hj, if_neg (by omega)]) (z1 _) (oq _)) ⟨by rw [z1]; exact hS.1, fun q g1 g2 => by
      rw [oq _ q (fun e => g2 (by rw [e]; exact Nat.le_add_right _ _))]
      exact hS.2.1 q g1 g2, fun q hq => by
      rcases List.mem_append.mp hq with h | h
      · exact hS.2.2 q h
      · obtain ⟨z, -, hz⟩ := List.mem_map.mp h
        rw [← hz]
        exact Nat.le_add_right _ _⟩ _ (hheap _) X'
  exact ⟨t, step t a1, b1⟩
end DsIntr
