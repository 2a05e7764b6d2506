/-! a method's walk by the table of numbers, in the machine's own words -/
def dsSl : List Nat := dsTX.map (fun t => t.2.length)
def dsSb : List (List Int32) := dsTX.map (fun t => t.2.map Int32.ofInt)
def dsStr (E : dsE) (U : State) : Prop := vk_S 15 dsSl dsSb (eK E) (eV E) (dsOwn E) U U.heap ∧ (∀ c i k p, dsLk (dsKS c) i = some (k, p) → vk_R (dsR c) i ((dsTX[k]?.getD ("", [])).1) (eK E k) U) ∧
  va_Z "java/lang/String" "COMPACT_STRINGS" "Z" (.int 1) (dsOwn E) U U.heap ∧ va_Zq "jdk/internal/util/Preconditions" "SIOOBE_FORMATTER" "Ljava/util/function/BiFunction;" (dsOwn E) U U.heap
def dsEv (E : dsE) (U : State) : Prop := va_K (eG E) vwCl (dsTy E) U ∧ (∀ c i t, dsNW c i t ∈ tables_1 → va_Nw (dsNW c i t) U) ∧ (va_AO RX7 U ∧ va_AO RX5 U) ∧ dsStr E U ∧ (va_X (eS E) (eL E) (eX E) U U.heap ∧ eS E < eB E) ∧ eB E ≤ U.heap.size
theorem dsEv.moved {E : dsE} {s U : State} {H : Heap} {locs : List Loc} (h : dsEv E s) (hU : U.heap = H) (hW : s.WarmedH U.vm) (hS : va_S (dsOwn E) s.heap H locs) : dsEv E U := by
  obtain ⟨h1, h2, h3, ⟨h4, h5, h6, h7⟩, ⟨h8, h9⟩, h10⟩ := h
  have ha := hW.alike
  refine ⟨h1.moved ha, fun c i t ht => (h2 c i t ht).warmM hW, ⟨h3.1.moved ha, h3.2.moved ha⟩, ⟨?_, fun c i k p hk => (h5 c i k p hk).warm hW, ?_, ?_⟩, ⟨?_, h9⟩, ?_⟩
  · rw [hU]; exact (h4.moved ha).kept hS.2.1
  · rw [hU]; exact (h6.moved ha).kept hS.2.1
  · rw [hU]; exact (h7.moved ha).kept hS.2.1
  · rw [hU]; exact (h8.moved ha).kept (hS.2.1 _ (by omega) (by unfold dsOwn; omega))
  · rw [hU]; exact Nat.le_trans h10 hS.1
def dsCx (E : dsE) (m : Nat) (p : Program) (R : Room) (s : State) (mid : MethodId) (args : Array Value) (meth : Method) (c : Code) : Prop :=
  p.tables.exec = Jvm.exec ∧ c.code = dsCd m ∧ c.maxLocals = dsMx m ∧ s.vm.findClass (dsR (dsCl m)) = some mid.cls ∧ (∀ w ∈ dsTS, w.before args s = true) ∧ (dsKd m = 2 → meth.name = "<init>") ∧ (dsRk m ≤ R.frames ∧ 40 * dsRk m ≤ R.locals ∧ dsMc m ≤ R.cells ∧ dsMs m ≤ R.slots) ∧ dsEv E s
def dsRi (m : Nat) (r : List dsV) (pc : Nat) : Prop := match r with
  | [] => decode (dsCd m) pc = .ok (.return_, 1) ∧ dsRt m = none
  | [.inl x] => decode (dsCd m) pc = .ok (.ireturn, 1) ∧ (dsRt m = some .int ∨ dsRt m = some .boolean ∧ (x = 0 ∨ x = 1))
  | [.inr (.inl _)] => decode (dsCd m) pc = .ok (.lreturn, 1) ∧ dsRt m = some .long
  | [.inr (.inr (.inl _))] => decode (dsCd m) pc = .ok (.areturn, 1) ∧ ∃ n, dsRt m = some (.object n)
  | _ => False
def dsRet (E : dsE) (l : Launch) (m : Nat) (Q : dsQT) (p : Program) (e : Env) (R : Room) (s : State) (mid : MethodId) (args : Array Value) (below : List Frame) (meth : Method) (c : Code) (Z : State → Prop) : Prop :=
  ∀ (r : List dsV) (M : dsMem) (H : Heap) (locs : List Loc) (u : Nat × Nat) (pc : Nat) (arr : Array Slot), Q r M → dsGs r → dsRel E M H → va_S (dsOwn E) s.heap H locs → (u.1 ≤ dsMc m ∧ u.2 ≤ dsMs m) → dsRi m r pc →
    W p l e R s mid args below meth c H locs u.1 u.2 Z (F0 mid pc arr (r.map (dsVal E)))
def dsSem (E : dsE) (l : Launch) : dsPT := fun m pc ls st u M Q =>
  ∀ (p : Program) (e : Env) (R : Room) (s : State) (mid : MethodId) (args : Array Value) (below : List Frame) (meth : Method) (c : Code) (H : Heap) (locs : List Loc) (arr : Array Slot) (Z : State → Prop),
    dsCx E m p R s mid args meth c → dsRel E M H → va_S (dsOwn E) s.heap H locs → dsLR E arr (dsMx m) ls → dsGs st → (u.1 ≤ dsMc m ∧ u.2 ≤ dsMs m) → dsRet E l m Q p e R s mid args below meth c Z →
    W p l e R s mid args below meth c H locs u.1 u.2 Z (F0 mid pc arr (st.map (dsVal E)))
theorem dsSem_mono {E : dsE} {l : Launch} {m pc : Nat} {ls st : List dsV} {u : Nat × Nat} {M : dsMem} {Q Q' : dsQT} (hq : ∀ r M', Q r M' → Q' r M') (h : dsSem E l m pc ls st u M Q) : dsSem E l m pc ls st u M Q' :=
  fun p e R s mid args below meth c H locs arr Z h1 h2 h3 h4 h5 h6 h7 => h p e R s mid args below meth c H locs arr Z h1 h2 h3 h4 h5 h6 (fun r M H locs u pc arr a => h7 r M H locs u pc arr (hq _ _ a))
theorem dsGw (z : Int) : dsGv (vI (dsw z)) := ds_r32 _
theorem dsGw64 (z : Int) : dsGv (vJ (dsw64 z)) := ds_r64 _
theorem dsG1 {v : dsV} {r : List dsV} (h : dsGs (v :: r)) : dsGv v := h.1
theorem ds_narB {x : Int} (h : x = 0 ∨ x = 1) : narrow .boolean (.int (Int32.ofInt x)) = .int (Int32.ofInt x) := by
  rcases h with rfl | rfl <;> rfl
def dsPu (ins : Instr) : Bool := match ins with
  | .getfield _ | .putfield _ | .iaload | .baload | .laload | .aaload | .iastore | .bastore | .lastore | .aastore | .arraylength | .newarray _ | .anewarray _ | .new _ | .invokevirtual _ | .invokestatic _ | .invokespecial _ | .ireturn | .lreturn | .areturn | .return_ => false
  | _ => true
set_option maxHeartbeats 4000000 in
/-- instructions that touch neither the heap nor other methods -/
theorem ds_pure {E : dsE} {l : Launch} {m pc : Nat} {ls st : List dsV} {u : Nat × Nat} {M : dsMem} {Q : dsQT} {ins : Instr} {len : Nat} (hd : decode (dsCd m) pc = .ok (ins, len)) (hl : dsTs ins = true ∨ len = dsLn ins) (hp : dsPu ins = true)
    {call : Nat → List dsV → dsMem → dsQT → Prop} (h : dsI m pc ins ls st u M call (fun pc' ls' st' u' M' => dsSem E l m pc' ls' st' u' M' Q) Q) : dsSem E l m pc ls st u M Q := by
  intro p e R s mid args below meth c H locs arr Z hX hR hS hL hG hu hZ
  have go : ∀ (pc' : Nat) (ls' st' : List dsV) (arr' : Array Slot), dsSem E l m pc' ls' st' u M Q → dsLR E arr' (dsMx m) ls' → dsGs st' → W p l e R s mid args below meth c H locs u.1 u.2 Z (F0 mid pc' arr' (st'.map (dsVal E))) := fun pc' ls' st' arr' k a b => k p e R s mid args below meth c H locs arr' Z hX hR hS a b hu hZ
  obtain ⟨hx, hb, hml, hown, hts, hnm, ⟨hrf, hrl, hrc, hrs⟩, hev⟩ := id hX
  cases ins with
  | iconst n =>
    obtain rfl : len = 1 := hl.resolve_left (fun q => by cases q)
    simp only [dsI] at h
    split at h
    · rename_i hn
      refine lv_iconst (v := Int32.ofInt n) hx hb hd rfl ?_
      exact go _ _ _ arr h hL ⟨⟨by omega, by omega⟩, hG⟩
    · exact h.elim
  | bipush n =>
    obtain rfl : len = 2 := hl.resolve_left (fun q => by cases q)
    simp only [dsI] at h
    split at h
    · rename_i hn
      refine lv_bipush (v := Int32.ofInt n) hx hb hd (by rw [← Int32.toInt_inj, Int8.toInt_toInt32, Int8.toInt_ofInt_of_le (by omega) (by omega), ds_t32 (by omega) (by omega)]) ?_
      exact go _ _ _ arr h hL ⟨⟨by omega, by omega⟩, hG⟩
    · exact h.elim
  | sipush n =>
    obtain rfl : len = 3 := hl.resolve_left (fun q => by cases q)
    simp only [dsI] at h
    split at h
    · rename_i hn
      refine lv_sipush (v := Int32.ofInt n) hx hb hd (by rw [← Int32.toInt_inj, Int16.toInt_toInt32, Int16.toInt_ofInt_of_le (by omega) (by omega), ds_t32 (by omega) (by omega)]) ?_
      exact go _ _ _ arr h hL ⟨⟨by omega, by omega⟩, hG⟩
    · exact h.elim
  | lconst n =>
    obtain rfl : len = 1 := hl.resolve_left (fun q => by cases q)
    simp only [dsI] at h
    refine lv_lconst (v := Int64.ofInt ((n : Nat) : Int)) hx hb hd rfl ?_
    exact go _ _ _ arr h hL ⟨⟨by omega, by omega⟩, hG⟩
  | iload i =>
    obtain rfl : len = 2 := hl.resolve_left (fun q => by cases q)
    simp only [dsI] at h
    split at h
    · rename_i x hi
      have hg := hL.2.2.2 i
      have ha := hL.2.2.1 i
      rw [hi] at hg ha
      refine lv_iload hx hb hd (ha (fun q => by cases q)) ?_
      exact go _ _ _ arr h hL ⟨hg, hG⟩
    · exact h.elim
  | iload_n i =>
    obtain rfl : len = 1 := hl.resolve_left (fun q => by cases q)
    simp only [dsI] at h
    split at h
    · rename_i x hi
      have hg := hL.2.2.2 (i : Nat)
      have ha := hL.2.2.1 (i : Nat)
      rw [hi] at hg ha
      refine lv_iload_n hx hb hd rfl (ha (fun q => by cases q)) ?_
      exact go _ _ _ arr h hL ⟨hg, hG⟩
    · exact h.elim
  | lload i =>
    obtain rfl : len = 2 := hl.resolve_left (fun q => by cases q)
    simp only [dsI] at h
    split at h
    · rename_i x hi
      have hg := hL.2.2.2 i
      have ha := hL.2.2.1 i
      rw [hi] at hg ha
      refine lv_lload hx hb hd (ha (fun q => by cases q)) ?_
      exact go _ _ _ arr h hL ⟨hg, hG⟩
    · exact h.elim
  | lload_n i =>
    obtain rfl : len = 1 := hl.resolve_left (fun q => by cases q)
    simp only [dsI] at h
    split at h
    · rename_i x hi
      have hg := hL.2.2.2 (i : Nat)
      have ha := hL.2.2.1 (i : Nat)
      rw [hi] at hg ha
      refine lv_lload_n hx hb hd rfl (ha (fun q => by cases q)) ?_
      exact go _ _ _ arr h hL ⟨hg, hG⟩
    · exact h.elim
  | aload i =>
    obtain rfl : len = 2 := hl.resolve_left (fun q => by cases q)
    simp only [dsI] at h
    split at h
    · rename_i x hi
      have ha := hL.2.2.1 i
      rw [hi] at ha
      have ha := ha (fun q => by cases q)
      have k := go _ _ _ arr h hL ⟨trivial, hG⟩
      simp only [dsVal, dsRf, List.map_cons] at ha k
      by_cases hx0 : x < 0
      · rw [if_pos hx0] at ha k
        exact lv_aloadN hx hb hd ha k
      · rw [if_neg hx0] at ha k
        exact lv_aload hx hb hd ha k
    · rename_i n hi
      have ha := hL.2.2.1 i
      rw [hi] at ha
      have ha := ha (fun q => by cases q)
      have k := go _ _ _ arr h hL ⟨trivial, hG⟩
      cases n with
      | zero => exact lv_aload hx hb hd ha k
      | succ n => exact lv_aload hx hb hd ha k
    · exact h.elim
  | aload_n i =>
    obtain rfl : len = 1 := hl.resolve_left (fun q => by cases q)
    simp only [dsI] at h
    split at h
    · rename_i x hi
      have ha := hL.2.2.1 (i : Nat)
      rw [hi] at ha
      have ha := ha (fun q => by cases q)
      have k := go _ _ _ arr h hL ⟨trivial, hG⟩
      simp only [dsVal, dsRf, List.map_cons] at ha k
      by_cases hx0 : x < 0
      · rw [if_pos hx0] at ha k
        exact lv_aload_nN hx hb hd rfl ha k
      · rw [if_neg hx0] at ha k
        exact lv_aload_n hx hb hd rfl ha k
    · rename_i n hi
      have ha := hL.2.2.1 (i : Nat)
      rw [hi] at ha
      have ha := ha (fun q => by cases q)
      have k := go _ _ _ arr h hL ⟨trivial, hG⟩
      cases n with
      | zero => exact lv_aload_n hx hb hd rfl ha k
      | succ n => exact lv_aload_n hx hb hd rfl ha k
    · exact h.elim
  | istore i =>
    obtain rfl : len = 2 := hl.resolve_left (fun q => by cases q)
    simp only [dsI] at h
    split at h
    · rename_i x r
      split at h
      · rename_i hi
        refine lv_istore hx hb hd hL.has hi rfl (fun arr' ha => ?_)
        exact go _ _ _ arr' h (dsLR.st1 (v := vI x) hG.1 hL.2.2.2 ha) hG.2
      · exact h.elim
    · exact h.elim
  | istore_n i =>
    obtain rfl : len = 1 := hl.resolve_left (fun q => by cases q)
    simp only [dsI] at h
    split at h
    · rename_i x r
      split at h
      · rename_i hi
        refine lv_istore_n hx hb hd rfl hL.has hi rfl (fun arr' ha => ?_)
        exact go _ _ _ arr' h (dsLR.st1 (v := vI x) hG.1 hL.2.2.2 ha) hG.2
      · exact h.elim
    · exact h.elim
  | lstore i =>
    obtain rfl : len = 2 := hl.resolve_left (fun q => by cases q)
    simp only [dsI] at h
    split at h
    · rename_i x r
      split at h
      · rename_i hi
        refine lv_lstore hx hb hd hL.has hi rfl (fun arr' ha => ?_)
        exact go _ _ _ arr' h (dsLR.st2 (v := vJ x) hG.1 hL.2.2.2 ha) hG.2
      · exact h.elim
    · exact h.elim
  | lstore_n i =>
    obtain rfl : len = 1 := hl.resolve_left (fun q => by cases q)
    simp only [dsI] at h
    split at h
    · rename_i x r
      split at h
      · rename_i hi
        refine lv_lstore_n hx hb hd rfl hL.has hi rfl (fun arr' ha => ?_)
        exact go _ _ _ arr' h (dsLR.st2 (v := vJ x) hG.1 hL.2.2.2 ha) hG.2
      · exact h.elim
    · exact h.elim
  | astore i =>
    obtain rfl : len = 2 := hl.resolve_left (fun q => by cases q)
    simp only [dsI] at h
    split at h
    · rename_i x r
      split at h
      · rename_i hi
        have kk : ∀ arr', lv_has arr' (dsMx m) (((i), dsVal E (vR x)) :: (dsEn E 0 ls).filter (fun q => !(q.1 == i) && !(q.1 + 1 == i && q.2.category == 2))) → W p l e R s mid args below meth c H locs u.1 u.2 Z (F0 mid (pc + 2) arr' (r.map (dsVal E))) := fun arr' ha => go _ _ _ arr' h (dsLR.st1 (v := vR x) trivial hL.2.2.2 ha) hG.2
        show W p l e R s mid args below meth c H locs u.1 u.2 Z (F0 mid pc arr (dsRf E x :: r.map (dsVal E)))
        simp only [dsVal, dsRf] at kk ⊢
        by_cases hx0 : x < 0
        · rw [if_pos hx0] at kk ⊢
          exact lv_astoreN hx hb hd hL.has hi rfl kk
        · rw [if_neg hx0] at kk ⊢
          exact lv_astore hx hb hd hL.has hi rfl kk
      · exact h.elim
    · exact h.elim
  | astore_n i =>
    obtain rfl : len = 1 := hl.resolve_left (fun q => by cases q)
    simp only [dsI] at h
    split at h
    · rename_i x r
      split at h
      · rename_i hi
        have kk : ∀ arr', lv_has arr' (dsMx m) ((((i : Nat)), dsVal E (vR x)) :: (dsEn E 0 ls).filter (fun q => !(q.1 == (i : Nat)) && !(q.1 + 1 == (i : Nat) && q.2.category == 2))) → W p l e R s mid args below meth c H locs u.1 u.2 Z (F0 mid (pc + 1) arr' (r.map (dsVal E))) := fun arr' ha => go _ _ _ arr' h (dsLR.st1 (v := vR x) trivial hL.2.2.2 ha) hG.2
        show W p l e R s mid args below meth c H locs u.1 u.2 Z (F0 mid pc arr (dsRf E x :: r.map (dsVal E)))
        simp only [dsVal, dsRf] at kk ⊢
        by_cases hx0 : x < 0
        · rw [if_pos hx0] at kk ⊢
          exact lv_astore_nN hx hb hd rfl hL.has hi rfl kk
        · rw [if_neg hx0] at kk ⊢
          exact lv_astore_n hx hb hd rfl hL.has hi rfl kk
      · exact h.elim
    · exact h.elim
  | iinc i n =>
    obtain rfl : len = 3 := hl.resolve_left (fun q => by cases q)
    simp only [dsI] at h
    split at h
    · rename_i x hi
      split at h
      · rename_i hin
        have hm := dsEn_in E ls 0 i (by rw [hi]; exact fun q => by cases q)
        rw [hi, Nat.zero_add] at hm
        obtain ⟨k, hk⟩ := List.getElem?_of_mem hm
        refine lv_iinc (v := Int32.ofInt (dsw (x + n))) hx hb hd hL.has hk (by rw [dsw_o, Int32.ofInt_add]) hin rfl (fun arr' ha => ?_)
        exact go _ _ _ arr' h (dsLR.st1 (v := vI (dsw (x + n))) (dsGw _) hL.2.2.2 ha) hG
      · exact h.elim
    · exact h.elim
  | iadd =>
    obtain rfl : len = 1 := hl.resolve_left (fun q => by cases q)
    simp only [dsI] at h
    split at h
    · rename_i y x r
      have hy := hG.1
      have hxx := hG.2.1
      have e : dsVal E (vI (dsw (x + y))) = .int (Int32.ofInt x + Int32.ofInt y) := by
        show Value.int _ = _
        rw [dsw_o, Int32.ofInt_add]
      have k := go _ _ _ arr h hL ⟨dsGw _, hG.2.2⟩
      rw [List.map_cons, e] at k
      exact lv_iadd hx hb hd k
    · exact h.elim
  | isub =>
    obtain rfl : len = 1 := hl.resolve_left (fun q => by cases q)
    simp only [dsI] at h
    split at h
    · rename_i y x r
      have hy := hG.1
      have hxx := hG.2.1
      have e : dsVal E (vI (dsw (x - y))) = .int (Int32.ofInt x - Int32.ofInt y) := by
        show Value.int _ = _
        rw [dsw_o, Int32.ofInt_sub]
      have k := go _ _ _ arr h hL ⟨dsGw _, hG.2.2⟩
      rw [List.map_cons, e] at k
      exact lv_isub hx hb hd k
    · exact h.elim
  | imul =>
    obtain rfl : len = 1 := hl.resolve_left (fun q => by cases q)
    simp only [dsI] at h
    split at h
    · rename_i y x r
      have hy := hG.1
      have hxx := hG.2.1
      have e : dsVal E (vI (dsw (x * y))) = .int (Int32.ofInt x * Int32.ofInt y) := by
        show Value.int _ = _
        rw [dsw_o, Int32.ofInt_mul]
      have k := go _ _ _ arr h hL ⟨dsGw _, hG.2.2⟩
      rw [List.map_cons, e] at k
      exact lv_imul hx hb hd k
    · exact h.elim
  | idiv =>
    obtain rfl : len = 1 := hl.resolve_left (fun q => by cases q)
    simp only [dsI] at h
    split at h
    · rename_i y x r
      have hy := hG.1
      have hxx := hG.2.1
      have e : dsVal E (vI (dsw (x.tdiv y))) = .int (Int32.ofInt x / Int32.ofInt y) := by
        show Value.int _ = _
        rw [ds_div32 hxx hy]
      have k := go _ _ _ arr h.2 hL ⟨dsGw _, hG.2.2⟩
      rw [List.map_cons, e] at k
      exact lv_idiv hx hb hd (fun q => h.1 ((ds_eq32 hy ⟨by omega, by omega⟩).mp q)) k
    · exact h.elim
  | irem =>
    obtain rfl : len = 1 := hl.resolve_left (fun q => by cases q)
    simp only [dsI] at h
    split at h
    · rename_i y x r
      have hy := hG.1
      have hxx := hG.2.1
      have e : dsVal E (vI (x.tmod y)) = .int (Int32.ofInt x - Int32.ofInt x / Int32.ofInt y * Int32.ofInt y) := by
        show Value.int _ = _
        rw [ds_rem32 hxx hy, ds_o32]
      have k := go _ _ _ arr h.2 hL ⟨(by rw [ds_rem32 hxx hy]; exact ds_r32 _), hG.2.2⟩
      rw [List.map_cons, e] at k
      exact lv_irem hx hb hd (fun q => h.1 ((ds_eq32 hy ⟨by omega, by omega⟩).mp q)) k
    · exact h.elim
  | iand =>
    obtain rfl : len = 1 := hl.resolve_left (fun q => by cases q)
    simp only [dsI] at h
    split at h
    · rename_i y x r
      have hy := hG.1
      have hxx := hG.2.1
      have e : dsVal E (vI (dsAnd x y)) = .int (Int32.ofInt x &&& Int32.ofInt y) := by
        show Value.int _ = _
        exact congrArg Value.int (ds_o32 _)
      have k := go _ _ _ arr h hL ⟨ds_r32 _, hG.2.2⟩
      rw [List.map_cons, e] at k
      exact lv_iand hx hb hd k
    · exact h.elim
  | ior =>
    obtain rfl : len = 1 := hl.resolve_left (fun q => by cases q)
    simp only [dsI] at h
    split at h
    · rename_i y x r
      have hy := hG.1
      have hxx := hG.2.1
      have e : dsVal E (vI (dsOr x y)) = .int (Int32.ofInt x ||| Int32.ofInt y) := by
        show Value.int _ = _
        exact congrArg Value.int (ds_o32 _)
      have k := go _ _ _ arr h hL ⟨ds_r32 _, hG.2.2⟩
      rw [List.map_cons, e] at k
      exact lv_ior hx hb hd k
    · exact h.elim
  | ixor =>
    obtain rfl : len = 1 := hl.resolve_left (fun q => by cases q)
    simp only [dsI] at h
    split at h
    · rename_i y x r
      have hy := hG.1
      have hxx := hG.2.1
      have e : dsVal E (vI (dsXor x y)) = .int (Int32.ofInt x ^^^ Int32.ofInt y) := by
        show Value.int _ = _
        exact congrArg Value.int (ds_o32 _)
      have k := go _ _ _ arr h hL ⟨ds_r32 _, hG.2.2⟩
      rw [List.map_cons, e] at k
      exact lv_ixor hx hb hd k
    · exact h.elim
  | ishl =>
    obtain rfl : len = 1 := hl.resolve_left (fun q => by cases q)
    simp only [dsI] at h
    split at h
    · rename_i y x r
      have hy := hG.1
      have hxx := hG.2.1
      have e : dsVal E (vI (dsShl x y)) = .int (Int32.ofInt x <<< (Int32.ofInt y &&& 31)) := by
        show Value.int _ = _
        exact congrArg Value.int (ds_o32 _)
      have k := go _ _ _ arr h hL ⟨ds_r32 _, hG.2.2⟩
      rw [List.map_cons, e] at k
      exact lv_ishl hx hb hd k
    · exact h.elim
  | ishr =>
    obtain rfl : len = 1 := hl.resolve_left (fun q => by cases q)
    simp only [dsI] at h
    split at h
    · rename_i y x r
      have hy := hG.1
      have hxx := hG.2.1
      have e : dsVal E (vI (dsShr x y)) = .int (Int32.ofInt x >>> (Int32.ofInt y &&& 31)) := by
        show Value.int _ = _
        exact congrArg Value.int (ds_o32 _)
      have k := go _ _ _ arr h hL ⟨ds_r32 _, hG.2.2⟩
      rw [List.map_cons, e] at k
      exact lv_ishr hx hb hd k
    · exact h.elim
  | iushr =>
    obtain rfl : len = 1 := hl.resolve_left (fun q => by cases q)
    simp only [dsI] at h
    split at h
    · rename_i y x r
      have hy := hG.1
      have hxx := hG.2.1
      have e : dsVal E (vI (dsUsh x y)) = .int (((Int32.ofInt x).toUInt32 >>> ((Int32.ofInt y).toUInt32 &&& Int32.toUInt32 31)).toInt32) := by
        show Value.int _ = _
        exact congrArg Value.int (ds_o32 _)
      have k := go _ _ _ arr h hL ⟨ds_r32 _, hG.2.2⟩
      rw [List.map_cons, e] at k
      exact lv_iushr hx hb hd rfl k
    · exact h.elim
  | ladd =>
    obtain rfl : len = 1 := hl.resolve_left (fun q => by cases q)
    simp only [dsI] at h
    split at h
    · rename_i y x r
      have hy := hG.1
      have hxx := hG.2.1
      have e : dsVal E (vJ (dsw64 (x + y))) = .long (Int64.ofInt x + Int64.ofInt y) := by
        show Value.long _ = _
        rw [dsw64_o, Int64.ofInt_add]
      have k := go _ _ _ arr h hL ⟨dsGw64 _, hG.2.2⟩
      rw [List.map_cons, e] at k
      exact lv_ladd hx hb hd k
    · exact h.elim
  | lmul =>
    obtain rfl : len = 1 := hl.resolve_left (fun q => by cases q)
    simp only [dsI] at h
    split at h
    · rename_i y x r
      have hy := hG.1
      have hxx := hG.2.1
      have e : dsVal E (vJ (dsw64 (x * y))) = .long (Int64.ofInt x * Int64.ofInt y) := by
        show Value.long _ = _
        rw [dsw64_o, Int64.ofInt_mul]
      have k := go _ _ _ arr h hL ⟨dsGw64 _, hG.2.2⟩
      rw [List.map_cons, e] at k
      exact lv_lmul hx hb hd k
    · exact h.elim
  | ldiv =>
    obtain rfl : len = 1 := hl.resolve_left (fun q => by cases q)
    simp only [dsI] at h
    split at h
    · rename_i y x r
      have hy := hG.1
      have hxx := hG.2.1
      have e : dsVal E (vJ (dsw64 (x.tdiv y))) = .long (Int64.ofInt x / Int64.ofInt y) := by
        show Value.long _ = _
        rw [ds_div64 hxx hy]
      have k := go _ _ _ arr h.2 hL ⟨dsGw64 _, hG.2.2⟩
      rw [List.map_cons, e] at k
      exact lv_ldiv hx hb hd (fun q => h.1 ((ds_eq64 hy ⟨by omega, by omega⟩).mp q)) k
    · exact h.elim
  | lrem =>
    obtain rfl : len = 1 := hl.resolve_left (fun q => by cases q)
    simp only [dsI] at h
    split at h
    · rename_i y x r
      have hy := hG.1
      have hxx := hG.2.1
      have e : dsVal E (vJ (x.tmod y)) = .long (Int64.ofInt x - Int64.ofInt x / Int64.ofInt y * Int64.ofInt y) := by
        show Value.long _ = _
        rw [ds_rem64 hxx hy, ds_o64]
      have k := go _ _ _ arr h.2 hL ⟨(by rw [ds_rem64 hxx hy]; exact ds_r64 _), hG.2.2⟩
      rw [List.map_cons, e] at k
      exact lv_lrem hx hb hd (fun q => h.1 ((ds_eq64 hy ⟨by omega, by omega⟩).mp q)) k
    · exact h.elim
  | land =>
    obtain rfl : len = 1 := hl.resolve_left (fun q => by cases q)
    simp only [dsI] at h
    split at h
    · rename_i y x r
      have hy := hG.1
      have hxx := hG.2.1
      have e : dsVal E (vJ (dsLand x y)) = .long (Int64.ofInt x &&& Int64.ofInt y) := by
        show Value.long _ = _
        exact congrArg Value.long (ds_o64 _)
      have k := go _ _ _ arr h hL ⟨ds_r64 _, hG.2.2⟩
      rw [List.map_cons, e] at k
      exact lv_land hx hb hd k
    · exact h.elim
  | lor =>
    obtain rfl : len = 1 := hl.resolve_left (fun q => by cases q)
    simp only [dsI] at h
    split at h
    · rename_i y x r
      have hy := hG.1
      have hxx := hG.2.1
      have e : dsVal E (vJ (dsLor x y)) = .long (Int64.ofInt x ||| Int64.ofInt y) := by
        show Value.long _ = _
        exact congrArg Value.long (ds_o64 _)
      have k := go _ _ _ arr h hL ⟨ds_r64 _, hG.2.2⟩
      rw [List.map_cons, e] at k
      exact lv_lor hx hb hd k
    · exact h.elim
  | lshl =>
    obtain rfl : len = 1 := hl.resolve_left (fun q => by cases q)
    simp only [dsI] at h
    split at h
    · rename_i y x r
      have hy := hG.1
      have hxx := hG.2.1
      have e : dsVal E (vJ (dsLsl x y)) = .long (Int64.ofInt x <<< ((Int32.ofInt y).toInt64 &&& 63)) := by
        show Value.long _ = _
        exact congrArg Value.long (ds_o64 _)
      have k := go _ _ _ arr h hL ⟨ds_r64 _, hG.2.2⟩
      rw [List.map_cons, e] at k
      exact lv_lshl hx hb hd rfl k
    · exact h.elim
  | lshr =>
    obtain rfl : len = 1 := hl.resolve_left (fun q => by cases q)
    simp only [dsI] at h
    split at h
    · rename_i y x r
      have hy := hG.1
      have hxx := hG.2.1
      have e : dsVal E (vJ (dsLsr x y)) = .long (Int64.ofInt x >>> ((Int32.ofInt y).toInt64 &&& 63)) := by
        show Value.long _ = _
        exact congrArg Value.long (ds_o64 _)
      have k := go _ _ _ arr h hL ⟨ds_r64 _, hG.2.2⟩
      rw [List.map_cons, e] at k
      exact lv_lshr hx hb hd rfl k
    · exact h.elim
  | lcmp =>
    obtain rfl : len = 1 := hl.resolve_left (fun q => by cases q)
    simp only [dsI] at h
    split at h
    · rename_i y x r
      have hy := hG.1
      have hxx := hG.2.1
      have e : dsVal E (vI (dsLc x y)) = .int (lg_cmp (Int64.ofInt x) (Int64.ofInt y)) := by
        show Value.int _ = _
        rw [ds_cmp hxx hy]
      have k := go _ _ _ arr h hL ⟨(by unfold dsLc; split; exact ⟨by omega, by omega⟩; split <;> exact ⟨by omega, by omega⟩), hG.2.2⟩
      rw [List.map_cons, e] at k
      exact W.lcmp hx hb hd k
    · exact h.elim
  | i2l =>
    obtain rfl : len = 1 := hl.resolve_left (fun q => by cases q)
    simp only [dsI] at h
    split at h
    · rename_i x r
      have hxx := hG.1
      have e : dsVal E (vJ x) = .long (Int32.ofInt x).toInt64 := by
        show Value.long _ = _
        rw [ds_i2l hxx]
      have k := go _ _ _ arr h hL ⟨(by have h1 := hxx.1; have h2 := hxx.2; exact ⟨by omega, by omega⟩), hG.2⟩
      rw [List.map_cons, e] at k
      exact lv_i2l hx hb hd rfl k
    · exact h.elim
  | l2i =>
    obtain rfl : len = 1 := hl.resolve_left (fun q => by cases q)
    simp only [dsI] at h
    split at h
    · rename_i x r
      have hxx := hG.1
      have e : dsVal E (vI (dsw x)) = .int (Int64.ofInt x).toInt32 := by
        show Value.int _ = _
        rw [dsw_o, ds_l2i]
      have k := go _ _ _ arr h hL ⟨dsGw _, hG.2⟩
      rw [List.map_cons, e] at k
      exact lv_l2i hx hb hd rfl k
    · exact h.elim
  | i2b =>
    obtain rfl : len = 1 := hl.resolve_left (fun q => by cases q)
    simp only [dsI] at h
    split at h
    · rename_i x r
      have hxx := hG.1
      have e : dsVal E (vI (dsB x)) = .int (Int32.ofInt x).toInt8.toInt32 := by
        show Value.int _ = _
        exact congrArg Value.int (ds_o32 _)
      have k := go _ _ _ arr h hL ⟨ds_r32 _, hG.2⟩
      rw [List.map_cons, e] at k
      exact lv_i2b hx hb hd rfl k
    · exact h.elim
  | dup =>
    obtain rfl : len = 1 := hl.resolve_left (fun q => by cases q)
    simp only [dsI] at h
    split at h
    · rename_i v r
      split at h
      · rename_i hc
        exact lv_dup hx hb hd (by rw [dsCat]; exact hc) (go _ _ _ arr h hL ⟨hG.1, hG.1, hG.2⟩)
      · exact h.elim
    · exact h.elim
  | pop =>
    obtain rfl : len = 1 := hl.resolve_left (fun q => by cases q)
    simp only [dsI] at h
    split at h
    · rename_i v r
      split at h
      · rename_i hc
        exact lv_pop hx hb hd (by rw [dsCat]; exact hc) (go _ _ _ arr h hL hG.2)
      · exact h.elim
    · exact h.elim
  | dup2 =>
    obtain rfl : len = 1 := hl.resolve_left (fun q => by cases q)
    simp only [dsI] at h
    split at h
    · exact lv_dup2_2 hx hb hd rfl (go _ _ _ arr h hL ⟨hG.1, hG.1, hG.2⟩)
    · rename_i v w r _
      split at h
      · rename_i hc
        exact lv_dup2_11 hx hb hd (by rw [dsCat]; exact hc.1) (by rw [dsCat]; exact hc.2) (go _ _ _ arr h hL ⟨hG.1, hG.2.1, hG.1, hG.2.1, hG.2.2⟩)
      · exact h.elim
    · exact h.elim
  | goto off =>
    obtain rfl : len = 3 := hl.resolve_left (fun q => by cases q)
    simp only [dsI, dsTg] at h
    split at h
    · exact lv_goto hx hb hd (by omega) (go _ _ _ arr h hL hG)
    · exact h.elim
  | ifCond cn off =>
    obtain rfl : len = 3 := hl.resolve_left (fun q => by cases q)
    simp only [dsI, dsTg] at h
    split at h
    · rename_i x r
      have hz : -2147483648 ≤ (0 : Int) ∧ (0 : Int) < 2147483648 := by omega
      split at h
      · have ht : (pc : Int) + off = (((pc : Int) + off).toNat : Int) := by omega
        have kt : dsCn cn x 0 → W p l e R s mid args below meth c H locs u.1 u.2 Z (F0 mid ((pc : Int) + off).toNat arr (r.map (dsVal E))) := fun hc => go _ _ _ arr (h.1 hc) hL hG.2
        have kf : ¬ dsCn cn x 0 → W p l e R s mid args below meth c H locs u.1 u.2 Z (F0 mid (pc + 3) arr (r.map (dsVal E))) := fun hc => go _ _ _ arr (h.2 hc) hL hG.2
        cases cn with
        | eq => exact lv_if_eq hx hb hd ht (fun q => kt ((ds_eq32 hG.1 hz).mp q)) (fun q => kf (fun z => q ((ds_eq32 hG.1 hz).mpr z)))
        | ne => exact lv_if_ne hx hb hd ht (fun q => kt (fun z => q ((ds_eq32 hG.1 hz).mpr z))) (fun q => kf (fun z => z ((ds_eq32 hG.1 hz).mp q)))
        | lt => exact lv_if_lt hx hb hd ht (fun q => kt ((ds_lt32 hG.1 hz).mp q)) (fun q => kf (fun z => q ((ds_lt32 hG.1 hz).mpr z)))
        | ge => exact lv_if_ge hx hb hd ht (fun q => kt ((ds_le32 hz hG.1).mp q)) (fun q => kf (fun z => q ((ds_le32 hz hG.1).mpr z)))
        | gt => exact lv_if_gt hx hb hd ht (fun q => kt ((ds_lt32 hz hG.1).mp q)) (fun q => kf (fun z => q ((ds_lt32 hz hG.1).mpr z)))
        | le => exact lv_if_le hx hb hd ht (fun q => kt ((ds_le32 hG.1 hz).mp q)) (fun q => kf (fun z => q ((ds_le32 hG.1 hz).mpr z)))
      · exact h.elim
    · exact h.elim
  | if_icmp cn off =>
    obtain rfl : len = 3 := hl.resolve_left (fun q => by cases q)
    simp only [dsI, dsTg] at h
    split at h
    · rename_i y x r
      have hz : -2147483648 ≤ (0 : Int) ∧ (0 : Int) < 2147483648 := by omega
      split at h
      · have ht : (pc : Int) + off = (((pc : Int) + off).toNat : Int) := by omega
        have kt : dsCn cn x y → W p l e R s mid args below meth c H locs u.1 u.2 Z (F0 mid ((pc : Int) + off).toNat arr (r.map (dsVal E))) := fun hc => go _ _ _ arr (h.1 hc) hL hG.2.2
        have kf : ¬ dsCn cn x y → W p l e R s mid args below meth c H locs u.1 u.2 Z (F0 mid (pc + 3) arr (r.map (dsVal E))) := fun hc => go _ _ _ arr (h.2 hc) hL hG.2.2
        cases cn with
        | eq => exact lv_icmp_eq hx hb hd ht (fun q => kt ((ds_eq32 hG.2.1 hG.1).mp q)) (fun q => kf (fun z => q ((ds_eq32 hG.2.1 hG.1).mpr z)))
        | ne => exact lv_icmp_ne hx hb hd ht (fun q => kt (fun z => q ((ds_eq32 hG.2.1 hG.1).mpr z))) (fun q => kf (fun z => z ((ds_eq32 hG.2.1 hG.1).mp q)))
        | lt => exact lv_icmp_lt hx hb hd ht (fun q => kt ((ds_lt32 hG.2.1 hG.1).mp q)) (fun q => kf (fun z => q ((ds_lt32 hG.2.1 hG.1).mpr z)))
        | ge => exact lv_icmp_ge hx hb hd ht (fun q => kt ((ds_le32 hG.1 hG.2.1).mp q)) (fun q => kf (fun z => q ((ds_le32 hG.1 hG.2.1).mpr z)))
        | gt => exact lv_icmp_gt hx hb hd ht (fun q => kt ((ds_lt32 hG.1 hG.2.1).mp q)) (fun q => kf (fun z => q ((ds_lt32 hG.1 hG.2.1).mpr z)))
        | le => exact lv_icmp_le hx hb hd ht (fun q => kt ((ds_le32 hG.2.1 hG.1).mp q)) (fun q => kf (fun z => q ((ds_le32 hG.2.1 hG.1).mpr z)))
      · exact h.elim
    · exact h.elim
  | ifnull off =>
    obtain rfl : len = 3 := hl.resolve_left (fun q => by cases q)
    simp only [dsI, dsTg] at h
    split at h
    · rename_i x r
      show W p l e R s mid args below meth c H locs u.1 u.2 Z (F0 mid pc arr (dsRf E x :: r.map (dsVal E)))
      unfold dsRf
      by_cases hx0 : x < 0
      · rw [if_pos hx0]
        have h1 := h.1 hx0
        split at h1
        · exact lv_ifnullN hx hb hd (by omega) (go _ _ _ arr h1 hL hG.2)
        · exact h1.elim
      · rw [if_neg hx0]
        exact lv_ifnull hx hb hd (go _ _ _ arr (h.2 hx0) hL hG.2)
    · exact h.elim
  | ifnonnull off =>
    obtain rfl : len = 3 := hl.resolve_left (fun q => by cases q)
    simp only [dsI, dsTg] at h
    split at h
    · rename_i x r
      show W p l e R s mid args below meth c H locs u.1 u.2 Z (F0 mid pc arr (dsRf E x :: r.map (dsVal E)))
      unfold dsRf
      by_cases hx0 : x < 0
      · rw [if_pos hx0]
        exact lv_ifnonnullN hx hb hd (go _ _ _ arr (h.2 hx0) hL hG.2)
      · rw [if_neg hx0]
        have h1 := h.1 hx0
        split at h1
        · exact lv_ifnonnull hx hb hd (by omega) (go _ _ _ arr h1 hL hG.2)
        · exact h1.elim
    · exact h.elim
  | tableswitch d lo hi offs =>
    simp only [dsI, dsTg] at h
    split at h
    · rename_i x r
      have hxi : (Int32.ofInt x).toInt = x := ds_t32 hG.1.1 hG.1.2
      by_cases hx0 : x < lo ∨ hi < x
      · have h1 := h.1 hx0
        split at h1
        · exact lv_tableOut hx hb hd (by rw [hxi]; exact hx0) (by omega) (go _ _ _ arr h1 hL hG.2)
        · exact h1.elim
      · have h1 := h.2 hx0
        split at h1
        · rename_i off ho
          split at h1
          · exact lv_tableIn hx hb hd (by rw [hxi]; omega) (by rw [hxi]; omega) (by rw [hxi]; exact ho) (by omega) (go _ _ _ arr h1 hL hG.2)
          · exact h1.elim
        · exact h1.elim
    · exact h.elim
  | ldc i =>
    obtain rfl : len = 2 := hl.resolve_left (fun q => by cases q)
    simp only [dsI] at h
    split at h
    · rename_i v q hk
      have hc := dsOkI_ok _ _ (dsLk_in hk)
      exact lv_ldc hx hb hown (hts _ hc.1) hd (go _ _ _ arr h hL ⟨hc.2, hG⟩)
    · split at h
      · rename_i k q hk
        exact va_ldcS hx hb hown (hev.2.2.2.1.2.1 _ _ _ _ hk) hd (go _ _ _ arr h hL ⟨trivial, hG⟩)
      · exact h.elim
  | ldc_w i =>
    obtain rfl : len = 3 := hl.resolve_left (fun q => by cases q)
    simp only [dsI] at h
    split at h
    · rename_i v q hk
      have hc := dsOkI_ok _ _ (dsLk_in hk)
      exact lv_ldcw hx hb hown (hts _ hc.1) hd (go _ _ _ arr h hL ⟨hc.2, hG⟩)
    · exact h.elim
  | ldc2_w i =>
    obtain rfl : len = 3 := hl.resolve_left (fun q => by cases q)
    simp only [dsI] at h
    split at h
    · rename_i v q hk
      have hc := dsOkL_ok _ _ (dsLk_in hk)
      exact lv_ldc2 hx hb hown (hts _ hc.1) hd (go _ _ _ arr h hL ⟨hc.2, hG⟩)
    · exact h.elim
  | _ => first | (simp only [dsI] at h; done) | (cases hp; done)
