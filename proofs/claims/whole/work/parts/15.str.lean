/-! String.length and charAt of the constants, over the machine itself -/
def ssP (E : dsE) (Hc : Heap) (as : List Value) : Array Value → State → Prop := fun v U => v = as.toArray ∧ U.heap = Hc ∧ dsEv E U
def ssQ (Hc : Heap) (r : Option Value) : Array Value → State → Outcome → State → Prop := fun _ _ o t => o = .returned r ∧ t.heap = Hc
def ssRm (k : Nat) : Room := { frames := k, cells := 0, slots := 0, locals := 40 * k }
theorem ssP_blind {E : dsE} {Hc : Heap} {as : List Value} : FrameBlind (ssP E Hc as) := by
  rintro a U g mk ⟨h1, h2, h3⟩
  exact ⟨h1, h2, h3.moved (H := U.heap) (locs := []) rfl (State.WarmedH.refl U) va_S.rf⟩
abbrev ssMet (l : Launch) (E : dsE) (y : MethodName) (cc : ByteArray) (n : Nat) (ret : Option FieldType) (k : Nat) (as : List Value) (r : Option Value) : Prop :=
  ∀ Hc : Heap, Met l y (.code y cc n ret :: dsTS) (ssRm k) (ssP E Hc as) (ssQ Hc r) 0 0 (fun _ => False)
theorem ss_good {w : Jvm.Cond} (h : w ∈ dsTS) : GoodIn dsTS (w :: dsTS) := by
  intro z hz
  rcases List.mem_cons.mp hz with rfl | hz
  · exact dsTS_good _ h
  · exact dsTS_good _ hz
theorem ss_met {l : Launch} {E : dsE} {y : MethodName} {cc : ByteArray} {n k : Nat} {ret : Option FieldType} {as : List Value} {r : Option Value} (hpl : plainName y.cls = true) (hn : (lg_sl as).length ≤ n)
    (h : ∀ (p : Program) (e : Env) (s : State) (mid : MethodId) (below : List Frame) (meth : Method) (c : Code) (arr : Array Slot), p.tables.exec = Jvm.exec → c.code = cc → meth.sig.returnType = ret → c.maxLocals = n → s.vm.findClass y.cls = some mid.cls → (∀ w ∈ dsTS, w.before as.toArray s = true) → meth.locks = false → dsEv E s → lv_has arr n (lv_args 0 as) →
      W p l e (ssRm k) s mid as.toArray below meth c s.heap [] 0 0 (MQ below (ssQ s.heap r) as.toArray s 0 0 (fun _ => False)) (F0 mid 0 arr [])) : ssMet l E y cc n ret k as r := by
  intro Hc
  refine Met.ofW (cc := cc) (maxL := n) (ret := ret) hpl rfl ?_
  intro p e s mid args below meth c s₁ B hml hv
  obtain ⟨rfl, rfl, hev⟩ := hv
  have hts0 := atoms_spec (ws := .code y cc n ret :: dsTS) B.pre
  have hl := lv_entry as (n := n) hn
  rw [lg_entry_eq]
  exact h p e s mid below meth c _ B.exec B.bytes B.returns hml (findClass_of_methodNamed B.named) (fun w hw => hts0 w (List.mem_cons_of_mem _ hw)) B.notSynchronized hev hl
section SsAfter
variable {E : dsE} {l : Launch} {pc : Nat} {p : Program} {e : Env} {R : Room} {s : State} {mid : MethodId} {args : Array Value} {below : List Frame} {meth : Method} {c : Code} {H : Heap} {locs : List Loc} {arr : Array Slot} {Z : State → Prop} {cells slots : Nat}
theorem ss_after {r : Option Value} {g0 rest : List Value} {a : Array Value} (hr : va_Run p l e R s mid args below meth c H locs cells slots 0 0 (F0 mid pc arr g0) rest (ssQ H r a) (fun _ => False))
    (kk : W p l e R s mid args below meth c H locs cells slots Z (F0 mid (pc + 3) arr (r.toList ++ rest))) : W p l e R s mid args below meth c H locs cells slots Z (F0 mid pc arr g0) := by
  intro T hT X
  obtain ⟨v, st₀, t, T', L, h0, X', hL, e1, e2, ⟨hv, hh⟩, st⟩ := hr T hT X
  cases hv
  obtain rfl : L = [] := by
    rcases L with _ | ⟨q, L⟩
    · rfl
    · exact (hL q List.mem_cons_self).elim
  rw [List.append_nil] at X'
  obtain ⟨t2, a1, b1⟩ := kk T' (by rw [e1]; exact hh) X'
  exact ⟨t2, st t2 a1, b1⟩
end SsAfter
/-! the words -/
theorem ssI0 : Cond.initialized RJ0 ∈ dsTS := (dsT1m (j := 11) rfl rfl)
theorem ssI1 : Cond.initialized RJ1 ∈ dsTS := (dsT1m (j := 12) rfl rfl)
theorem ssI3 : Cond.initialized RJ3 ∈ dsTS := (dsT1m (j := 13) rfl rfl)
theorem ssLen_i : Cond.instanceMethod yJ0_length_8abf5 ∈ dsTS := (dsT2m (j := 184) rfl rfl)
theorem ssLen_s : Cond.selects RJ0 yJ0_length_8abf5 yJ0_length_8abf5 ∈ dsTS := (dsT2m (j := 185) rfl rfl)
theorem ssLen_c : Cond.code yJ0_length_8abf5 cJ0_length_8abf5 1 (some .int) ∈ dsTS := (dsT2m (j := 186) rfl rfl)
theorem ssCod_l : Cond.methodLink RJ0 335 yJ0_coder_7d493 ∈ dsTS := (dsT2m (j := 187) rfl rfl)
theorem ssCod_i : Cond.instanceMethod yJ0_coder_7d493 ∈ dsTS := (dsT2m (j := 188) rfl rfl)
theorem ssCod_s : Cond.selects RJ0 yJ0_coder_7d493 yJ0_coder_7d493 ∈ dsTS := (dsT2m (j := 189) rfl rfl)
theorem ssCod_c : Cond.code yJ0_coder_7d493 cJ0_coder_7d493 1 (some .byte) ∈ dsTS := (dsT2m (j := 190) rfl rfl)
theorem ssCs_l : Cond.fieldLink RJ0 38 "java/lang/String" "COMPACT_STRINGS" "Z" ∈ dsTS := (dsT2m (j := 191) rfl rfl)
theorem ssChr_i : Cond.instanceMethod yJ0_charAt_5068e ∈ dsTS := (dsT2m (j := 194) rfl rfl)
theorem ssChr_s : Cond.selects RJ0 yJ0_charAt_5068e yJ0_charAt_5068e ∈ dsTS := (dsT2m (j := 195) rfl rfl)
theorem ssChr_c : Cond.code yJ0_charAt_5068e cJ0_charAt_5068e 2 (some .char) ∈ dsTS := (dsT2m (j := 196) rfl rfl)
theorem ssLat_l : Cond.methodLink RJ0 492 yJ0_isLatin1_aae02 ∈ dsTS := (dsT2m (j := 197) rfl rfl)
theorem ssLat_i : Cond.instanceMethod yJ0_isLatin1_aae02 ∈ dsTS := (dsT2m (j := 198) rfl rfl)
theorem ssLat_s : Cond.selects RJ0 yJ0_isLatin1_aae02 yJ0_isLatin1_aae02 ∈ dsTS := (dsT2m (j := 199) rfl rfl)
theorem ssLat_c : Cond.code yJ0_isLatin1_aae02 cJ0_isLatin1_aae02 1 (some .boolean) ∈ dsTS := (dsT2m (j := 200) rfl rfl)
theorem ssCh1_l : Cond.methodLink RJ0 495 yJ1_charAt_3b067 ∈ dsTS := (dsT2m (j := 201) rfl rfl)
theorem ssCh1_s : Cond.static yJ1_charAt_3b067 ∈ dsTS := (dsT2m (j := 202) rfl rfl)
theorem ssCh1_c : Cond.code yJ1_charAt_3b067 cJ1_charAt_3b067 2 (some .char) ∈ dsTS := (dsT2m (j := 203) rfl rfl)
theorem ssCk_l : Cond.methodLink RJ1 9 yJ0_checkIndex_df160 ∈ dsTS := (dsT2m (j := 204) rfl rfl)
theorem ssCk_s : Cond.static yJ0_checkIndex_df160 ∈ dsTS := (dsT2m (j := 205) rfl rfl)
theorem ssCk_c : Cond.code yJ0_checkIndex_df160 cJ0_checkIndex_df160 2 none ∈ dsTS := (dsT2m (j := 206) rfl rfl)
theorem ssFm_l : Cond.fieldLink RJ0 1053 "jdk/internal/util/Preconditions" "SIOOBE_FORMATTER" "Ljava/util/function/BiFunction;" ∈ dsTS := (dsT2m (j := 207) rfl rfl)
theorem ssPc_l : Cond.methodLink RJ0 1059 yJ3_checkIndex_8e157 ∈ dsTS := (dsT2m (j := 209) rfl rfl)
theorem ssPc_s : Cond.static yJ3_checkIndex_8e157 ∈ dsTS := (dsT2m (j := 210) rfl rfl)
theorem ssPc_c : Cond.code yJ3_checkIndex_8e157 cJ3_checkIndex_8e157 3 (some .int) ∈ dsTS := (dsT2m (j := 211) rfl rfl)
theorem ssVal_l : Cond.fieldLink RJ0 9 "java/lang/String" "value" "[B" ∈ dsTS := (dsT9m (j := 62) rfl rfl)
theorem ssCo_l : Cond.fieldLink RJ0 15 "java/lang/String" "coder" "B" ∈ dsTS := (dsT9m (j := 63) rfl rfl)
/-! finite facts of the fifteen constants -/
theorem ss_f1 : ∀ k, k < 15 → (Int32.ofNat (dsSl.getD k 0) >>> ((0 : Int32) &&& 31) = Int32.ofNat (dsSl.getD k 0) ∧ Int32.ofNat (dsSl.getD k 0) = Int32.ofInt (dsLen k) ∧ ((dsSl.getD k 0 : Nat) : Int) = dsLen k ∧ dsSl.getD k 0 ≤ 10) := by decide
theorem ss_f2a : ∀ k, k < 15 → ∀ j, j < 10 → (j < dsSl.getD k 0 → (¬ Int32.ofNat j < 0 ∧ Int32.ofNat j < Int32.ofNat (dsSl.getD k 0))) := by decide +kernel
theorem ss_f2b : ∀ k, k < 15 → ∀ j, j < 10 → (j < dsSl.getD k 0 → (((dsSb.getD k []).getD j 0 &&& 255).toUInt32 % 65536).toInt32 = Int32.ofInt (dsChr k (Int.ofNat j))) := by decide +kernel
theorem ss_f2c : ∀ k, k < 15 → ∀ j, j < 10 → (j < dsSl.getD k 0 → (Int32.ofInt (dsChr k (Int.ofNat j))).toUInt32.toUInt16.toUInt32.toInt32 = Int32.ofInt (dsChr k (Int.ofNat j))) := by decide +kernel
theorem ss_f2d : ∀ j, j < 10 → ((Int32.ofNat j).toNatClampNeg = j ∧ Int32.ofInt (Int.ofNat j) = Int32.ofNat j) := by decide +kernel
theorem ss_f2 (k : Nat) (hk : k < 15) (j : Nat) (hj : j < 10) (h : j < dsSl.getD k 0) : (¬ Int32.ofNat j < 0 ∧ Int32.ofNat j < Int32.ofNat (dsSl.getD k 0) ∧ (Int32.ofNat j).toNatClampNeg = j ∧ (((dsSb.getD k []).getD j 0 &&& 255).toUInt32 % 65536).toInt32 = Int32.ofInt (dsChr k ((j : Nat) : Int)) ∧ Int32.ofInt ((j : Nat) : Int) = Int32.ofNat j ∧ (Int32.ofInt (dsChr k ((j : Nat) : Int))).toUInt32.toUInt16.toUInt32.toInt32 = Int32.ofInt (dsChr k ((j : Nat) : Int))) :=
  ⟨(ss_f2a k hk j hj h).1, (ss_f2a k hk j hj h).2, (ss_f2d j hj).1, ss_f2b k hk j hj h, (ss_f2d j hj).2, ss_f2c k hk j hj h⟩
/-! the methods -/
theorem ss_coder (l : Launch) (E : dsE) {k : Nat} (hk : k < 15) : ssMet l E yJ0_coder_7d493 cJ0_coder_7d493 1 (some .byte) 0 [.ref (eK E k)] (some (.int 0)) := by
  refine ss_met (by decide +kernel) (Nat.le_of_ble_eq_true rfl) ?_
  intro p e s mid below meth c arr hx hb hr hml hown hts hlocks hev hl
  have hown : s.vm.findClass RJ0 = some mid.cls := hown
  have hS : va_S (dsOwn E) s.heap s.heap [] := va_S.rf
  obtain ⟨-, -, -, ⟨hstr, -, hcs, -⟩, -, -⟩ := id hev
  have hl : lv_has arr 1 [(0, .ref (eK E k))] := hl
  refine va_gets hx hb hcs hS hown (hts _ ssCs_l) (fun _ h => h) (show decode cJ0_coder_7d493 0 = .ok (.getstatic 38, 3) by decide +kernel) ?_
  refine lv_if_eq (tgt := 13) hx hb (show decode cJ0_coder_7d493 3 = .ok (.ifCond .eq 10, 3) by decide +kernel) rfl (fun h => absurd h (by decide)) (fun _ => ?_)
  refine lv_aload_n hx hb (show decode cJ0_coder_7d493 6 = .ok (.aload_n 0, 1) by decide +kernel) rfl (lv_at hl 0 rfl) ?_
  refine vk_getf hx hb (hstr.1 k hk).2.1 hS hown (hts _ ssCo_l) (fun _ h => h) (show decode cJ0_coder_7d493 7 = .ok (.getfield 15, 3) by decide +kernel) ?_
  refine lv_goto (tgt := 14) hx hb (show decode cJ0_coder_7d493 10 = .ok (.goto 4, 3) by decide +kernel) rfl ?_
  exact W.zret hx hb hr rfl (fun t ht hW => ⟨rfl, ht⟩) (fun q h => by cases h) (show decode cJ0_coder_7d493 14 = .ok (.ireturn, 1) by decide +kernel)
theorem ss_latin (l : Launch) (E : dsE) {k : Nat} (hk : k < 15) : ssMet l E yJ0_isLatin1_aae02 cJ0_isLatin1_aae02 1 (some .boolean) 0 [.ref (eK E k)] (some (.int 1)) := by
  refine ss_met (by decide +kernel) (Nat.le_of_ble_eq_true rfl) ?_
  intro p e s mid below meth c arr hx hb hr hml hown hts hlocks hev hl
  have hown : s.vm.findClass RJ0 = some mid.cls := hown
  have hS : va_S (dsOwn E) s.heap s.heap [] := va_S.rf
  obtain ⟨-, -, -, ⟨hstr, -, hcs, -⟩, -, -⟩ := id hev
  have hl : lv_has arr 1 [(0, .ref (eK E k))] := hl
  refine va_gets hx hb hcs hS hown (hts _ ssCs_l) (fun _ h => h) (show decode cJ0_isLatin1_aae02 0 = .ok (.getstatic 38, 3) by decide +kernel) ?_
  refine lv_if_eq (tgt := 17) hx hb (show decode cJ0_isLatin1_aae02 3 = .ok (.ifCond .eq 14, 3) by decide +kernel) rfl (fun h => absurd h (by decide)) (fun _ => ?_)
  refine lv_aload_n hx hb (show decode cJ0_isLatin1_aae02 6 = .ok (.aload_n 0, 1) by decide +kernel) rfl (lv_at hl 0 rfl) ?_
  refine vk_getf hx hb (hstr.1 k hk).2.1 hS hown (hts _ ssCo_l) (fun _ h => h) (show decode cJ0_isLatin1_aae02 7 = .ok (.getfield 15, 3) by decide +kernel) ?_
  refine lv_if_ne (tgt := 17) hx hb (show decode cJ0_isLatin1_aae02 10 = .ok (.ifCond .ne 7, 3) by decide +kernel) rfl (fun h => absurd rfl h) (fun _ => ?_)
  refine lv_iconst (v := 1) hx hb (show decode cJ0_isLatin1_aae02 13 = .ok (.iconst 1, 1) by decide +kernel) rfl ?_
  refine lv_goto (tgt := 18) hx hb (show decode cJ0_isLatin1_aae02 14 = .ok (.goto 4, 3) by decide +kernel) rfl ?_
  exact W.zret hx hb hr rfl (fun t ht hW => ⟨rfl, ht⟩) (fun q h => by cases h) (show decode cJ0_isLatin1_aae02 18 = .ok (.ireturn, 1) by decide +kernel)
theorem ss_length (l : Launch) (E : dsE) {k : Nat} (hk : k < 15) : ssMet l E yJ0_length_8abf5 cJ0_length_8abf5 1 (some .int) 1 [.ref (eK E k)] (some (.int (Int32.ofNat (dsSl.getD k 0)))) := by
  refine ss_met (by decide +kernel) (Nat.le_of_ble_eq_true rfl) ?_
  intro p e s mid below meth c arr hx hb hr hml hown hts hlocks hev hl
  have hown : s.vm.findClass RJ0 = some mid.cls := hown
  have hS : va_S (dsOwn E) s.heap s.heap [] := va_S.rf
  obtain ⟨-, -, -, ⟨hstr, -, hcs, -⟩, -, -⟩ := id hev
  have hl : lv_has arr 1 [(0, .ref (eK E k))] := hl
  refine lv_aload_n hx hb (show decode cJ0_length_8abf5 0 = .ok (.aload_n 0, 1) by decide +kernel) rfl (lv_at hl 0 rfl) ?_
  refine vk_getf hx hb (hstr.1 k hk).2.2.1 hS hown (hts _ ssVal_l) (fun _ h => h) (show decode cJ0_length_8abf5 1 = .ok (.getfield 9, 3) by decide +kernel) ?_
  refine va_tlen hx hb (hstr.1 k hk).2.2.2 hS rfl (show decode cJ0_length_8abf5 4 = .ok (.arraylength, 1) by decide +kernel) ?_
  refine lv_aload_n hx hb (show decode cJ0_length_8abf5 5 = .ok (.aload_n 0, 1) by decide +kernel) rfl (lv_at hl 0 rfl) ?_
  refine ss_after (va_runV (As := []) (rest := [.int (Int32.ofNat (dsSl.getD k 0))]) (b := eK E k) (C := RJ0) (bytes := cJ0_coder_7d493) (maxL := 1) (ret := some .byte) ⟨hx, hb, hml, hown, hts⟩ (ss_coder l E hk s.heap)
    ⟨callB_of 0 hts (ss_good ssCod_c) rfl rfl rfl (hts _ ssI0) (hts _ ssCod_l) ⟨by decide +kernel, by decide +kernel, by decide +kernel⟩ ⟨Nat.le_of_ble_eq_true rfl, Nat.le_of_ble_eq_true rfl⟩, hts _ ssCod_i, hts _ ssCod_s⟩
    ⟨ssP_blind, vk_recv hstr hk hS, fun U hU hW => ⟨rfl, hU, hev.moved hU hW hS⟩⟩ rfl rfl hl.1 rfl (lv_room (Nat.le_of_ble_eq_true rfl)) (show decode cJ0_length_8abf5 6 = .ok (.invokevirtual 335, 3) by decide +kernel) ⟨Nat.le_refl _, Nat.le_refl _⟩) ?_
  refine lv_ishr hx hb (show decode cJ0_length_8abf5 9 = .ok (.ishr, 1) by decide +kernel) ?_
  refine lv_topi (fun y ey => ?_)
  rw [(ss_f1 k hk).1] at ey
  subst ey
  exact W.iret hx hb hr (fun t ht hW => ⟨rfl, ht⟩) (fun q h => by cases h) (show decode cJ0_length_8abf5 10 = .ok (.ireturn, 1) by decide +kernel)
theorem ss_check (l : Launch) (E : dsE) {i n : Int32} {v : Value} (h0 : ¬ i < 0) (h1 : i < n) (hv : v = .null ∨ ∃ t, v = .ref t) : ssMet l E yJ3_checkIndex_8e157 cJ3_checkIndex_8e157 3 (some .int) 0 [.int i, .int n, v] (some (.int i)) := by
  refine ss_met (by decide +kernel) (by rcases hv with rfl | ⟨t, rfl⟩ <;> exact Nat.le_of_ble_eq_true rfl) ?_
  intro p e s mid below meth c arr hx hb hr hml hown hts hlocks hev hl
  have hl : lv_has arr 3 [(0, .int i), (1, .int n), (2, v)] := hl
  refine lv_iload_n hx hb (show decode cJ3_checkIndex_8e157 0 = .ok (.iload_n 0, 1) by decide +kernel) rfl (lv_at hl 0 rfl) ?_
  refine lv_if_lt (tgt := 9) hx hb (show decode cJ3_checkIndex_8e157 1 = .ok (.ifCond .lt 8, 3) by decide +kernel) rfl (fun h => absurd h h0) (fun _ => ?_)
  refine lv_iload_n hx hb (show decode cJ3_checkIndex_8e157 4 = .ok (.iload_n 0, 1) by decide +kernel) rfl (lv_at hl 0 rfl) ?_
  refine lv_iload_n hx hb (show decode cJ3_checkIndex_8e157 5 = .ok (.iload_n 1, 1) by decide +kernel) rfl (lv_at hl 1 rfl) ?_
  refine lv_icmp_lt (tgt := 16) hx hb (show decode cJ3_checkIndex_8e157 6 = .ok (.if_icmp .lt 10, 3) by decide +kernel) rfl (fun _ => ?_) (fun h => absurd h1 h)
  refine lv_iload_n hx hb (show decode cJ3_checkIndex_8e157 16 = .ok (.iload_n 0, 1) by decide +kernel) rfl (lv_at hl 0 rfl) ?_
  exact W.iret hx hb hr (fun t ht hW => ⟨rfl, ht⟩) (fun q h => by cases h) (show decode cJ3_checkIndex_8e157 17 = .ok (.ireturn, 1) by decide +kernel)
theorem ss_checkS (l : Launch) (E : dsE) {i n : Int32} (h0 : ¬ i < 0) (h1 : i < n) : ssMet l E yJ0_checkIndex_df160 cJ0_checkIndex_df160 2 none 1 [.int i, .int n] none := by
  refine ss_met (by decide +kernel) (Nat.le_of_ble_eq_true rfl) ?_
  intro p e s mid below meth c arr hx hb hr hml hown hts hlocks hev hl
  have hown : s.vm.findClass RJ0 = some mid.cls := hown
  have hS : va_S (dsOwn E) s.heap s.heap [] := va_S.rf
  obtain ⟨-, -, -, ⟨hstr, -, hcs, hzq⟩, -, -⟩ := id hev
  have hl : lv_has arr 2 [(0, .int i), (1, .int n)] := hl
  have go : ∀ v : Value, (v = .null ∨ ∃ t, v = .ref t) → W p l e (ssRm 1) s mid [Value.int i, Value.int n].toArray below meth c s.heap [] 0 0 (MQ below (ssQ s.heap none) [Value.int i, Value.int n].toArray s 0 0 (fun _ => False)) (F0 mid 5 arr [v, .int n, .int i]) := by
    intro v hv
    refine ss_after (va_runS (As := [.int i, .int n, v]) (rest := []) (bytes := cJ3_checkIndex_8e157) (maxL := 3) (ret := some .int) ⟨hx, hb, hml, hown, hts⟩ (ss_check l E h0 h1 hv s.heap)
      ⟨callB_of 3 hts (ss_good ssPc_c) rfl rfl rfl (hts _ ssI3) (hts _ ssPc_l) ⟨by decide +kernel, by decide +kernel, by decide +kernel⟩ ⟨Nat.le_of_ble_eq_true rfl, Nat.le_of_ble_eq_true rfl⟩, hts _ ssPc_s⟩
      ⟨ssP_blind, fun U hU hW => ⟨rfl, hU, hev.moved hU hW hS⟩⟩ rfl rfl hl.1 rfl (lv_room (Nat.le_of_ble_eq_true rfl)) (show decode cJ0_checkIndex_df160 5 = .ok (.invokestatic 1059, 3) by decide +kernel) ⟨Nat.le_refl _, Nat.le_refl _⟩) ?_
    refine lv_pop hx hb (show decode cJ0_checkIndex_df160 8 = .ok (.pop, 1) by decide +kernel) rfl ?_
    exact W.vret hx hb hr (fun t ht hW => ⟨rfl, ht⟩) (fun q h => by cases h) (show decode cJ0_checkIndex_df160 9 = .ok (.return_, 1) by decide +kernel)
  refine lv_iload_n hx hb (show decode cJ0_checkIndex_df160 0 = .ok (.iload_n 0, 1) by decide +kernel) rfl (lv_at hl 0 rfl) ?_
  refine lv_iload_n hx hb (show decode cJ0_checkIndex_df160 1 = .ok (.iload_n 1, 1) by decide +kernel) rfl (lv_at hl 1 rfl) ?_
  rcases hzq with hz | ⟨t, hz⟩
  · refine va_gets hx hb hz hS hown (hts _ ssFm_l) (fun _ h => h) (show decode cJ0_checkIndex_df160 2 = .ok (.getstatic 1053, 3) by decide +kernel) ?_
    exact go _ (Or.inl rfl)
  · refine va_gets hx hb hz hS hown (hts _ ssFm_l) (fun _ h => h) (show decode cJ0_checkIndex_df160 2 = .ok (.getstatic 1053, 3) by decide +kernel) ?_
    exact go _ (Or.inr ⟨t, rfl⟩)
theorem ss_char1 (l : Launch) (E : dsE) {k j : Nat} (hk : k < 15) (hj : j < dsSl.getD k 0) : ssMet l E yJ1_charAt_3b067 cJ1_charAt_3b067 2 (some .char) 2 [.ref (eV E k), .int (Int32.ofNat j)] (some (.int (Int32.ofInt (dsChr k ((j : Nat) : Int))))) := by
  obtain ⟨f1, f2, f3, f4, f5, f6⟩ := ss_f2 k hk j (by have := (ss_f1 k hk).2.2.2; omega) hj
  refine ss_met (by decide +kernel) (Nat.le_of_ble_eq_true rfl) ?_
  intro p e s mid below meth c arr hx hb hr hml hown hts hlocks hev hl
  have hown : s.vm.findClass RJ1 = some mid.cls := hown
  have hS : va_S (dsOwn E) s.heap s.heap [] := va_S.rf
  obtain ⟨-, -, -, ⟨hstr, -, hcs, hzq⟩, -, -⟩ := id hev
  have hl : lv_has arr 2 [(0, .ref (eV E k)), (1, .int (Int32.ofNat j))] := hl
  refine lv_iload_n hx hb (show decode cJ1_charAt_3b067 0 = .ok (.iload_n 1, 1) by decide +kernel) rfl (lv_at hl 1 rfl) ?_
  refine lv_aload_n hx hb (show decode cJ1_charAt_3b067 1 = .ok (.aload_n 0, 1) by decide +kernel) rfl (lv_at hl 0 rfl) ?_
  refine va_tlen hx hb (hstr.1 k hk).2.2.2 hS rfl (show decode cJ1_charAt_3b067 2 = .ok (.arraylength, 1) by decide +kernel) ?_
  refine ss_after (va_runS (As := [.int (Int32.ofNat j), .int (Int32.ofNat (dsSl.getD k 0))]) (rest := []) (bytes := cJ0_checkIndex_df160) (maxL := 2) (ret := none) ⟨hx, hb, hml, hown, hts⟩ (ss_checkS l E f1 f2 s.heap)
    ⟨callB_of 2 hts (ss_good ssCk_c) rfl rfl rfl (hts _ ssI0) (hts _ ssCk_l) ⟨by decide +kernel, by decide +kernel, by decide +kernel⟩ ⟨Nat.le_of_ble_eq_true rfl, Nat.le_of_ble_eq_true rfl⟩, hts _ ssCk_s⟩
    ⟨ssP_blind, fun U hU hW => ⟨rfl, hU, hev.moved hU hW hS⟩⟩ rfl rfl hl.1 rfl (lv_room (Nat.le_of_ble_eq_true rfl)) (show decode cJ1_charAt_3b067 3 = .ok (.invokestatic 9, 3) by decide +kernel) ⟨Nat.le_refl _, Nat.le_refl _⟩) ?_
  refine lv_aload_n hx hb (show decode cJ1_charAt_3b067 6 = .ok (.aload_n 0, 1) by decide +kernel) rfl (lv_at hl 0 rfl) ?_
  refine lv_iload_n hx hb (show decode cJ1_charAt_3b067 7 = .ok (.iload_n 1, 1) by decide +kernel) rfl (lv_at hl 1 rfl) ?_
  refine va_tb hx hb (hstr.1 k hk).2.2.2 hS (fun q => by rcases q with q | q; exact f1 q; rw [f3] at q; omega) (v := .int ((dsSb.getD k []).getD j 0)) (by rw [f3]) (show decode cJ1_charAt_3b067 8 = .ok (.baload, 1) by decide +kernel) ?_
  refine lv_sipush (v := 255) hx hb (show decode cJ1_charAt_3b067 9 = .ok (.sipush 255, 3) by decide +kernel) rfl ?_
  refine lv_iand hx hb (show decode cJ1_charAt_3b067 12 = .ok (.iand, 1) by decide +kernel) ?_
  refine lv_i2c hx hb (show decode cJ1_charAt_3b067 13 = .ok (.i2c, 1) by decide +kernel) f4 ?_
  exact W.zret hx hb hr (by show Value.int _ = _; rw [f6]) (fun t ht hW => ⟨rfl, ht⟩) (fun q h => by cases h) (show decode cJ1_charAt_3b067 14 = .ok (.ireturn, 1) by decide +kernel)
theorem ss_charAt (l : Launch) (E : dsE) {k j : Nat} (hk : k < 15) (hj : j < dsSl.getD k 0) : ssMet l E yJ0_charAt_5068e cJ0_charAt_5068e 2 (some .char) 3 [.ref (eK E k), .int (Int32.ofNat j)] (some (.int (Int32.ofInt (dsChr k ((j : Nat) : Int))))) := by
  obtain ⟨f1, f2, f3, f4, f5, f6⟩ := ss_f2 k hk j (by have := (ss_f1 k hk).2.2.2; omega) hj
  refine ss_met (by decide +kernel) (Nat.le_of_ble_eq_true rfl) ?_
  intro p e s mid below meth c arr hx hb hr hml hown hts hlocks hev hl
  have hown : s.vm.findClass RJ0 = some mid.cls := hown
  have hS : va_S (dsOwn E) s.heap s.heap [] := va_S.rf
  obtain ⟨-, -, -, ⟨hstr, -, hcs, hzq⟩, -, -⟩ := id hev
  have hl : lv_has arr 2 [(0, .ref (eK E k)), (1, .int (Int32.ofNat j))] := hl
  refine lv_aload_n hx hb (show decode cJ0_charAt_5068e 0 = .ok (.aload_n 0, 1) by decide +kernel) rfl (lv_at hl 0 rfl) ?_
  refine ss_after (va_runV (As := []) (rest := []) (b := eK E k) (C := RJ0) (bytes := cJ0_isLatin1_aae02) (maxL := 1) (ret := some .boolean) ⟨hx, hb, hml, hown, hts⟩ (ss_latin l E hk s.heap)
    ⟨callB_of 0 hts (ss_good ssLat_c) rfl rfl rfl (hts _ ssI0) (hts _ ssLat_l) ⟨by decide +kernel, by decide +kernel, by decide +kernel⟩ ⟨Nat.le_of_ble_eq_true rfl, Nat.le_of_ble_eq_true rfl⟩, hts _ ssLat_i, hts _ ssLat_s⟩
    ⟨ssP_blind, vk_recv hstr hk hS, fun U hU hW => ⟨rfl, hU, hev.moved hU hW hS⟩⟩ rfl rfl hl.1 rfl (lv_room (Nat.le_of_ble_eq_true rfl)) (show decode cJ0_charAt_5068e 1 = .ok (.invokevirtual 492, 3) by decide +kernel) ⟨Nat.le_refl _, Nat.le_refl _⟩) ?_
  refine lv_if_eq (tgt := 16) hx hb (show decode cJ0_charAt_5068e 4 = .ok (.ifCond .eq 12, 3) by decide +kernel) rfl (fun h => absurd h (by decide)) (fun _ => ?_)
  refine lv_aload_n hx hb (show decode cJ0_charAt_5068e 7 = .ok (.aload_n 0, 1) by decide +kernel) rfl (lv_at hl 0 rfl) ?_
  refine vk_getf hx hb (hstr.1 k hk).2.2.1 hS hown (hts _ ssVal_l) (fun _ h => h) (show decode cJ0_charAt_5068e 8 = .ok (.getfield 9, 3) by decide +kernel) ?_
  refine lv_iload_n hx hb (show decode cJ0_charAt_5068e 11 = .ok (.iload_n 1, 1) by decide +kernel) rfl (lv_at hl 1 rfl) ?_
  refine ss_after (va_runS (As := [.ref (eV E k), .int (Int32.ofNat j)]) (rest := []) (bytes := cJ1_charAt_3b067) (maxL := 2) (ret := some .char) ⟨hx, hb, hml, hown, hts⟩ (ss_char1 l E hk hj s.heap)
    ⟨callB_of 2 hts (ss_good ssCh1_c) rfl rfl rfl (hts _ ssI1) (hts _ ssCh1_l) ⟨by decide +kernel, by decide +kernel, by decide +kernel⟩ ⟨Nat.le_of_ble_eq_true rfl, Nat.le_of_ble_eq_true rfl⟩, hts _ ssCh1_s⟩
    ⟨ssP_blind, fun U hU hW => ⟨rfl, hU, hev.moved hU hW hS⟩⟩ rfl rfl hl.1 rfl (lv_room (Nat.le_of_ble_eq_true rfl)) (show decode cJ0_charAt_5068e 12 = .ok (.invokestatic 495, 3) by decide +kernel) ⟨Nat.le_refl _, Nat.le_refl _⟩) ?_
  exact W.zret hx hb hr (by show Value.int _ = _; rw [f6]) (fun t ht hW => ⟨rfl, ht⟩) (fun q h => by cases h) (show decode cJ0_charAt_5068e 15 = .ok (.ireturn, 1) by decide +kernel)
