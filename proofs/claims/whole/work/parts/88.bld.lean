/-! cells made one behind another, and what they hold; more steps of machine A -/
abbrev zCl := Int × Int × Int × List Int
def zCd (q : zCl) (r : Int → Int) : Prop := r (-1) = q.1 ∧ (100 ≤ q.1 → r (-2) = q.2.1 ∧ ∀ i : Int, (q.2.2.2.length : Int) ≤ i → r i = q.2.2.1) ∧ ∀ k : Nat, k < q.2.2.2.length → r (k : Int) = q.2.2.2.getD k 0
def zB (M0 : dsMem) (a : Int) (cs : List zCl) (M : dsMem) : Prop :=
  M (-1) 0 = a + (cs.length : Int) ∧ (∀ (i : Nat) (q : zCl), cs[i]? = some q → zCd q (M (a + (i : Int)))) ∧ ∀ x j : Int, ¬ (a ≤ x ∧ x < a + (cs.length : Int)) → ¬ (x = -1 ∧ j = 0) → M x j = M0 x j
theorem zB_nil {M : dsMem} : zB M (M (-1) 0) [] M := ⟨by simp, fun i q h => by simp at h, fun _ _ _ _ => rfl⟩
theorem zB_new {M0 M M' : dsMem} {a : Int} {cs : List zCl} {q : zCl} (h : zB M0 a cs M) (ha : 0 ≤ a) (hq : zCd q (M' (a + (cs.length : Int)))) (hn : M' (-1) 0 = a + (cs.length : Int) + 1) (ho : ∀ x j : Int, x ≠ a + (cs.length : Int) → ¬ (x = -1 ∧ j = 0) → M' x j = M x j) : zB M0 a (cs ++ [q]) M' := by
  obtain ⟨h1, h2, h3⟩ := h
  refine ⟨by rw [hn, List.length_append]; simp only [List.length_cons, List.length_nil]; omega, fun i q' hi => ?_, fun x j hx hj => ?_⟩
  · rw [List.getElem?_append] at hi
    split at hi
    · rename_i hl
      have e : M' (a + (i : Int)) = M (a + (i : Int)) := by
        funext j
        exact ho _ _ (by omega) (by omega)
      rw [e]
      exact h2 i q' hi
    · rename_i hl
      have hz : i - cs.length = 0 := by
        rcases Nat.eq_zero_or_pos (i - cs.length) with z | z
        · exact z
        · rw [List.getElem?_eq_none (by simp only [List.length_cons, List.length_nil]; omega)] at hi; cases hi
      rw [hz] at hi
      cases hi
      rw [show (i : Int) = (cs.length : Int) by omega]
      exact hq
  · rw [List.length_append] at hx
    simp only [List.length_cons, List.length_nil] at hx
    rw [ho _ _ (by omega) hj]
    exact h3 x j (by omega) hj
theorem zB_arr {M0 M : dsMem} {a : Int} {cs : List zCl} {kd n d : Int} (h : zB M0 a cs M) (ha : 0 ≤ a) : zB M0 a (cs ++ [(kd, n, d, [])]) (dsNew M kd n d) := by
  have h1 := h.1
  refine zB_new h ha ⟨?_, fun _ => ⟨?_, fun i hi => ?_⟩, fun k hk => by simp at hk⟩ ?_ ?_
  · unfold dsNew; rw [if_pos h1.symm, if_pos rfl]
  · unfold dsNew; rw [if_pos h1.symm, if_neg (by omega), if_pos rfl]
  · simp only [List.length_nil] at hi
    unfold dsNew; rw [if_pos h1.symm, if_neg (by omega), if_neg (by omega)]
  · unfold dsNew; rw [if_neg (by omega), if_pos ⟨rfl, rfl⟩, h1]
  · intro x j hx hj
    unfold dsNew; rw [if_neg (by omega), if_neg hj]
theorem zB_obj {M0 M : dsMem} {a : Int} {cs : List zCl} {c : Nat} {fs : List Int} (h : zB M0 a cs M) (ha : 0 ≤ a) (hc : c < 100) (hf : ∀ k, k < fs.length → dsDf (dsY c k) = fs.getD k 0) : zB M0 a (cs ++ [((c : Int), 0, 0, fs)]) (dsNewO M c) := by
  have h1 := h.1
  refine zB_new h ha ⟨?_, fun q => by have : (100 : Int) ≤ (c : Int) := q; omega, fun k hk => ?_⟩ ?_ ?_
  · unfold dsNewO; rw [if_pos h1.symm, if_pos rfl]
  · unfold dsNewO; rw [if_pos h1.symm, if_neg (by omega)]
    exact hf k hk
  · unfold dsNewO; rw [if_neg (by omega), if_pos ⟨rfl, rfl⟩, h1]
  · intro x j hx hj
    unfold dsNewO; rw [if_neg (by omega), if_neg hj]
theorem zB_app {M0 M M' : dsMem} {a b : Int} {cs cs' : List zCl} (h : zB M0 a cs M) (ha : 0 ≤ a) (hb : b = a + (cs.length : Int)) (h' : zB M b cs' M') : zB M0 a (cs ++ cs') M' := by
  subst hb
  obtain ⟨h1, h2, h3⟩ := h
  obtain ⟨g1, g2, g3⟩ := h'
  refine ⟨by rw [g1, List.length_append]; omega, fun i q hi => ?_, fun x j hx hj => ?_⟩
  · rw [List.getElem?_append] at hi
    split at hi
    · rename_i hl
      have e : M' (a + (i : Int)) = M (a + (i : Int)) := by
        funext j
        exact g3 _ _ (by omega) (by omega)
      rw [e]
      exact h2 i q hi
    · rename_i hl
      have := g2 _ q hi
      rwa [show a + (cs.length : Int) + ((i - cs.length : Nat) : Int) = a + (i : Int) by omega] at this
  · rw [List.length_append] at hx
    rw [g3 _ _ (by omega) hj]
    exact h3 x j (by omega) hj
theorem zB_set {M0 M : dsMem} {a k x b : Int} {cs : List zCl} {i : Nat} {q q' : zCl} (h : zB M0 a cs M) (ha : 0 ≤ a) (hi : cs[i]? = some q) (hb : b = a + (i : Int)) (hq : ∀ r : Int → Int, zCd q r → zCd q' (fun j => if j = k then x else r j)) : zB M0 a (cs.set i q') (dsSet M b k x) := by
  subst hb
  obtain ⟨h1, h2, h3⟩ := h
  have hl : i < cs.length := (List.getElem?_eq_some_iff.mp hi).1
  refine ⟨by rw [List.length_set, dsSet_ne (by omega)]; exact h1, fun n p hn => ?_, fun y j hy hj => ?_⟩
  · by_cases e : i = n
    · subst e
      rw [List.getElem?_set_self hl] at hn
      cases hn
      have := hq _ (h2 i q hi)
      have e2 : dsSet M (a + (i : Int)) k x (a + (i : Int)) = fun j => if j = k then x else M (a + (i : Int)) j := by
        funext j
        exact dsSet_at j
      rw [e2]
      exact this
    · rw [List.getElem?_set_ne e] at hn
      rw [dsSet_ne (by omega)]
      exact h2 n p hn
  · rw [List.length_set] at hy
    rw [dsSet_ne (by omega)]
    exact h3 y j hy hj
theorem zCd_fld {c l d x : Int} {fs : List Int} {k : Nat} (hc : c < 100) (hk : k < fs.length) (r : Int → Int) (h : zCd (c, l, d, fs) r) : zCd (c, l, d, fs.set k x) (fun j => if j = (k : Int) then x else r j) := by
  obtain ⟨h1, h2, h3⟩ := h
  refine ⟨by show (if (-1 : Int) = (k : Int) then x else r (-1)) = c; rw [if_neg (by omega)]; exact h1, fun q => by have : (100 : Int) ≤ c := q; omega, fun n hn => ?_⟩
  have hn : n < (fs.set k x).length := hn
  rw [List.length_set] at hn
  show (if (n : Int) = (k : Int) then x else r n) = (fs.set k x).getD n 0
  rw [List.getD_eq_getElem?_getD]
  by_cases e : k = n
  · subst e
    rw [if_pos rfl, List.getElem?_set_self hn]
    rfl
  · rw [if_neg (by omega), List.getElem?_set_ne e, ← List.getD_eq_getElem?_getD]
    exact h3 n hn
theorem zCd_app {c l d x kk : Int} {fs : List Int} (hk : kk = (fs.length : Int)) (r : Int → Int) (h : zCd (c, l, d, fs) r) : zCd (c, l, d, fs ++ [x]) (fun j => if j = kk then x else r j) := by
  subst hk
  obtain ⟨h1, h2, h3⟩ := h
  refine ⟨by show (if (-1 : Int) = (fs.length : Int) then x else r (-1)) = c; rw [if_neg (by omega)]; exact h1, fun q => ⟨?_, fun i hi => ?_⟩, fun n hn => ?_⟩
  · show (if (-2 : Int) = (fs.length : Int) then x else r (-2)) = l
    rw [if_neg (by omega)]; exact (h2 q).1
  · have hi : (((fs ++ [x]).length : Nat) : Int) ≤ i := hi
    rw [List.length_append] at hi
    simp only [List.length_cons, List.length_nil] at hi
    show (if i = (fs.length : Int) then x else r i) = d
    rw [if_neg (by omega)]; exact (h2 q).2 i (by show (fs.length : Int) ≤ i; omega)
  · have hn : n < (fs ++ [x]).length := hn
    rw [List.length_append] at hn
    simp only [List.length_cons, List.length_nil] at hn
    show (if (n : Int) = (fs.length : Int) then x else r n) = (fs ++ [x]).getD n 0
    rw [List.getD_eq_getElem?_getD, List.getElem?_append]
    by_cases e : n = fs.length
    · subst e
      rw [if_pos rfl, if_neg (by omega), Nat.sub_self]
      rfl
    · rw [if_neg (by omega), if_pos (by omega), ← List.getD_eq_getElem?_getD]
      exact h3 n (by show n < fs.length; omega)
theorem zB_put {M0 M : dsMem} {a x c l d : Int} {fs : List Int} {cs : List zCl} {k : Nat} (h : zB M0 a ((c, l, d, fs) :: cs) M) (ha : 0 ≤ a) (hc : c < 100) (hk : k < fs.length) : zB M0 a ((c, l, d, fs.set k x) :: cs) (dsSet M a (k : Int) x) :=
  zB_set (i := 0) (q' := (c, l, d, fs.set k x)) h ha rfl (by simp) (fun r hr => zCd_fld hc hk r hr)
theorem zB_c {M0 M : dsMem} {a c l d : Int} {fs : List Int} {cs : List zCl} (h : zB M0 a ((c, l, d, fs) :: cs) M) : M a (-1) = c := by
  have := (h.2.1 0 _ rfl).1
  simpa using this
theorem zB_f {M0 M : dsMem} {a c l d x : Int} {fs : List Int} {cs : List zCl} {k : Nat} (h : zB M0 a ((c, l, d, fs) :: cs) M) (hk : k < fs.length) (hx : fs.getD k 0 = x) : M a (k : Int) = x := by
  have := (h.2.1 0 _ rfl).2.2 k hk
  rw [← hx]
  simpa using this
section
variable {m pc nx tg : Nat} {ls st r : List dsV} {u : Nat × Nat} {M : dsMem} {Q : dsQT}
theorem a_max {i t w : Nat} {x y : Int} (hd : dcd m pc (.invokestatic i) nx tg) (hk : dsLk (dsKT (dsCl m)) i = some (10, t, w)) (hr : 1 ≤ dsRk m ∧ dsCs r ≤ 8) (k : dsA m nx ls (vI (if x < y then y else x) :: r) u M Q) : dsA m pc ls (vI y :: vI x :: r) u M Q := by
  obtain ⟨len, h1, h2, h3, h4⟩ := hd
  obtain rfl : len = 3 := h2.resolve_left (fun q => by cases q)
  obtain rfl : pc + 3 = nx := h3.resolve_left (fun q => by cases q)
  refine dsA_st h1 h2 ?_
  simp only [dsI, hk]
  rw [if_pos hr]
  exact k
theorem a_lconst {n : Fin 2} (hd : dcd m pc (.lconst n) nx tg) (k : dsA m nx ls (vJ ((n : Nat) : Int) :: r) u M Q) : dsA m pc ls r u M Q := by
  obtain ⟨len, h1, h2, h3, h4⟩ := hd
  obtain rfl : len = 1 := h2.resolve_left (fun q => by cases q)
  obtain rfl : pc + 1 = nx := h3.resolve_left (fun q => by cases q)
  exact dsA_st h1 h2 (k)
theorem a_iastore {i a x : Int} (hd : dcd m pc (.iastore) nx tg) (h : M a (-1) = 100 ∧ 0 ≤ i ∧ i < M a (-2)) (k : dsA m nx ls r u (dsSet M a i x) Q) : dsA m pc ls (vI x :: vI i :: vR a :: r) u M Q := by
  obtain ⟨len, h1, h2, h3, h4⟩ := hd
  obtain rfl : len = 1 := h2.resolve_left (fun q => by cases q)
  obtain rfl : pc + 1 = nx := h3.resolve_left (fun q => by cases q)
  exact dsA_st h1 h2 (⟨h, k⟩)
theorem a_put {i c j w : Nat} {a x : Int} {v : dsV} (hd : dcd m pc (.putfield i) nx tg) (hf : dsLk (dsFT (dsCl m)) i = some (c, j, w)) (hw : (dsT c j).2.2.2 = false ∨ (dsKd m = 2 ∧ dsCl m = c)) (hc : M a (-1) = (c : Int)) (ht : ∀ K : Int → Prop, K x → dsPv (dsY c j) v K) (k : dsA m nx ls r u (dsSet M a j x) Q) : dsA m pc ls (v :: vR a :: r) u M Q :=
  a_putfield hd hf hw hc (ht _ k)
variable {p1 p2 p3 p4 p5 p6 t1 t2 t3 t4 t5 t6 i1 i2 i3 c1 c2 k w w2 w3 : Nat} {M0 : dsMem} {a l d x n : Int} {fs fs2 : List Int} {cs cs2 : List zCl} {v : dsV}
/-- a field gets a value -/
theorem st_fld (hb : zB M0 a (((c1 : Int), l, d, fs) :: cs) M) (ha : 0 ≤ a) (hx : dsg ls 0 = vR a) (d1 : dcd m pc (.aload_n 0) p1 t1) (hp : ∀ (st : List dsV) (M : dsMem), dsA m p2 ls (v :: st) u M Q → dsA m p1 ls st u M Q) (d2 : dcd m p2 (.putfield i1) p3 t2) (hf : dsLk (dsFT (dsCl m)) i1 = some (c1, k, w)) (hw : (dsT c1 k).2.2.2 = false ∨ (dsKd m = 2 ∧ dsCl m = c1))
    (ht : ∀ K : Int → Prop, K x → dsPv (dsY c1 k) v K) (hk : k < fs.length) (hc : c1 < 100) (fs' : List Int) (hfs : fs.set k x = fs') (kk : ∀ M' : dsMem, zB M0 a (((c1 : Int), l, d, fs') :: cs) M' → dsA m p3 ls [] u M' Q) : dsA m pc ls [] u M Q := by
  subst hfs
  refine a_aload_n d1 hx (hp _ _ ?_)
  exact a_put d2 hf hw (zB_c hb) ht (kk _ (zB_put hb ha (by omega) hk))
/-- a field gets a new row -/
theorem st_row {t : ArrayType} (hb : zB M0 a (((c1 : Int), l, d, fs) :: cs) M) (ha : 0 ≤ a) (hx : dsg ls 0 = vR a) (d1 : dcd m pc (.aload_n 0) p1 t1) (hp : ∀ M : dsMem, dsA m p2 ls [vI n, vR a] u M Q → dsA m p1 ls [vR a] u M Q) (d2 : dcd m p2 (.newarray t) p3 t2) (htt : ¬ dsKn t = -7) (hn : 0 ≤ n ∧ n ≤ 100000) (hu : u.1 + 1 ≤ dsMc m ∧ u.2 + n.toNat ≤ dsMs m)
    (d3 : dcd m p3 (.putfield i1) p4 t3) (hf : dsLk (dsFT (dsCl m)) i1 = some (c1, k, w)) (hw : (dsT c1 k).2.2.2 = false ∨ (dsKd m = 2 ∧ dsCl m = c1))
    (hxx : a + (((cs.length + 1 : Nat)) : Int) = x) (ht : ∀ K : Int → Prop, K x → dsPv (dsY c1 k) (vR x) K) (hk : k < fs.length) (hc : c1 < 100) (fs' : List Int) (hfs : fs.set k x = fs') (cs' : List zCl) (hcs : cs ++ [(dsKn t, n, 0, [])] = cs') (u' : Nat × Nat) (hu' : (u.1 + 1, u.2 + n.toNat) = u')
    (kk : ∀ M' : dsMem, zB M0 a (((c1 : Int), l, d, fs') :: cs') M' → dsA m p4 ls [] u' M' Q) : dsA m pc ls [] u M Q := by
  subst hfs
  subst hcs
  subst hu'
  refine a_aload_n d1 hx (hp _ ?_)
  refine a_newarray d2 htt hn hu ?_
  have h1 := zB_arr (kd := dsKn t) (n := n) (d := 0) hb ha
  rw [show M (-1) 0 = x by rw [hb.1, ← hxx]; rfl]
  exact a_put d3 hf hw (zB_c h1) ht (kk _ (zB_put h1 ha (by omega) hk))
/-- a field gets a new row of references -/
theorem st_rowA (kd : Int) (hb : zB M0 a (((c1 : Int), l, d, fs) :: cs) M) (ha : 0 ≤ a) (hx : dsg ls 0 = vR a) (d1 : dcd m pc (.aload_n 0) p1 t1) (hp : ∀ (st : List dsV) (M : dsMem), dsA m p2 ls (vI n :: st) u M Q → dsA m p1 ls st u M Q) (d2 : dcd m p2 (.anewarray i2) p3 t2) (hkd : (dsLk (dsCT (dsCl m)) i2 = some (7, w2) ∧ kd = 104) ∨ (dsLk (dsCT (dsCl m)) i2 = some (5, w2) ∧ kd = 105)) (hn : 0 ≤ n ∧ n ≤ 100000) (hu : u.1 + 1 ≤ dsMc m ∧ u.2 + n.toNat ≤ dsMs m)
    (d3 : dcd m p3 (.putfield i1) p4 t3) (hf : dsLk (dsFT (dsCl m)) i1 = some (c1, k, w)) (hw : (dsT c1 k).2.2.2 = false ∨ (dsKd m = 2 ∧ dsCl m = c1))
    (hxx : a + (((cs.length + 1 : Nat)) : Int) = x) (ht : ∀ K : Int → Prop, K x → dsPv (dsY c1 k) (vR x) K) (hk : k < fs.length) (hc : c1 < 100) (fs' : List Int) (hfs : fs.set k x = fs') (cs' : List zCl) (hcs : cs ++ [(kd, n, -1, [])] = cs') (u' : Nat × Nat) (hu' : (u.1 + 1, u.2 + n.toNat) = u')
    (kk : ∀ M' : dsMem, zB M0 a (((c1 : Int), l, d, fs') :: cs') M' → dsA m p4 ls [] u' M' Q) : dsA m pc ls [] u M Q := by
  subst hfs
  subst hcs
  subst hu'
  refine a_aload_n d1 hx (hp _ _ ?_)
  have h1 := zB_arr (kd := kd) (n := n) (d := -1) hb ha
  have e1 : M (-1) 0 = x := by rw [hb.1, ← hxx]; rfl
  have fin := a_put (r := []) (u := (u.1 + 1, u.2 + n.toNat)) d3 hf hw (zB_c h1) ht (kk _ (zB_put h1 ha (by omega) hk))
  rcases hkd with ⟨hkd, rfl⟩ | ⟨hkd, rfl⟩
  · refine a_anew7 d2 hkd hn hu ?_
    rw [e1]
    exact fin
  · refine a_anew5 d2 hkd hn hu ?_
    rw [e1]
    exact fin
/-- a field gets a new object, made by its constructor -/
theorem st_new {t : Nat} {as : List dsV} (hb : zB M0 a (((c1 : Int), l, d, fs) :: cs) M) (ha : 0 ≤ a) (hx : dsg ls 0 = vR a) (d1 : dcd m pc (.aload_n 0) p1 t1) (d2 : dcd m p1 (.new i2) p2 t2) (hc2 : dsLk (dsCT (dsCl m)) i2 = some (c2, w2)) (hu : u.1 + 1 ≤ dsMc m ∧ u.2 + dsN c2 ≤ dsMs m) (d3 : dcd m p2 .dup p3 t3)
    (hxx : a + (((cs.length + 1 : Nat)) : Int) = x) (hf2 : ∀ j, j < fs2.length → dsDf (dsY c2 j) = fs2.getD j 0) (hc22 : c2 < 100)
    (hp : ∀ M1 : dsMem, zB M0 a (((c1 : Int), l, d, fs) :: (cs ++ [((c2 : Int), 0, 0, fs2)])) M1 → dsA m p4 ls (as.reverse ++ [vR x, vR x, vR a]) (u.1 + 1, u.2 + dsN c2) M1 Q → dsA m p3 ls [vR x, vR x, vR a] (u.1 + 1, u.2 + dsN c2) M1 Q)
    (d4 : dcd m p4 (.invokespecial i3) p5 t4) (hk4 : dsLk (dsKT (dsCl m)) i3 = some (2, t, w3) ∨ dsLk (dsKT (dsCl m)) i3 = some (4, t, w3)) (hpop : dsPop (dsNa t + 1) (as.reverse ++ [vR x, vR x, vR a]) [] = some (vR x :: as, [vR x, vR a])) (hrk : dsRk t < dsRk m ∧ dsCs [vR x, vR a] ≤ 8 ∧ (dsFl (vR x :: as)).length ≤ dsMx t) (hu2 : u.1 + 1 + dsMc t ≤ dsMc m ∧ u.2 + dsN c2 + dsMs t ≤ dsMs m)
    (hct : ∀ (M1 : dsMem) (Q' : dsQT), zB M x [((c2 : Int), 0, 0, fs2)] M1 → (∀ M', zB M x cs2 M' → Q' [] M') → dsA t 0 (dsIn t (vR x :: as)) [] (0, 0) M1 Q')
    (d5 : dcd m p5 (.putfield i1) p6 t5) (hf : dsLk (dsFT (dsCl m)) i1 = some (c1, k, w)) (hw : (dsT c1 k).2.2.2 = false ∨ (dsKd m = 2 ∧ dsCl m = c1))
    (ht : ∀ K : Int → Prop, K x → dsPv (dsY c1 k) (vR x) K) (hk : k < fs.length) (hc : c1 < 100) (fs' : List Int) (hfs : fs.set k x = fs') (cs' : List zCl) (hcs : cs ++ cs2 = cs') (u' : Nat × Nat) (hu' : (u.1 + 1 + dsMc t, u.2 + dsN c2 + dsMs t) = u')
    (kk : ∀ M' : dsMem, zB M0 a (((c1 : Int), l, d, fs') :: cs') M' → dsA m p6 ls [] u' M' Q) : dsA m pc ls [] u M Q := by
  subst hfs
  subst hcs
  subst hu'
  refine a_aload_n d1 hx ?_
  refine a_new d2 hc2 hu ?_
  have e1 : M (-1) 0 = x := by rw [hb.1, ← hxx]; rfl
  have hx0 : 0 ≤ x := by omega
  rw [e1]
  refine a_dupR d3 ?_
  have h1 : zB M0 a (((c1 : Int), l, d, fs) :: (cs ++ [((c2 : Int), 0, 0, fs2)])) (dsNewO M c2) := zB_obj (fs := fs2) hb ha hc22 hf2
  refine hp _ h1 ?_
  refine a_init d4 hk4 hpop hx0 hrk hu2 ?_
  have h2 : zB M x [((c2 : Int), 0, 0, fs2)] (dsNewO M c2) := by
    have h0 := zB_nil (M := M)
    rw [e1] at h0
    exact zB_obj (cs := []) (fs := fs2) h0 hx0 hc22 hf2
  refine hct _ _ h2 (fun M' hM' => ?_)
  have h3 : zB M0 a (((c1 : Int), l, d, fs) :: (cs ++ cs2)) M' := zB_app hb ha hxx.symm hM'
  exact a_put d5 hf hw (zB_c h3) ht (kk _ (zB_put h3 ha (by omega) hk))
end
