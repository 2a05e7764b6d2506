/-! rules of machine B -/
def bOf (ins : Instr) : Option Int := match ins with
  | .goto o => some o
  | .ifCond _ o => some o
  | .if_icmp _ o => some o
  | .ifnull o => some o
  | .ifnonnull o => some o
  | _ => none
def dcd (m pc : Nat) (ins : Instr) (nx tg : Nat) : Prop := ∃ len, decode (dsCd m) pc = .ok (ins, len) ∧ (dsTs ins = true ∨ len = dsLn ins) ∧ (dsTs ins = true ∨ pc + len = nx) ∧ ∀ o, bOf ins = some o → (pc : Int) + o = (tg : Int)
def dck (m : Nat) (e : Nat × Instr × Nat × Nat) : Bool := match decode (dsCd m) e.1 with
  | .ok (i, len) => decide (i = e.2.1) && ((dsTs i || (decide (len = dsLn i) && decide (e.1 + len = e.2.2.1))) && (match bOf i with
    | some o => decide ((e.1 : Int) + o = (e.2.2.2 : Int))
    | none => true))
  | .error _ => false
theorem dck_ok {m pc nx tg : Nat} {ins : Instr} (h : dck m (pc, ins, nx, tg) = true) : dcd m pc ins nx tg := by
  unfold dck at h
  split at h
  · rename_i i len hd
    simp only [Bool.and_eq_true, Bool.or_eq_true, decide_eq_true_eq] at h
    obtain ⟨rfl, h2, h3⟩ := h
    refine ⟨len, hd, ?_, ?_, fun o ho => ?_⟩
    · rcases h2 with q | q
      · exact Or.inl q
      · exact Or.inr q.1
    · rcases h2 with q | q
      · exact Or.inl q
      · exact Or.inr q.2
    · rw [ho] at h3
      exact of_decide_eq_true h3
  · cases h
theorem dcl_ok {m : Nat} {L : List (Nat × Instr × Nat × Nat)} (h : L.all (dck m) = true) {j pc nx tg : Nat} {ins : Instr} (hj : L[j]? = some (pc, ins, nx, tg)) : dcd m pc ins nx tg := dck_ok (List.all_eq_true.mp h _ (List.mem_of_getElem? hj))
theorem bLe_nil {ls : List dsU} : bLe [] ls := fun _ => Or.inl rfl
theorem bLe_x {r' r : List dsU} {b : dsU} (h : bLe r' r) : bLe (uX 0 :: r') (b :: r) := fun i => by
  cases i with
  | zero => exact Or.inl rfl
  | succ i => exact h i
theorem bLe_s {r' r : List dsU} {b : dsU} (h : bLe r' r) : bLe (b :: r') (b :: r) := fun i => by
  cases i with
  | zero => exact Or.inr rfl
  | succ i => exact h i
theorem dsw_dsw (x : Int) : dsw (dsw x) = dsw x := by unfold dsw; rw [ds_o32]
theorem dsw64_dsw (x : Int) : dsw64 (dsw64 x) = dsw64 x := by unfold dsw64; rw [ds_o64]
theorem dsw_inj {x y : Int} (h : dsw x = dsw y) : Int32.ofInt x = Int32.ofInt y := by rw [← dsw_o x, h, dsw_o]
theorem dsw64_inj {x y : Int} (h : dsw64 x = dsw64 y) : Int64.ofInt x = Int64.ofInt y := by rw [← dsw64_o x, h, dsw64_o]
theorem dsw_add {x y X Y : Int} (hx : dsw x = dsw X) (hy : dsw y = dsw Y) : dsw (x + y) = dsw (X + Y) := by
  unfold dsw; rw [Int32.ofInt_add, Int32.ofInt_add, dsw_inj hx, dsw_inj hy]
theorem dsw_sub {x y X Y : Int} (hx : dsw x = dsw X) (hy : dsw y = dsw Y) : dsw (x - y) = dsw (X - Y) := by
  unfold dsw; rw [Int32.ofInt_sub, Int32.ofInt_sub, dsw_inj hx, dsw_inj hy]
theorem dsw_mul {x y X Y : Int} (hx : dsw x = dsw X) (hy : dsw y = dsw Y) : dsw (x * y) = dsw (X * Y) := by
  unfold dsw; rw [Int32.ofInt_mul, Int32.ofInt_mul, dsw_inj hx, dsw_inj hy]
theorem dsw64_add {x y X Y : Int} (hx : dsw64 x = dsw64 X) (hy : dsw64 y = dsw64 Y) : dsw64 (x + y) = dsw64 (X + Y) := by
  unfold dsw64; rw [Int64.ofInt_add, Int64.ofInt_add, dsw64_inj hx, dsw64_inj hy]
theorem dsw64_mul {x y X Y : Int} (hx : dsw64 x = dsw64 X) (hy : dsw64 y = dsw64 Y) : dsw64 (x * y) = dsw64 (X * Y) := by
  unfold dsw64; rw [Int64.ofInt_mul, Int64.ofInt_mul, dsw64_inj hx, dsw64_inj hy]
def rg (x : Int) : Prop := -2147483648 ≤ x ∧ x < 2147483648
def rg64 (x : Int) : Prop := -9223372036854775808 ≤ x ∧ x < 9223372036854775808
theorem dsw_r {x : Int} (h : -2147483648 ≤ x ∧ x < 2147483648) : dsw x = x := dsw_id h.1 h.2
theorem dsw64_r {x : Int} (h : -9223372036854775808 ≤ x ∧ x < 9223372036854775808) : dsw64 x = x := dsw64_id h.1 h.2
section BRules
variable {m pc nx tg : Nat} {ls r st : List dsU} {M : dsMem} {Q : bQT}
theorem b_stk (st' : List dsU) (h : st' = st) (k : bB m pc ls st' M Q) : bB m pc ls st M Q := h ▸ k
theorem b_mem (M' : dsMem) (h : M' = M) (k : bB m pc ls st M' Q) : bB m pc ls st M Q := h ▸ k
theorem b_pc (pc' : Nat) (h : pc' = pc) (k : bB m pc' ls st M Q) : bB m pc ls st M Q := h ▸ k
theorem b_iconst {n : Int} (hd : dcd m pc (.iconst n) nx tg) (hn : -100 ≤ n ∧ n ≤ 100) (k : bB m nx ls (uI n :: r) M Q) : bB m pc ls (r) M Q := by
  obtain ⟨len, h1, h2, h3, h4⟩ := hd
  obtain rfl : len = 1 := h2.resolve_left (fun q => by cases q)
  obtain rfl : pc + 1 = nx := h3.resolve_left (fun q => by cases q)
  exact bB_step h1 h2 (by show ite _ _ _; rw [if_pos hn]; exact k)
theorem b_bipush {n : Int} (hd : dcd m pc (.bipush n) nx tg) (hn : -128 ≤ n ∧ n ≤ 127) (k : bB m nx ls (uI n :: r) M Q) : bB m pc ls (r) M Q := by
  obtain ⟨len, h1, h2, h3, h4⟩ := hd
  obtain rfl : len = 2 := h2.resolve_left (fun q => by cases q)
  obtain rfl : pc + 2 = nx := h3.resolve_left (fun q => by cases q)
  exact bB_step h1 h2 (by show ite _ _ _; rw [if_pos hn]; exact k)
theorem b_sipush {n : Int} (hd : dcd m pc (.sipush n) nx tg) (hn : -32768 ≤ n ∧ n ≤ 32767) (k : bB m nx ls (uI n :: r) M Q) : bB m pc ls (r) M Q := by
  obtain ⟨len, h1, h2, h3, h4⟩ := hd
  obtain rfl : len = 3 := h2.resolve_left (fun q => by cases q)
  obtain rfl : pc + 3 = nx := h3.resolve_left (fun q => by cases q)
  exact bB_step h1 h2 (by show ite _ _ _; rw [if_pos hn]; exact k)
theorem b_lconst {n : Fin 2} (hd : dcd m pc (.lconst n) nx tg) (k : bB m nx ls (uJ ((n : Nat) : Int) :: r) M Q) : bB m pc ls (r) M Q := by
  obtain ⟨len, h1, h2, h3, h4⟩ := hd
  obtain rfl : len = 1 := h2.resolve_left (fun q => by cases q)
  obtain rfl : pc + 1 = nx := h3.resolve_left (fun q => by cases q)
  exact bB_step h1 h2 (k)
theorem b_iload {i : Nat} {x : Int} (hd : dcd m pc (.iload i) nx tg) (hx : bg ls i = uI x) (k : bB m nx ls (uI x :: r) M Q) : bB m pc ls (r) M Q := by
  obtain ⟨len, h1, h2, h3, h4⟩ := hd
  obtain rfl : len = 2 := h2.resolve_left (fun q => by cases q)
  obtain rfl : pc + 2 = nx := h3.resolve_left (fun q => by cases q)
  exact bB_step h1 h2 (by simp only [bI, hx]; exact k)
theorem b_iload_n {i : Fin 4} {x : Int} (hd : dcd m pc (.iload_n i) nx tg) (hx : bg ls i = uI x) (k : bB m nx ls (uI x :: r) M Q) : bB m pc ls (r) M Q := by
  obtain ⟨len, h1, h2, h3, h4⟩ := hd
  obtain rfl : len = 1 := h2.resolve_left (fun q => by cases q)
  obtain rfl : pc + 1 = nx := h3.resolve_left (fun q => by cases q)
  exact bB_step h1 h2 (by simp only [bI, hx]; exact k)
theorem b_lload {i : Nat} {x : Int} (hd : dcd m pc (.lload i) nx tg) (hx : bg ls i = uJ x) (k : bB m nx ls (uJ x :: r) M Q) : bB m pc ls (r) M Q := by
  obtain ⟨len, h1, h2, h3, h4⟩ := hd
  obtain rfl : len = 2 := h2.resolve_left (fun q => by cases q)
  obtain rfl : pc + 2 = nx := h3.resolve_left (fun q => by cases q)
  exact bB_step h1 h2 (by simp only [bI, hx]; exact k)
theorem b_lload_n {i : Fin 4} {x : Int} (hd : dcd m pc (.lload_n i) nx tg) (hx : bg ls i = uJ x) (k : bB m nx ls (uJ x :: r) M Q) : bB m pc ls (r) M Q := by
  obtain ⟨len, h1, h2, h3, h4⟩ := hd
  obtain rfl : len = 1 := h2.resolve_left (fun q => by cases q)
  obtain rfl : pc + 1 = nx := h3.resolve_left (fun q => by cases q)
  exact bB_step h1 h2 (by simp only [bI, hx]; exact k)
theorem b_aload {i t : Nat} {x : Int} (hd : dcd m pc (.aload i) nx tg) (hx : bg ls i = uR t x) (k : bB m nx ls (uR t x :: r) M Q) : bB m pc ls (r) M Q := by
  obtain ⟨len, h1, h2, h3, h4⟩ := hd
  obtain rfl : len = 2 := h2.resolve_left (fun q => by cases q)
  obtain rfl : pc + 2 = nx := h3.resolve_left (fun q => by cases q)
  exact bB_step h1 h2 (by simp only [bI, hx]; exact k)
theorem b_aloadX {i t : Nat} (hd : dcd m pc (.aload i) nx tg) (hx : bg ls i = uX (t + 1)) (k : bB m nx ls (uX (t + 1) :: r) M Q) : bB m pc ls (r) M Q := by
  obtain ⟨len, h1, h2, h3, h4⟩ := hd
  obtain rfl : len = 2 := h2.resolve_left (fun q => by cases q)
  obtain rfl : pc + 2 = nx := h3.resolve_left (fun q => by cases q)
  exact bB_step h1 h2 (by simp only [bI, hx]; exact k)
theorem b_aload_n {i : Fin 4} {t : Nat} {x : Int} (hd : dcd m pc (.aload_n i) nx tg) (hx : bg ls i = uR t x) (k : bB m nx ls (uR t x :: r) M Q) : bB m pc ls (r) M Q := by
  obtain ⟨len, h1, h2, h3, h4⟩ := hd
  obtain rfl : len = 1 := h2.resolve_left (fun q => by cases q)
  obtain rfl : pc + 1 = nx := h3.resolve_left (fun q => by cases q)
  exact bB_step h1 h2 (by simp only [bI, hx]; exact k)
theorem b_aload_nX {i : Fin 4} {t : Nat} (hd : dcd m pc (.aload_n i) nx tg) (hx : bg ls i = uX (t + 1)) (k : bB m nx ls (uX (t + 1) :: r) M Q) : bB m pc ls (r) M Q := by
  obtain ⟨len, h1, h2, h3, h4⟩ := hd
  obtain rfl : len = 1 := h2.resolve_left (fun q => by cases q)
  obtain rfl : pc + 1 = nx := h3.resolve_left (fun q => by cases q)
  exact bB_step h1 h2 (by simp only [bI, hx]; exact k)
theorem b_istore {i : Nat} {x : Int} (ls' : List dsU) (hd : dcd m pc (.istore i) nx tg) (hi : (i : Nat) < dsMx m) (hl : bp1 ls i (uI x) = ls') (k : bB m nx ls' r M Q) : bB m pc ls (uI x :: r) M Q := by
  obtain ⟨len, h1, h2, h3, h4⟩ := hd
  obtain rfl : len = 2 := h2.resolve_left (fun q => by cases q)
  obtain rfl : pc + 2 = nx := h3.resolve_left (fun q => by cases q)
  exact bB_step h1 h2 (by subst hl; show ite _ _ _; rw [if_pos hi]; exact k)
theorem b_istore_n {i : Fin 4} {x : Int} (ls' : List dsU) (hd : dcd m pc (.istore_n i) nx tg) (hi : (i : Nat) < dsMx m) (hl : bp1 ls i (uI x) = ls') (k : bB m nx ls' r M Q) : bB m pc ls (uI x :: r) M Q := by
  obtain ⟨len, h1, h2, h3, h4⟩ := hd
  obtain rfl : len = 1 := h2.resolve_left (fun q => by cases q)
  obtain rfl : pc + 1 = nx := h3.resolve_left (fun q => by cases q)
  exact bB_step h1 h2 (by subst hl; show ite _ _ _; rw [if_pos hi]; exact k)
theorem b_lstore {i : Nat} {x : Int} (ls' : List dsU) (hd : dcd m pc (.lstore i) nx tg) (hi : (i : Nat) + 1 < dsMx m) (hl : bp2 ls i (uJ x) = ls') (k : bB m nx ls' r M Q) : bB m pc ls (uJ x :: r) M Q := by
  obtain ⟨len, h1, h2, h3, h4⟩ := hd
  obtain rfl : len = 2 := h2.resolve_left (fun q => by cases q)
  obtain rfl : pc + 2 = nx := h3.resolve_left (fun q => by cases q)
  exact bB_step h1 h2 (by subst hl; show ite _ _ _; rw [if_pos hi]; exact k)
theorem b_lstore_n {i : Fin 4} {x : Int} (ls' : List dsU) (hd : dcd m pc (.lstore_n i) nx tg) (hi : (i : Nat) + 1 < dsMx m) (hl : bp2 ls i (uJ x) = ls') (k : bB m nx ls' r M Q) : bB m pc ls (uJ x :: r) M Q := by
  obtain ⟨len, h1, h2, h3, h4⟩ := hd
  obtain rfl : len = 1 := h2.resolve_left (fun q => by cases q)
  obtain rfl : pc + 1 = nx := h3.resolve_left (fun q => by cases q)
  exact bB_step h1 h2 (by subst hl; show ite _ _ _; rw [if_pos hi]; exact k)
theorem b_astore {i t : Nat} {x : Int} (ls' : List dsU) (hd : dcd m pc (.astore i) nx tg) (hi : (i : Nat) < dsMx m) (hl : bp1 ls i (uR t x) = ls') (k : bB m nx ls' r M Q) : bB m pc ls (uR t x :: r) M Q := by
  obtain ⟨len, h1, h2, h3, h4⟩ := hd
  obtain rfl : len = 2 := h2.resolve_left (fun q => by cases q)
  obtain rfl : pc + 2 = nx := h3.resolve_left (fun q => by cases q)
  exact bB_step h1 h2 (by subst hl; show ite _ _ _; rw [if_pos hi]; exact k)
theorem b_astore_n {i : Fin 4} {t : Nat} {x : Int} (ls' : List dsU) (hd : dcd m pc (.astore_n i) nx tg) (hi : (i : Nat) < dsMx m) (hl : bp1 ls i (uR t x) = ls') (k : bB m nx ls' r M Q) : bB m pc ls (uR t x :: r) M Q := by
  obtain ⟨len, h1, h2, h3, h4⟩ := hd
  obtain rfl : len = 1 := h2.resolve_left (fun q => by cases q)
  obtain rfl : pc + 1 = nx := h3.resolve_left (fun q => by cases q)
  exact bB_step h1 h2 (by subst hl; show ite _ _ _; rw [if_pos hi]; exact k)
theorem b_iinc {i : Nat} {n x : Int} (ls' : List dsU) (hd : dcd m pc (.iinc i n) nx tg) (hx : bg ls i = uI x) (hi : i < dsMx m) (hr : -2147483648 ≤ x + n ∧ x + n < 2147483648) (hl : bp1 ls i (uI (x + n)) = ls') (k : bB m nx ls' r M Q) : bB m pc ls (r) M Q := by
  obtain ⟨len, h1, h2, h3, h4⟩ := hd
  obtain rfl : len = 3 := h2.resolve_left (fun q => by cases q)
  obtain rfl : pc + 3 = nx := h3.resolve_left (fun q => by cases q)
  exact bB_step h1 h2 (by subst hl; rw [← dsw_r hr] at k; simp only [bI, hx]; rw [if_pos hi]; exact k)
theorem b_iadd {x y X Y : Int} (hd : dcd m pc (.iadd) nx tg) (hx : dsw x = dsw X) (hy : dsw y = dsw Y) (k : bB m nx ls (uI (dsw (X + Y)) :: r) M Q) : bB m pc ls (uI y :: uI x :: r) M Q := by
  obtain ⟨len, h1, h2, h3, h4⟩ := hd
  obtain rfl : len = 1 := h2.resolve_left (fun q => by cases q)
  obtain rfl : pc + 1 = nx := h3.resolve_left (fun q => by cases q)
  exact bB_step h1 h2 (by rw [← dsw_add hx hy] at k; exact k)
theorem b_isub {x y X Y : Int} (hd : dcd m pc (.isub) nx tg) (hx : dsw x = dsw X) (hy : dsw y = dsw Y) (k : bB m nx ls (uI (dsw (X - Y)) :: r) M Q) : bB m pc ls (uI y :: uI x :: r) M Q := by
  obtain ⟨len, h1, h2, h3, h4⟩ := hd
  obtain rfl : len = 1 := h2.resolve_left (fun q => by cases q)
  obtain rfl : pc + 1 = nx := h3.resolve_left (fun q => by cases q)
  exact bB_step h1 h2 (by rw [← dsw_sub hx hy] at k; exact k)
theorem b_imul {x y X Y : Int} (hd : dcd m pc (.imul) nx tg) (hx : dsw x = dsw X) (hy : dsw y = dsw Y) (k : bB m nx ls (uI (dsw (X * Y)) :: r) M Q) : bB m pc ls (uI y :: uI x :: r) M Q := by
  obtain ⟨len, h1, h2, h3, h4⟩ := hd
  obtain rfl : len = 1 := h2.resolve_left (fun q => by cases q)
  obtain rfl : pc + 1 = nx := h3.resolve_left (fun q => by cases q)
  exact bB_step h1 h2 (by rw [← dsw_mul hx hy] at k; exact k)
theorem b_ladd {x y X Y : Int} (hd : dcd m pc (.ladd) nx tg) (hx : dsw64 x = dsw64 X) (hy : dsw64 y = dsw64 Y) (k : bB m nx ls (uJ (dsw64 (X + Y)) :: r) M Q) : bB m pc ls (uJ y :: uJ x :: r) M Q := by
  obtain ⟨len, h1, h2, h3, h4⟩ := hd
  obtain rfl : len = 1 := h2.resolve_left (fun q => by cases q)
  obtain rfl : pc + 1 = nx := h3.resolve_left (fun q => by cases q)
  exact bB_step h1 h2 (by rw [← dsw64_add hx hy] at k; exact k)
theorem b_lmul {x y X Y : Int} (hd : dcd m pc (.lmul) nx tg) (hx : dsw64 x = dsw64 X) (hy : dsw64 y = dsw64 Y) (k : bB m nx ls (uJ (dsw64 (X * Y)) :: r) M Q) : bB m pc ls (uJ y :: uJ x :: r) M Q := by
  obtain ⟨len, h1, h2, h3, h4⟩ := hd
  obtain rfl : len = 1 := h2.resolve_left (fun q => by cases q)
  obtain rfl : pc + 1 = nx := h3.resolve_left (fun q => by cases q)
  exact bB_step h1 h2 (by rw [← dsw64_mul hx hy] at k; exact k)
theorem b_idiv {x y : Int} (hd : dcd m pc (.idiv) nx tg) (hy : ¬ y = 0) (k : bB m nx ls (uI (dsw (x.tdiv y)) :: r) M Q) : bB m pc ls (uI y :: uI x :: r) M Q := by
  obtain ⟨len, h1, h2, h3, h4⟩ := hd
  obtain rfl : len = 1 := h2.resolve_left (fun q => by cases q)
  obtain rfl : pc + 1 = nx := h3.resolve_left (fun q => by cases q)
  exact bB_step h1 h2 (⟨hy, k⟩)
theorem b_irem {x y : Int} (hd : dcd m pc (.irem) nx tg) (hy : ¬ y = 0) (k : bB m nx ls (uI (x.tmod y) :: r) M Q) : bB m pc ls (uI y :: uI x :: r) M Q := by
  obtain ⟨len, h1, h2, h3, h4⟩ := hd
  obtain rfl : len = 1 := h2.resolve_left (fun q => by cases q)
  obtain rfl : pc + 1 = nx := h3.resolve_left (fun q => by cases q)
  exact bB_step h1 h2 (⟨hy, k⟩)
theorem b_ldiv {x y : Int} (hd : dcd m pc (.ldiv) nx tg) (hy : ¬ y = 0) (k : bB m nx ls (uJ (dsw64 (x.tdiv y)) :: r) M Q) : bB m pc ls (uJ y :: uJ x :: r) M Q := by
  obtain ⟨len, h1, h2, h3, h4⟩ := hd
  obtain rfl : len = 1 := h2.resolve_left (fun q => by cases q)
  obtain rfl : pc + 1 = nx := h3.resolve_left (fun q => by cases q)
  exact bB_step h1 h2 (⟨hy, k⟩)
theorem b_lrem {x y : Int} (hd : dcd m pc (.lrem) nx tg) (hy : ¬ y = 0) (k : bB m nx ls (uJ (x.tmod y) :: r) M Q) : bB m pc ls (uJ y :: uJ x :: r) M Q := by
  obtain ⟨len, h1, h2, h3, h4⟩ := hd
  obtain rfl : len = 1 := h2.resolve_left (fun q => by cases q)
  obtain rfl : pc + 1 = nx := h3.resolve_left (fun q => by cases q)
  exact bB_step h1 h2 (⟨hy, k⟩)
theorem b_iand {x y : Int} (hd : dcd m pc (.iand) nx tg) (k : bB m nx ls (uI (dsAnd x y) :: r) M Q) : bB m pc ls (uI y :: uI x :: r) M Q := by
  obtain ⟨len, h1, h2, h3, h4⟩ := hd
  obtain rfl : len = 1 := h2.resolve_left (fun q => by cases q)
  obtain rfl : pc + 1 = nx := h3.resolve_left (fun q => by cases q)
  exact bB_step h1 h2 (k)
theorem b_ior {x y : Int} (hd : dcd m pc (.ior) nx tg) (k : bB m nx ls (uI (dsOr x y) :: r) M Q) : bB m pc ls (uI y :: uI x :: r) M Q := by
  obtain ⟨len, h1, h2, h3, h4⟩ := hd
  obtain rfl : len = 1 := h2.resolve_left (fun q => by cases q)
  obtain rfl : pc + 1 = nx := h3.resolve_left (fun q => by cases q)
  exact bB_step h1 h2 (k)
theorem b_ixor {x y : Int} (hd : dcd m pc (.ixor) nx tg) (k : bB m nx ls (uI (dsXor x y) :: r) M Q) : bB m pc ls (uI y :: uI x :: r) M Q := by
  obtain ⟨len, h1, h2, h3, h4⟩ := hd
  obtain rfl : len = 1 := h2.resolve_left (fun q => by cases q)
  obtain rfl : pc + 1 = nx := h3.resolve_left (fun q => by cases q)
  exact bB_step h1 h2 (k)
theorem b_ishl {x y : Int} (hd : dcd m pc (.ishl) nx tg) (k : bB m nx ls (uI (dsShl x y) :: r) M Q) : bB m pc ls (uI y :: uI x :: r) M Q := by
  obtain ⟨len, h1, h2, h3, h4⟩ := hd
  obtain rfl : len = 1 := h2.resolve_left (fun q => by cases q)
  obtain rfl : pc + 1 = nx := h3.resolve_left (fun q => by cases q)
  exact bB_step h1 h2 (k)
theorem b_ishr {x y : Int} (hd : dcd m pc (.ishr) nx tg) (k : bB m nx ls (uI (dsShr x y) :: r) M Q) : bB m pc ls (uI y :: uI x :: r) M Q := by
  obtain ⟨len, h1, h2, h3, h4⟩ := hd
  obtain rfl : len = 1 := h2.resolve_left (fun q => by cases q)
  obtain rfl : pc + 1 = nx := h3.resolve_left (fun q => by cases q)
  exact bB_step h1 h2 (k)
theorem b_iushr {x y : Int} (hd : dcd m pc (.iushr) nx tg) (k : bB m nx ls (uI (dsUsh x y) :: r) M Q) : bB m pc ls (uI y :: uI x :: r) M Q := by
  obtain ⟨len, h1, h2, h3, h4⟩ := hd
  obtain rfl : len = 1 := h2.resolve_left (fun q => by cases q)
  obtain rfl : pc + 1 = nx := h3.resolve_left (fun q => by cases q)
  exact bB_step h1 h2 (k)
theorem b_land {x y : Int} (hd : dcd m pc (.land) nx tg) (k : bB m nx ls (uJ (dsLand x y) :: r) M Q) : bB m pc ls (uJ y :: uJ x :: r) M Q := by
  obtain ⟨len, h1, h2, h3, h4⟩ := hd
  obtain rfl : len = 1 := h2.resolve_left (fun q => by cases q)
  obtain rfl : pc + 1 = nx := h3.resolve_left (fun q => by cases q)
  exact bB_step h1 h2 (k)
theorem b_lor {x y : Int} (hd : dcd m pc (.lor) nx tg) (k : bB m nx ls (uJ (dsLor x y) :: r) M Q) : bB m pc ls (uJ y :: uJ x :: r) M Q := by
  obtain ⟨len, h1, h2, h3, h4⟩ := hd
  obtain rfl : len = 1 := h2.resolve_left (fun q => by cases q)
  obtain rfl : pc + 1 = nx := h3.resolve_left (fun q => by cases q)
  exact bB_step h1 h2 (k)
theorem b_lshl {x y : Int} (hd : dcd m pc (.lshl) nx tg) (k : bB m nx ls (uJ (dsLsl x y) :: r) M Q) : bB m pc ls (uI y :: uJ x :: r) M Q := by
  obtain ⟨len, h1, h2, h3, h4⟩ := hd
  obtain rfl : len = 1 := h2.resolve_left (fun q => by cases q)
  obtain rfl : pc + 1 = nx := h3.resolve_left (fun q => by cases q)
  exact bB_step h1 h2 (k)
theorem b_lshr {x y : Int} (hd : dcd m pc (.lshr) nx tg) (k : bB m nx ls (uJ (dsLsr x y) :: r) M Q) : bB m pc ls (uI y :: uJ x :: r) M Q := by
  obtain ⟨len, h1, h2, h3, h4⟩ := hd
  obtain rfl : len = 1 := h2.resolve_left (fun q => by cases q)
  obtain rfl : pc + 1 = nx := h3.resolve_left (fun q => by cases q)
  exact bB_step h1 h2 (k)
theorem b_lcmp {x y : Int} (hd : dcd m pc (.lcmp) nx tg) (k : bB m nx ls (uI (dsLc x y) :: r) M Q) : bB m pc ls (uJ y :: uJ x :: r) M Q := by
  obtain ⟨len, h1, h2, h3, h4⟩ := hd
  obtain rfl : len = 1 := h2.resolve_left (fun q => by cases q)
  obtain rfl : pc + 1 = nx := h3.resolve_left (fun q => by cases q)
  exact bB_step h1 h2 (k)
theorem b_i2l {x : Int} (hd : dcd m pc (.i2l) nx tg) (k : bB m nx ls (uJ x :: r) M Q) : bB m pc ls (uI x :: r) M Q := by
  obtain ⟨len, h1, h2, h3, h4⟩ := hd
  obtain rfl : len = 1 := h2.resolve_left (fun q => by cases q)
  obtain rfl : pc + 1 = nx := h3.resolve_left (fun q => by cases q)
  exact bB_step h1 h2 (k)
theorem b_l2i {x X : Int} (hd : dcd m pc (.l2i) nx tg) (hx : x = X) (k : bB m nx ls (uI (dsw X) :: r) M Q) : bB m pc ls (uJ x :: r) M Q := by
  obtain ⟨len, h1, h2, h3, h4⟩ := hd
  obtain rfl : len = 1 := h2.resolve_left (fun q => by cases q)
  obtain rfl : pc + 1 = nx := h3.resolve_left (fun q => by cases q)
  exact bB_step h1 h2 (by subst hx; exact k)
theorem b_i2b {x : Int} (hd : dcd m pc (.i2b) nx tg) (k : bB m nx ls (uI (dsB x) :: r) M Q) : bB m pc ls (uI x :: r) M Q := by
  obtain ⟨len, h1, h2, h3, h4⟩ := hd
  obtain rfl : len = 1 := h2.resolve_left (fun q => by cases q)
  obtain rfl : pc + 1 = nx := h3.resolve_left (fun q => by cases q)
  exact bB_step h1 h2 (k)
theorem b_dup {v : dsU} (hd : dcd m pc (.dup) nx tg) (hv : bC v = 1) (k : bB m nx ls (v :: v :: r) M Q) : bB m pc ls (v :: r) M Q := by
  obtain ⟨len, h1, h2, h3, h4⟩ := hd
  obtain rfl : len = 1 := h2.resolve_left (fun q => by cases q)
  obtain rfl : pc + 1 = nx := h3.resolve_left (fun q => by cases q)
  exact bB_step h1 h2 (by show ite _ _ _; rw [if_pos hv]; exact k)
theorem b_pop {v : dsU} (hd : dcd m pc (.pop) nx tg) (hv : bC v = 1) (k : bB m nx ls (r) M Q) : bB m pc ls (v :: r) M Q := by
  obtain ⟨len, h1, h2, h3, h4⟩ := hd
  obtain rfl : len = 1 := h2.resolve_left (fun q => by cases q)
  obtain rfl : pc + 1 = nx := h3.resolve_left (fun q => by cases q)
  exact bB_step h1 h2 (by show ite _ _ _; rw [if_pos hv]; exact k)
theorem b_dup2 {x : Int} {t : Nat} {a : Int} (hd : dcd m pc (.dup2) nx tg) (k : bB m nx ls (uI x :: uR t a :: uI x :: uR t a :: r) M Q) : bB m pc ls (uI x :: uR t a :: r) M Q := by
  obtain ⟨len, h1, h2, h3, h4⟩ := hd
  obtain rfl : len = 1 := h2.resolve_left (fun q => by cases q)
  obtain rfl : pc + 1 = nx := h3.resolve_left (fun q => by cases q)
  exact bB_step h1 h2 (k)
theorem b_dup2J {x : Int} (hd : dcd m pc (.dup2) nx tg) (k : bB m nx ls (uJ x :: uJ x :: r) M Q) : bB m pc ls (uJ x :: r) M Q := by
  obtain ⟨len, h1, h2, h3, h4⟩ := hd
  obtain rfl : len = 1 := h2.resolve_left (fun q => by cases q)
  obtain rfl : pc + 1 = nx := h3.resolve_left (fun q => by cases q)
  exact bB_step h1 h2 (k)
theorem b_icmp_eq {x y off : Int} (hd : dcd m pc (.if_icmp .eq off) nx tg) (kt : x = y → bB m tg ls r M Q) (kf : ¬ x = y → bB m nx ls r M Q) : bB m pc ls (uI y :: uI x :: r) M Q := by
  obtain ⟨len, h1, h2, h3, h4⟩ := hd
  obtain rfl : len = 3 := h2.resolve_left (fun q => by cases q)
  obtain rfl : pc + 3 = nx := h3.resolve_left (fun q => by cases q)
  have ht := h4 _ rfl
  refine bB_step h1 h2 ?_
  simp only [bI, dsTg]
  rw [if_pos (by omega), show ((pc : Int) + off).toNat = tg by omega]
  exact ⟨fun c => kt c, fun c => kf c⟩
theorem b_if_eq {x off : Int} (hd : dcd m pc (.ifCond .eq off) nx tg) (kt : x = 0 → bB m tg ls r M Q) (kf : ¬ x = 0 → bB m nx ls r M Q) : bB m pc ls (uI x :: r) M Q := by
  obtain ⟨len, h1, h2, h3, h4⟩ := hd
  obtain rfl : len = 3 := h2.resolve_left (fun q => by cases q)
  obtain rfl : pc + 3 = nx := h3.resolve_left (fun q => by cases q)
  have ht := h4 _ rfl
  refine bB_step h1 h2 ?_
  simp only [bI, dsTg]
  rw [if_pos (by omega), show ((pc : Int) + off).toNat = tg by omega]
  exact ⟨fun c => kt c, fun c => kf c⟩
theorem b_icmp_ne {x y off : Int} (hd : dcd m pc (.if_icmp .ne off) nx tg) (kt : ¬ x = y → bB m tg ls r M Q) (kf : x = y → bB m nx ls r M Q) : bB m pc ls (uI y :: uI x :: r) M Q := by
  obtain ⟨len, h1, h2, h3, h4⟩ := hd
  obtain rfl : len = 3 := h2.resolve_left (fun q => by cases q)
  obtain rfl : pc + 3 = nx := h3.resolve_left (fun q => by cases q)
  have ht := h4 _ rfl
  refine bB_step h1 h2 ?_
  simp only [bI, dsTg]
  rw [if_pos (by omega), show ((pc : Int) + off).toNat = tg by omega]
  exact ⟨fun c => kt c, fun c => kf (Decidable.not_not.mp c)⟩
theorem b_if_ne {x off : Int} (hd : dcd m pc (.ifCond .ne off) nx tg) (kt : ¬ x = 0 → bB m tg ls r M Q) (kf : x = 0 → bB m nx ls r M Q) : bB m pc ls (uI x :: r) M Q := by
  obtain ⟨len, h1, h2, h3, h4⟩ := hd
  obtain rfl : len = 3 := h2.resolve_left (fun q => by cases q)
  obtain rfl : pc + 3 = nx := h3.resolve_left (fun q => by cases q)
  have ht := h4 _ rfl
  refine bB_step h1 h2 ?_
  simp only [bI, dsTg]
  rw [if_pos (by omega), show ((pc : Int) + off).toNat = tg by omega]
  exact ⟨fun c => kt c, fun c => kf (Decidable.not_not.mp c)⟩
theorem b_icmp_lt {x y off : Int} (hd : dcd m pc (.if_icmp .lt off) nx tg) (kt : x < y → bB m tg ls r M Q) (kf : ¬ x < y → bB m nx ls r M Q) : bB m pc ls (uI y :: uI x :: r) M Q := by
  obtain ⟨len, h1, h2, h3, h4⟩ := hd
  obtain rfl : len = 3 := h2.resolve_left (fun q => by cases q)
  obtain rfl : pc + 3 = nx := h3.resolve_left (fun q => by cases q)
  have ht := h4 _ rfl
  refine bB_step h1 h2 ?_
  simp only [bI, dsTg]
  rw [if_pos (by omega), show ((pc : Int) + off).toNat = tg by omega]
  exact ⟨fun c => kt c, fun c => kf c⟩
theorem b_if_lt {x off : Int} (hd : dcd m pc (.ifCond .lt off) nx tg) (kt : x < 0 → bB m tg ls r M Q) (kf : ¬ x < 0 → bB m nx ls r M Q) : bB m pc ls (uI x :: r) M Q := by
  obtain ⟨len, h1, h2, h3, h4⟩ := hd
  obtain rfl : len = 3 := h2.resolve_left (fun q => by cases q)
  obtain rfl : pc + 3 = nx := h3.resolve_left (fun q => by cases q)
  have ht := h4 _ rfl
  refine bB_step h1 h2 ?_
  simp only [bI, dsTg]
  rw [if_pos (by omega), show ((pc : Int) + off).toNat = tg by omega]
  exact ⟨fun c => kt c, fun c => kf c⟩
theorem b_icmp_ge {x y off : Int} (hd : dcd m pc (.if_icmp .ge off) nx tg) (kt : y ≤ x → bB m tg ls r M Q) (kf : ¬ y ≤ x → bB m nx ls r M Q) : bB m pc ls (uI y :: uI x :: r) M Q := by
  obtain ⟨len, h1, h2, h3, h4⟩ := hd
  obtain rfl : len = 3 := h2.resolve_left (fun q => by cases q)
  obtain rfl : pc + 3 = nx := h3.resolve_left (fun q => by cases q)
  have ht := h4 _ rfl
  refine bB_step h1 h2 ?_
  simp only [bI, dsTg]
  rw [if_pos (by omega), show ((pc : Int) + off).toNat = tg by omega]
  exact ⟨fun c => kt c, fun c => kf c⟩
theorem b_if_ge {x off : Int} (hd : dcd m pc (.ifCond .ge off) nx tg) (kt : 0 ≤ x → bB m tg ls r M Q) (kf : ¬ 0 ≤ x → bB m nx ls r M Q) : bB m pc ls (uI x :: r) M Q := by
  obtain ⟨len, h1, h2, h3, h4⟩ := hd
  obtain rfl : len = 3 := h2.resolve_left (fun q => by cases q)
  obtain rfl : pc + 3 = nx := h3.resolve_left (fun q => by cases q)
  have ht := h4 _ rfl
  refine bB_step h1 h2 ?_
  simp only [bI, dsTg]
  rw [if_pos (by omega), show ((pc : Int) + off).toNat = tg by omega]
  exact ⟨fun c => kt c, fun c => kf c⟩
theorem b_icmp_gt {x y off : Int} (hd : dcd m pc (.if_icmp .gt off) nx tg) (kt : y < x → bB m tg ls r M Q) (kf : ¬ y < x → bB m nx ls r M Q) : bB m pc ls (uI y :: uI x :: r) M Q := by
  obtain ⟨len, h1, h2, h3, h4⟩ := hd
  obtain rfl : len = 3 := h2.resolve_left (fun q => by cases q)
  obtain rfl : pc + 3 = nx := h3.resolve_left (fun q => by cases q)
  have ht := h4 _ rfl
  refine bB_step h1 h2 ?_
  simp only [bI, dsTg]
  rw [if_pos (by omega), show ((pc : Int) + off).toNat = tg by omega]
  exact ⟨fun c => kt c, fun c => kf c⟩
theorem b_if_gt {x off : Int} (hd : dcd m pc (.ifCond .gt off) nx tg) (kt : 0 < x → bB m tg ls r M Q) (kf : ¬ 0 < x → bB m nx ls r M Q) : bB m pc ls (uI x :: r) M Q := by
  obtain ⟨len, h1, h2, h3, h4⟩ := hd
  obtain rfl : len = 3 := h2.resolve_left (fun q => by cases q)
  obtain rfl : pc + 3 = nx := h3.resolve_left (fun q => by cases q)
  have ht := h4 _ rfl
  refine bB_step h1 h2 ?_
  simp only [bI, dsTg]
  rw [if_pos (by omega), show ((pc : Int) + off).toNat = tg by omega]
  exact ⟨fun c => kt c, fun c => kf c⟩
theorem b_icmp_le {x y off : Int} (hd : dcd m pc (.if_icmp .le off) nx tg) (kt : x ≤ y → bB m tg ls r M Q) (kf : ¬ x ≤ y → bB m nx ls r M Q) : bB m pc ls (uI y :: uI x :: r) M Q := by
  obtain ⟨len, h1, h2, h3, h4⟩ := hd
  obtain rfl : len = 3 := h2.resolve_left (fun q => by cases q)
  obtain rfl : pc + 3 = nx := h3.resolve_left (fun q => by cases q)
  have ht := h4 _ rfl
  refine bB_step h1 h2 ?_
  simp only [bI, dsTg]
  rw [if_pos (by omega), show ((pc : Int) + off).toNat = tg by omega]
  exact ⟨fun c => kt c, fun c => kf c⟩
theorem b_if_le {x off : Int} (hd : dcd m pc (.ifCond .le off) nx tg) (kt : x ≤ 0 → bB m tg ls r M Q) (kf : ¬ x ≤ 0 → bB m nx ls r M Q) : bB m pc ls (uI x :: r) M Q := by
  obtain ⟨len, h1, h2, h3, h4⟩ := hd
  obtain rfl : len = 3 := h2.resolve_left (fun q => by cases q)
  obtain rfl : pc + 3 = nx := h3.resolve_left (fun q => by cases q)
  have ht := h4 _ rfl
  refine bB_step h1 h2 ?_
  simp only [bI, dsTg]
  rw [if_pos (by omega), show ((pc : Int) + off).toNat = tg by omega]
  exact ⟨fun c => kt c, fun c => kf c⟩
theorem b_ifnull {t : Nat} {x off : Int} (hd : dcd m pc (.ifnull off) nx tg) (kt : x < 0 → bB m tg ls r M Q) (kf : ¬ x < 0 → bB m nx ls r M Q) : bB m pc ls (uR t x :: r) M Q := by
  obtain ⟨len, h1, h2, h3, h4⟩ := hd
  obtain rfl : len = 3 := h2.resolve_left (fun q => by cases q)
  obtain rfl : pc + 3 = nx := h3.resolve_left (fun q => by cases q)
  have ht := h4 _ rfl
  refine bB_step h1 h2 ?_
  simp only [bI, dsTg]
  rw [if_pos (by omega), show ((pc : Int) + off).toNat = tg by omega]
  exact ⟨fun c => kt c, fun c => kf c⟩
theorem b_ifnonnull {t : Nat} {x off : Int} (hd : dcd m pc (.ifnonnull off) nx tg) (kt : ¬ x < 0 → bB m tg ls r M Q) (kf : x < 0 → bB m nx ls r M Q) : bB m pc ls (uR t x :: r) M Q := by
  obtain ⟨len, h1, h2, h3, h4⟩ := hd
  obtain rfl : len = 3 := h2.resolve_left (fun q => by cases q)
  obtain rfl : pc + 3 = nx := h3.resolve_left (fun q => by cases q)
  have ht := h4 _ rfl
  refine bB_step h1 h2 ?_
  simp only [bI, dsTg]
  rw [if_pos (by omega), show ((pc : Int) + off).toNat = tg by omega]
  exact ⟨fun c => kt c, fun c => kf c⟩
theorem b_goto {off : Int} (hd : dcd m pc (.goto off) nx tg) (k : bB m tg ls st M Q) : bB m pc ls st M Q := by
  obtain ⟨len, h1, h2, h3, h4⟩ := hd
  have ht := h4 _ rfl
  refine bB_step h1 h2 ?_
  simp only [bI, dsTg]
  rw [if_pos (by omega), show ((pc : Int) + off).toNat = tg by omega]
  exact k
theorem b_switch {d lo hi x : Int} {offs : Array Int} (hd : dcd m pc (.tableswitch d lo hi offs) nx tg) (tg' : Nat) (ht : (if x < lo ∨ hi < x then some d else offs[(x - lo).toNat]?) = some ((tg' : Int) - pc)) (k : bB m tg' ls r M Q) : bB m pc ls (uI x :: r) M Q := by
  obtain ⟨len, h1, h2, h3, h4⟩ := hd
  refine bB_step h1 h2 ?_
  have key : ∀ off : Int, off = (tg' : Int) - pc → dsTg pc off (fun t => bB m t ls r M Q) := by
    intro off ho
    unfold dsTg
    rw [if_pos (by omega), show ((pc : Int) + off).toNat = tg' by omega]
    exact k
  by_cases hx : x < lo ∨ hi < x
  · rw [if_pos hx] at ht
    exact ⟨fun _ => key _ (Option.some.inj ht), fun q => absurd hx q⟩
  · rw [if_neg hx] at ht
    refine ⟨fun q => absurd q hx, fun _ => ?_⟩
    show match offs[(x - lo).toNat]? with
      | some off => dsTg pc off (fun t => bB m t ls r M Q)
      | none => False
    rw [ht]
    exact key _ rfl
theorem b_getR {i c k0 z t : Nat} {a : Int} {t2 : Nat} {o : Int} (hd : dcd m pc (.getfield i) nx tg) (hf : dsLk (dsFT (dsCl m)) i = some (c, k0, z)) (hc : bkC t = (c : Int)) (hn : bkN t = false) (hb : bkF (bkB t) k0 = some (t2, false, o)) (k : bB m nx ls (uR t2 (a + o) :: r) M Q) : bB m pc ls (uR t a :: r) M Q := by
  obtain ⟨len, h1, h2, h3, h4⟩ := hd
  obtain rfl : len = 3 := h2.resolve_left (fun q => by cases q)
  obtain rfl : pc + 3 = nx := h3.resolve_left (fun q => by cases q)
  refine bB_step h1 h2 ?_
  simp only [bI, hf]
  rw [if_pos hc]
  unfold bNn
  rw [if_neg (by rw [hn]; decide), hb]
  exact k
theorem b_getRA {i c k0 z t : Nat} {a : Int} {t2 : Nat} {o : Int} (hd : dcd m pc (.getfield i) nx tg) (hf : dsLk (dsFT (dsCl m)) i = some (c, k0, z)) (hc : bkC t = (c : Int)) (hn : bkN t = false) (hb : bkF (bkB t) k0 = some (t2, true, o)) (k : bB m nx ls (uR t2 o :: r) M Q) : bB m pc ls (uR t a :: r) M Q := by
  obtain ⟨len, h1, h2, h3, h4⟩ := hd
  obtain rfl : len = 3 := h2.resolve_left (fun q => by cases q)
  obtain rfl : pc + 3 = nx := h3.resolve_left (fun q => by cases q)
  refine bB_step h1 h2 ?_
  simp only [bI, hf]
  rw [if_pos hc]
  unfold bNn
  rw [if_neg (by rw [hn]; decide), hb]
  exact k
theorem b_getRN {i c k0 z t : Nat} {a : Int} {t2 : Nat} {o : Int} (hd : dcd m pc (.getfield i) nx tg) (hf : dsLk (dsFT (dsCl m)) i = some (c, k0, z)) (hc : bkC t = (c : Int)) (ha : 0 ≤ a) (hb : bkF (bkB t) k0 = some (t2, false, o)) (k : bB m nx ls (uR t2 (a + o) :: r) M Q) : bB m pc ls (uR t a :: r) M Q := by
  obtain ⟨len, h1, h2, h3, h4⟩ := hd
  obtain rfl : len = 3 := h2.resolve_left (fun q => by cases q)
  obtain rfl : pc + 3 = nx := h3.resolve_left (fun q => by cases q)
  refine bB_step h1 h2 ?_
  simp only [bI, hf]
  rw [if_pos hc]
  unfold bNn
  rw [hb]
  split
  · exact ⟨ha, k⟩
  · exact k
theorem b_getI {i c k0 z t : Nat} {a : Int}  (hd : dcd m pc (.getfield i) nx tg) (hf : dsLk (dsFT (dsCl m)) i = some (c, k0, z)) (hc : bkC t = (c : Int)) (hn : bkN t = false) (hb : bkF (bkB t) k0 = none) (hy : dsY c k0 = .int ∨ dsY c k0 = .boolean) (k : bB m nx ls (uI (M a k0) :: r) M Q) : bB m pc ls (uR t a :: r) M Q := by
  obtain ⟨len, h1, h2, h3, h4⟩ := hd
  obtain rfl : len = 3 := h2.resolve_left (fun q => by cases q)
  obtain rfl : pc + 3 = nx := h3.resolve_left (fun q => by cases q)
  refine bB_step h1 h2 ?_
  simp only [bI, hf]
  rw [if_pos hc]
  unfold bNn
  rw [if_neg (by rw [hn]; decide), hb]
  rcases hy with hy | hy <;> (simp only [bMk, hy]; exact k)
theorem b_getIN {i c k0 z t : Nat} {a : Int}  (hd : dcd m pc (.getfield i) nx tg) (hf : dsLk (dsFT (dsCl m)) i = some (c, k0, z)) (hc : bkC t = (c : Int)) (ha : 0 ≤ a) (hb : bkF (bkB t) k0 = none) (hy : dsY c k0 = .int ∨ dsY c k0 = .boolean) (k : bB m nx ls (uI (M a k0) :: r) M Q) : bB m pc ls (uR t a :: r) M Q := by
  obtain ⟨len, h1, h2, h3, h4⟩ := hd
  obtain rfl : len = 3 := h2.resolve_left (fun q => by cases q)
  obtain rfl : pc + 3 = nx := h3.resolve_left (fun q => by cases q)
  refine bB_step h1 h2 ?_
  simp only [bI, hf]
  rw [if_pos hc]
  unfold bNn
  rw [hb]
  rcases hy with hy | hy <;> (simp only [bMk, hy]; split <;> first | exact ⟨ha, k⟩ | exact k)
theorem b_getJ {i c k0 z t : Nat} {a : Int}  (hd : dcd m pc (.getfield i) nx tg) (hf : dsLk (dsFT (dsCl m)) i = some (c, k0, z)) (hc : bkC t = (c : Int)) (hn : bkN t = false) (hb : bkF (bkB t) k0 = none) (hy : dsY c k0 = .long) (k : bB m nx ls (uJ (M a k0) :: r) M Q) : bB m pc ls (uR t a :: r) M Q := by
  obtain ⟨len, h1, h2, h3, h4⟩ := hd
  obtain rfl : len = 3 := h2.resolve_left (fun q => by cases q)
  obtain rfl : pc + 3 = nx := h3.resolve_left (fun q => by cases q)
  refine bB_step h1 h2 ?_
  simp only [bI, hf]
  rw [if_pos hc]
  unfold bNn
  rw [if_neg (by rw [hn]; decide), hb]
  simp only [bMk, hy]
  exact k
theorem b_putI {i c k0 z t : Nat} {a x : Int} (hd : dcd m pc (.putfield i) nx tg) (hf : dsLk (dsFT (dsCl m)) i = some (c, k0, z)) (hc : bkC t = (c : Int) ∧ (dsT c k0).2.2.2 = false) (hn : bkN t = false) (hy : dsY c k0 = .int) (k : bB m nx ls r (dsSet M a k0 x) Q) : bB m pc ls (uI x :: uR t a :: r) M Q := by
  obtain ⟨len, h1, h2, h3, h4⟩ := hd
  obtain rfl : len = 3 := h2.resolve_left (fun q => by cases q)
  obtain rfl : pc + 3 = nx := h3.resolve_left (fun q => by cases q)
  refine bB_step h1 h2 ?_
  simp only [bI, hf]
  rw [if_pos hc]
  unfold bNn
  rw [if_neg (by rw [hn]; decide)]
  simp only [bPv, hy]
  exact k
theorem b_putZ {i c k0 z t : Nat} {a x : Int} (hd : dcd m pc (.putfield i) nx tg) (hf : dsLk (dsFT (dsCl m)) i = some (c, k0, z)) (hc : bkC t = (c : Int) ∧ (dsT c k0).2.2.2 = false) (hn : bkN t = false) (hy : dsY c k0 = .boolean) (hx : x = 0 ∨ x = 1) (k : bB m nx ls r (dsSet M a k0 x) Q) : bB m pc ls (uI x :: uR t a :: r) M Q := by
  obtain ⟨len, h1, h2, h3, h4⟩ := hd
  obtain rfl : len = 3 := h2.resolve_left (fun q => by cases q)
  obtain rfl : pc + 3 = nx := h3.resolve_left (fun q => by cases q)
  refine bB_step h1 h2 ?_
  simp only [bI, hf]
  rw [if_pos hc]
  unfold bNn
  rw [if_neg (by rw [hn]; decide)]
  simp only [bPv, hy]
  exact ⟨hx, k⟩
theorem b_putJ {i c k0 z t : Nat} {a x : Int} (hd : dcd m pc (.putfield i) nx tg) (hf : dsLk (dsFT (dsCl m)) i = some (c, k0, z)) (hc : bkC t = (c : Int) ∧ (dsT c k0).2.2.2 = false) (hn : bkN t = false) (hy : dsY c k0 = .long) (k : bB m nx ls r (dsSet M a k0 x) Q) : bB m pc ls (uJ x :: uR t a :: r) M Q := by
  obtain ⟨len, h1, h2, h3, h4⟩ := hd
  obtain rfl : len = 3 := h2.resolve_left (fun q => by cases q)
  obtain rfl : pc + 3 = nx := h3.resolve_left (fun q => by cases q)
  refine bB_step h1 h2 ?_
  simp only [bI, hf]
  rw [if_pos hc]
  unfold bNn
  rw [if_neg (by rw [hn]; decide)]
  simp only [bPv, hy]
  exact k
theorem b_iaload {t : Nat} {a i : Int} (hd : dcd m pc (.iaload) nx tg) (hc : bkC t = 100) (hi : 0 ≤ i ∧ i < bkL t) (k : bB m nx ls (uI (M a i) :: r) M Q) : bB m pc ls (uI i :: uR t a :: r) M Q := by
  obtain ⟨len, h1, h2, h3, h4⟩ := hd
  obtain rfl : len = 1 := h2.resolve_left (fun q => by cases q)
  obtain rfl : pc + 1 = nx := h3.resolve_left (fun q => by cases q)
  refine bB_step h1 h2 ?_
  show ite _ _ _
  rw [if_pos hc]
  exact ⟨hi, k⟩
theorem b_baload {t : Nat} {a i : Int} (hd : dcd m pc (.baload) nx tg) (hc : bkC t = 101 ∨ bkC t = 102) (hi : 0 ≤ i ∧ i < bkL t) (k : bB m nx ls (uI (M a i) :: r) M Q) : bB m pc ls (uI i :: uR t a :: r) M Q := by
  obtain ⟨len, h1, h2, h3, h4⟩ := hd
  obtain rfl : len = 1 := h2.resolve_left (fun q => by cases q)
  obtain rfl : pc + 1 = nx := h3.resolve_left (fun q => by cases q)
  refine bB_step h1 h2 ?_
  show ite _ _ _
  rw [if_pos hc]
  exact ⟨hi, k⟩
theorem b_laload {t : Nat} {a i : Int} (hd : dcd m pc (.laload) nx tg) (hc : bkC t = 103) (hi : 0 ≤ i ∧ i < bkL t) (k : bB m nx ls (uJ (M a i) :: r) M Q) : bB m pc ls (uI i :: uR t a :: r) M Q := by
  obtain ⟨len, h1, h2, h3, h4⟩ := hd
  obtain rfl : len = 1 := h2.resolve_left (fun q => by cases q)
  obtain rfl : pc + 1 = nx := h3.resolve_left (fun q => by cases q)
  refine bB_step h1 h2 ?_
  show ite _ _ _
  rw [if_pos hc]
  exact ⟨hi, k⟩
theorem b_aaloadW {t : Nat} {a i : Int} (hd : dcd m pc (.aaload) nx tg) (hc : bkC t = 104) (hi : 0 ≤ i ∧ i < bkL t) (k : bB m nx ls (uR 12 (M a i) :: r) M Q) : bB m pc ls (uI i :: uR t a :: r) M Q := by
  obtain ⟨len, h1, h2, h3, h4⟩ := hd
  obtain rfl : len = 1 := h2.resolve_left (fun q => by cases q)
  obtain rfl : pc + 1 = nx := h3.resolve_left (fun q => by cases q)
  refine bB_step h1 h2 ?_
  show ite _ _ _
  rw [if_pos hc]
  exact ⟨hi, k⟩
theorem b_aaloadR {t : Nat} {a i : Int} (hd : dcd m pc (.aaload) nx tg) (hc : bkC t = 105) (hi : 0 ≤ i ∧ i < bkL t) (k : bB m nx ls (uR 13 (M a i) :: r) M Q) : bB m pc ls (uI i :: uR t a :: r) M Q := by
  obtain ⟨len, h1, h2, h3, h4⟩ := hd
  obtain rfl : len = 1 := h2.resolve_left (fun q => by cases q)
  obtain rfl : pc + 1 = nx := h3.resolve_left (fun q => by cases q)
  refine bB_step h1 h2 ?_
  show ite _ _ (ite _ _ _)
  rw [if_neg (by omega), if_pos hc]
  exact ⟨hi, k⟩
theorem b_iastore {t : Nat} {a i x : Int} (hd : dcd m pc (.iastore) nx tg) (hc : bkC t = 100) (hi : 0 ≤ i ∧ i < bkL t) (k : bB m nx ls r (dsSet M a i x) Q) : bB m pc ls (uI x :: uI i :: uR t a :: r) M Q := by
  obtain ⟨len, h1, h2, h3, h4⟩ := hd
  obtain rfl : len = 1 := h2.resolve_left (fun q => by cases q)
  obtain rfl : pc + 1 = nx := h3.resolve_left (fun q => by cases q)
  refine bB_step h1 h2 ?_
  show ite _ _ _
  rw [if_pos hc]
  exact ⟨hi, k⟩
theorem b_lastore {t : Nat} {a i x : Int} (hd : dcd m pc (.lastore) nx tg) (hc : bkC t = 103) (hi : 0 ≤ i ∧ i < bkL t) (k : bB m nx ls r (dsSet M a i x) Q) : bB m pc ls (uJ x :: uI i :: uR t a :: r) M Q := by
  obtain ⟨len, h1, h2, h3, h4⟩ := hd
  obtain rfl : len = 1 := h2.resolve_left (fun q => by cases q)
  obtain rfl : pc + 1 = nx := h3.resolve_left (fun q => by cases q)
  refine bB_step h1 h2 ?_
  show ite _ _ _
  rw [if_pos hc]
  exact ⟨hi, k⟩
theorem b_bastore {t : Nat} {a i x : Int} (hd : dcd m pc (.bastore) nx tg) (hc : bkC t = 101) (hx : -128 ≤ x ∧ x ≤ 127) (hi : 0 ≤ i ∧ i < bkL t) (k : bB m nx ls r (dsSet M a i x) Q) : bB m pc ls (uI x :: uI i :: uR t a :: r) M Q := by
  obtain ⟨len, h1, h2, h3, h4⟩ := hd
  obtain rfl : len = 1 := h2.resolve_left (fun q => by cases q)
  obtain rfl : pc + 1 = nx := h3.resolve_left (fun q => by cases q)
  refine bB_step h1 h2 ?_
  show ite _ _ _
  rw [if_pos hc]
  exact ⟨⟨hx, hi⟩, k⟩
theorem b_zastore {t : Nat} {a i x : Int} (hd : dcd m pc (.bastore) nx tg) (hc : bkC t = 102) (hx : x = 0 ∨ x = 1) (hi : 0 ≤ i ∧ i < bkL t) (k : bB m nx ls r (dsSet M a i x) Q) : bB m pc ls (uI x :: uI i :: uR t a :: r) M Q := by
  obtain ⟨len, h1, h2, h3, h4⟩ := hd
  obtain rfl : len = 1 := h2.resolve_left (fun q => by cases q)
  obtain rfl : pc + 1 = nx := h3.resolve_left (fun q => by cases q)
  refine bB_step h1 h2 ?_
  show ite _ _ (ite _ _ _)
  rw [if_neg (by omega), if_pos hc]
  exact ⟨⟨hx, hi⟩, k⟩
theorem b_alen {t : Nat} {a : Int} (hd : dcd m pc (.arraylength) nx tg) (hc : bkC t = 100) (k : bB m nx ls (uI (bkL t) :: r) M Q) : bB m pc ls (uR t a :: r) M Q := by
  obtain ⟨len, h1, h2, h3, h4⟩ := hd
  obtain rfl : len = 1 := h2.resolve_left (fun q => by cases q)
  obtain rfl : pc + 1 = nx := h3.resolve_left (fun q => by cases q)
  refine bB_step h1 h2 ?_
  show ite _ _ _
  rw [if_pos hc]
  exact k
theorem b_ldcI {i z : Nat} {v : Int} (hd : dcd m pc (.ldc i) nx tg) (hk : dsLk (dsKC (dsCl m)) i = some (v, z)) (k : bB m nx ls (uI v :: r) M Q) : bB m pc ls (r) M Q := by
  obtain ⟨len, h1, h2, h3, h4⟩ := hd
  obtain rfl : len = 2 := h2.resolve_left (fun q => by cases q)
  obtain rfl : pc + 2 = nx := h3.resolve_left (fun q => by cases q)
  exact bB_step h1 h2 (by simp only [bI, hk]; exact k)
theorem b_ldcS {i z s : Nat} (hd : dcd m pc (.ldc i) nx tg) (hk : dsLk (dsKC (dsCl m)) i = none) (hs : dsLk (dsKS (dsCl m)) i = some (s, z)) (k : bB m nx ls (uX (s + 2) :: r) M Q) : bB m pc ls (r) M Q := by
  obtain ⟨len, h1, h2, h3, h4⟩ := hd
  obtain rfl : len = 2 := h2.resolve_left (fun q => by cases q)
  obtain rfl : pc + 2 = nx := h3.resolve_left (fun q => by cases q)
  exact bB_step h1 h2 (by simp only [bI, hk, hs]; exact k)
theorem b_ldcw {i z : Nat} {v : Int} (hd : dcd m pc (.ldc_w i) nx tg) (hk : dsLk (dsKC (dsCl m)) i = some (v, z)) (k : bB m nx ls (uI v :: r) M Q) : bB m pc ls (r) M Q := by
  obtain ⟨len, h1, h2, h3, h4⟩ := hd
  obtain rfl : len = 3 := h2.resolve_left (fun q => by cases q)
  obtain rfl : pc + 3 = nx := h3.resolve_left (fun q => by cases q)
  exact bB_step h1 h2 (by simp only [bI, hk]; exact k)
theorem b_ldc2 {i z : Nat} {v : Int} (hd : dcd m pc (.ldc2_w i) nx tg) (hk : dsLk (dsKL (dsCl m)) i = some (v, z)) (k : bB m nx ls (uJ v :: r) M Q) : bB m pc ls (r) M Q := by
  obtain ⟨len, h1, h2, h3, h4⟩ := hd
  obtain rfl : len = 3 := h2.resolve_left (fun q => by cases q)
  obtain rfl : pc + 3 = nx := h3.resolve_left (fun q => by cases q)
  exact bB_step h1 h2 (by simp only [bI, hk]; exact k)
def bCk (m t : Nat) (rest as : List dsU) : Bool := decide (dsRk t < dsRk m ∧ dsMc t = 0 ∧ dsMs t = 0) && (Nat.ble (bCs rest) 8 && Nat.ble (bFl as).length (dsMx t))
theorem bCk_ok {m t : Nat} {rest as : List dsU} (h : bCk m t rest as = true) : dsRk t < dsRk m ∧ bCs rest ≤ 8 ∧ (bFl as).length ≤ dsMx t ∧ dsMc t = 0 ∧ dsMs t = 0 := by
  unfold bCk at h
  simp only [Bool.and_eq_true, decide_eq_true_eq] at h
  exact ⟨h.1.1, Nat.le_of_ble_eq_true h.2.1, Nat.le_of_ble_eq_true h.2.2, h.1.2⟩
theorem b_callS {i t z : Nat} {as rest : List dsU} (hd : dcd m pc (.invokestatic i) nx tg) (hk : dsLk (dsKT (dsCl m)) i = some (1, t, z) ∨ dsLk (dsKT (dsCl m)) i = some (3, t, z)) (hp : bPop (dsNa t) st [] = some (as, rest)) (hc : bCk m t rest as = true)
    (k : bB t 0 (bIn t as) [] M (fun r' M' => bB m nx ls (r' ++ rest) M' Q)) : bB m pc ls st M Q := by
  obtain ⟨len, h1, h2, h3, h4⟩ := hd
  obtain rfl : len = 3 := h2.resolve_left (fun q => by cases q)
  obtain rfl : pc + 3 = nx := h3.resolve_left (fun q => by cases q)
  refine bB_step h1 h2 ?_
  rcases hk with hk | hk
  · simp only [bI, hk, hp]
    unfold bCa
    rw [if_pos (bCk_ok hc)]
    exact k
  · simp only [bI, hk, hp]
    unfold bCa
    rw [if_pos (bCk_ok hc)]
    exact k
theorem b_callV {i t z tk : Nat} {a : Int} {as rest : List dsU} (hd : dcd m pc (.invokevirtual i) nx tg) (hk : dsLk (dsKT (dsCl m)) i = some (0, t, z)) (hp : bPop (dsNa t + 1) st [] = some (uR tk a :: as, rest)) (hn : bkN tk = false ∨ 0 ≤ a) (hcl : bkC tk = (dsCl t : Int)) (hc : bCk m t rest (uR (bkB tk) a :: as) = true)
    (k : bB t 0 (bIn t (uR (bkB tk) a :: as)) [] M (fun r' M' => bB m nx ls (r' ++ rest) M' Q)) : bB m pc ls st M Q := by
  obtain ⟨len, h1, h2, h3, h4⟩ := hd
  obtain rfl : len = 3 := h2.resolve_left (fun q => by cases q)
  obtain rfl : pc + 3 = nx := h3.resolve_left (fun q => by cases q)
  refine bB_step h1 h2 ?_
  simp only [bI, hk, hp]
  rw [if_pos hcl]
  have k2 : bCa m pc ls rest M (bCallOf bB) (fun pc' ls' st' M' => bB m pc' ls' st' M' Q) t (uR (bkB tk) a :: as) := by
    unfold bCa
    rw [if_pos (bCk_ok hc)]
    exact k
  unfold bNn
  split
  · rename_i hq
    exact ⟨hn.resolve_left (by rw [hq]; decide), k2⟩
  · exact k2
theorem b_max {i t z : Nat} {x y : Int} (hd : dcd m pc (.invokestatic i) nx tg) (hk : dsLk (dsKT (dsCl m)) i = some (10, t, z)) (hc : 1 ≤ dsRk m ∧ bCs r ≤ 8) (k : bB m nx ls (uI (if x < y then y else x) :: r) M Q) : bB m pc ls (uI y :: uI x :: r) M Q := by
  obtain ⟨len, h1, h2, h3, h4⟩ := hd
  obtain rfl : len = 3 := h2.resolve_left (fun q => by cases q)
  obtain rfl : pc + 3 = nx := h3.resolve_left (fun q => by cases q)
  refine bB_step h1 h2 ?_
  simp only [bI, hk]
  rw [if_pos hc]
  exact k
theorem b_min {i t z : Nat} {x y : Int} (hd : dcd m pc (.invokestatic i) nx tg) (hk : dsLk (dsKT (dsCl m)) i = some (11, t, z)) (hc : 1 ≤ dsRk m ∧ bCs r ≤ 8) (k : bB m nx ls (uI (if y < x then y else x) :: r) M Q) : bB m pc ls (uI y :: uI x :: r) M Q := by
  obtain ⟨len, h1, h2, h3, h4⟩ := hd
  obtain rfl : len = 3 := h2.resolve_left (fun q => by cases q)
  obtain rfl : pc + 3 = nx := h3.resolve_left (fun q => by cases q)
  refine bB_step h1 h2 ?_
  simp only [bI, hk]
  rw [if_pos hc]
  exact k
theorem b_abs {i t z : Nat} {x : Int} (hd : dcd m pc (.invokestatic i) nx tg) (hk : dsLk (dsKT (dsCl m)) i = some (12, t, z)) (hc : 1 ≤ dsRk m ∧ bCs r ≤ 8) (k : bB m nx ls (uJ (if 0 < x then x else dsw64 (-x)) :: r) M Q) : bB m pc ls (uJ x :: r) M Q := by
  obtain ⟨len, h1, h2, h3, h4⟩ := hd
  obtain rfl : len = 3 := h2.resolve_left (fun q => by cases q)
  obtain rfl : pc + 3 = nx := h3.resolve_left (fun q => by cases q)
  refine bB_step h1 h2 ?_
  simp only [bI, hk]
  rw [if_pos hc]
  exact k
theorem b_copy {i t z ta tb : Nat} {n dp b sp a : Int} (hd : dcd m pc (.invokestatic i) nx tg) (hk : dsLk (dsKT (dsCl m)) i = some (13, t, z)) (hc : (1 ≤ dsRk m ∧ bCs r ≤ 8) ∧ (bkC ta = 100 ∧ bkC tb = 100 ∨ bkC ta = 103 ∧ bkC tb = 103)) (h : 0 ≤ n ∧ 0 ≤ sp ∧ 0 ≤ dp ∧ sp + n ≤ bkL ta ∧ dp + n ≤ bkL tb) (k : bB m nx ls r (dsCpy M a sp b dp n) Q) : bB m pc ls (uI n :: uI dp :: uR tb b :: uI sp :: uR ta a :: r) M Q := by
  obtain ⟨len, h1, h2, h3, h4⟩ := hd
  obtain rfl : len = 3 := h2.resolve_left (fun q => by cases q)
  obtain rfl : pc + 3 = nx := h3.resolve_left (fun q => by cases q)
  refine bB_step h1 h2 ?_
  simp only [bI, hk]
  rw [if_pos hc]
  exact ⟨h, k⟩
theorem b_slen {i t z s : Nat} (hd : dcd m pc (.invokevirtual i) nx tg) (hk : dsLk (dsKT (dsCl m)) i = some (14, t, z)) (hc : 4 ≤ dsRk m ∧ bCs r ≤ 8) (hs : s < dsTX.length) (k : bB m nx ls (uI (dsLen s) :: r) M Q) : bB m pc ls (uX (s + 2) :: r) M Q := by
  obtain ⟨len, h1, h2, h3, h4⟩ := hd
  obtain rfl : len = 3 := h2.resolve_left (fun q => by cases q)
  obtain rfl : pc + 3 = nx := h3.resolve_left (fun q => by cases q)
  refine bB_step h1 h2 ?_
  simp only [bI, hk]
  rw [if_pos hc]
  exact ⟨hs, k⟩
theorem b_schr {i t z s : Nat} {j : Int} (hd : dcd m pc (.invokevirtual i) nx tg) (hk : dsLk (dsKT (dsCl m)) i = some (15, t, z)) (hc : 5 ≤ dsRk m ∧ bCs r ≤ 8) (hs : s < dsTX.length ∧ 0 ≤ j ∧ j < dsLen s) (k : bB m nx ls (uI (dsChr s j) :: r) M Q) : bB m pc ls (uI j :: uX (s + 2) :: r) M Q := by
  obtain ⟨len, h1, h2, h3, h4⟩ := hd
  obtain rfl : len = 3 := h2.resolve_left (fun q => by cases q)
  obtain rfl : pc + 3 = nx := h3.resolve_left (fun q => by cases q)
  refine bB_step h1 h2 ?_
  simp only [bI, hk]
  rw [if_pos hc]
  exact ⟨hs, k⟩
theorem b_iret {x : Int} (hd : dcd m pc .ireturn nx tg) (hr : dsRt m = some .int) (k : Q [uI x] M) : bB m pc ls [uI x] M Q := by
  obtain ⟨len, h1, h2, h3, h4⟩ := hd
  refine bB_step h1 h2 ?_
  simp only [bI, hr]
  exact k
theorem b_zret {x : Int} (hd : dcd m pc .ireturn nx tg) (hr : dsRt m = some .boolean) (hx : x = 0 ∨ x = 1) (k : Q [uI x] M) : bB m pc ls [uI x] M Q := by
  obtain ⟨len, h1, h2, h3, h4⟩ := hd
  refine bB_step h1 h2 ?_
  simp only [bI, hr]
  exact ⟨hx, k⟩
theorem b_lret {x : Int} (hd : dcd m pc .lreturn nx tg) (hr : dsRt m = some .long) (k : Q [uJ x] M) : bB m pc ls [uJ x] M Q := by
  obtain ⟨len, h1, h2, h3, h4⟩ := hd
  refine bB_step h1 h2 ?_
  simp only [bI, hr]
  exact k
theorem b_aret {t : Nat} {x : Int} {nm : String} (hd : dcd m pc .areturn nx tg) (hr : dsRt m = some (.object nm)) (k : Q [uR t x] M) : bB m pc ls [uR t x] M Q := by
  obtain ⟨len, h1, h2, h3, h4⟩ := hd
  refine bB_step h1 h2 ?_
  simp only [bI, hr]
  exact k
theorem b_vret (hd : dcd m pc .return_ nx tg) (hr : dsRt m = none) (k : Q [] M) : bB m pc ls [] M Q := by
  obtain ⟨len, h1, h2, h3, h4⟩ := hd
  refine bB_step h1 h2 ?_
  simp only [bI, hr]
  exact k
end BRules
