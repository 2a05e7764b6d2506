/-! machine B: addresses with kinds; the layout is fixed -/
abbrev dsU : Type := Int ⊕ (Int ⊕ ((Nat × Int) ⊕ Nat))
abbrev uI (x : Int) : dsU := Sum.inl x
abbrev uJ (x : Int) : dsU := Sum.inr (Sum.inl x)
abbrev uR (t : Nat) (a : Int) : dsU := Sum.inr (Sum.inr (Sum.inl (t, a)))
abbrev uX (n : Nat) : dsU := Sum.inr (Sum.inr (Sum.inr n))
/-- a kind's make (from 100 on: its row's numbers), a row's length, a kind without null -/
def bkC (t : Nat) : Int := match t with
  | 0 => 0
  | 1 => 1
  | 2 => 1
  | 3 => 1
  | 4 => 7
  | 5 => 2
  | 6 => 6
  | 7 => 3
  | 8 => 4
  | 9 => 5
  | 10 => 8
  | 11 => 9
  | 12 => 7
  | 13 => 5
  | 20 => 100
  | 21 => 100
  | 22 => 100
  | 23 => 100
  | 24 => 100
  | 25 => 100
  | 26 => 100
  | 27 => 100
  | 28 => 100
  | 29 => 101
  | 30 => 100
  | 31 => 100
  | 32 => 100
  | 33 => 103
  | 34 => 103
  | 35 => 104
  | 36 => 105
  | 37 => 100
  | 38 => 100
  | 39 => 100
  | 40 => 102
  | 41 => 100
  | 42 => 100
  | 43 => 100
  | 44 => 100
  | 45 => 103
  | _ => -9
def bkL (t : Nat) : Int := match t with
  | 20 => 8
  | 21 => 6
  | 22 => 30
  | 23 => 3
  | 24 => 4680
  | 25 => 78
  | 26 => 39
  | 27 => 13
  | 28 => 12
  | 29 => 600
  | 30 => 60
  | 31 => 780
  | 32 => 61
  | 33 => 3
  | 34 => 60
  | 35 => 3
  | 36 => 4
  | 37 => 64
  | 38 => 105
  | 39 => 315
  | 40 => 3
  | 41 => 5
  | 42 => 360
  | 43 => 36
  | 44 => 4
  | 45 => 240
  | _ => 0
def bkN (t : Nat) : Bool := match t with
  | 12 => true
  | 13 => true
  | _ => false
def bkB (t : Nat) : Nat := match t with
  | 12 => 4
  | 13 => 9
  | t => t
/-- what a field of a kind refers to: the kind, whether the place is fixed, the place or distance -/
def bkF (t k : Nat) : Option (Nat × Bool × Int) := match t with
  | 1 => match k with
    | 1 => some (20, false, 1)
    | 2 => some (20, false, 2)
    | 3 => some (20, false, 3)
    | 4 => some (20, false, 4)
    | _ => none
  | 2 => match k with
    | 1 => some (21, false, 1)
    | 2 => some (21, false, 2)
    | 3 => some (21, false, 3)
    | 4 => some (21, false, 4)
    | _ => none
  | 3 => match k with
    | 1 => some (22, false, 1)
    | 2 => some (22, false, 2)
    | 3 => some (22, false, 3)
    | 4 => some (22, false, 4)
    | _ => none
  | 4 => match k with
    | 6 => some (23, false, 1)
    | 7 => some (23, false, 2)
    | 8 => some (21, false, 3)
    | 9 => some (21, false, 4)
    | 10 => some (21, false, 5)
    | 11 => some (1, false, 6)
    | 12 => some (2, false, 11)
    | 13 => some (3, false, 16)
    | _ => none
  | 5 => match k with
    | 0 => some (0, false, 1)
    | 1 => some (24, false, 2)
    | 2 => some (24, false, 3)
    | 3 => some (25, false, 4)
    | 4 => some (25, false, 5)
    | 5 => some (26, false, 6)
    | 6 => some (27, false, 7)
    | 7 => some (28, false, 8)
    | 8 => some (28, false, 9)
    | 9 => some (21, false, 10)
    | 10 => some (21, false, 11)
    | 11 => some (21, false, 12)
    | 12 => some (21, false, 13)
    | 13 => some (21, false, 14)
    | 15 => some (4, true, 24)
    | _ => none
  | 6 => match k with
    | 3 => some (29, false, 1)
    | _ => none
  | 7 => match k with
    | 1 => some (30, false, 1)
    | 2 => some (31, false, 2)
    | 3 => some (32, false, 3)
    | _ => none
  | 8 => match k with
    | 3 => some (33, false, 1)
    | _ => none
  | 9 => match k with
    | 2 => some (34, false, 1)
    | _ => none
  | 10 => match k with
    | 0 => some (6, false, 1)
    | 1 => some (4, false, 3)
    | 2 => some (4, false, 24)
    | 3 => some (35, false, 45)
    | 4 => some (36, false, 46)
    | 5 => some (5, false, 47)
    | 6 => some (5, false, 62)
    | 7 => some (7, false, 77)
    | 8 => some (8, false, 81)
    | 9 => some (37, false, 83)
    | _ => none
  | 11 => match k with
    | 1 => some (38, false, 1)
    | 2 => some (39, false, 2)
    | 3 => some (40, false, 3)
    | 4 => some (29, false, 4)
    | 6 => some (41, false, 5)
    | 14 => some (38, false, 6)
    | 15 => some (21, false, 7)
    | 16 => some (23, false, 8)
    | 24 => some (42, false, 9)
    | 25 => some (42, false, 10)
    | 26 => some (21, false, 11)
    | 27 => some (21, false, 12)
    | 28 => some (23, false, 13)
    | 29 => some (21, false, 14)
    | 30 => some (43, false, 15)
    | 31 => some (28, false, 16)
    | 32 => some (28, false, 17)
    | 35 => some (25, false, 18)
    | 36 => some (25, false, 19)
    | 37 => some (24, false, 20)
    | 38 => some (24, false, 21)
    | 39 => some (26, false, 22)
    | 40 => some (27, false, 23)
    | 41 => some (30, false, 24)
    | 42 => some (31, false, 25)
    | 45 => some (37, false, 26)
    | 49 => some (44, false, 27)
    | 50 => some (44, false, 28)
    | 51 => some (45, false, 29)
    | 52 => some (34, false, 30)
    | _ => none
  | _ => none
def bkMax : Nat := 46
def er (v : dsU) : dsV := match v with
  | .inl x => vI x
  | .inr (.inl x) => vJ x
  | .inr (.inr (.inl (_, a))) => vR a
  | .inr (.inr (.inr n)) => vX n
def bg : List dsU → Nat → dsU
  | [], _ => uX 0
  | a :: _, 0 => a
  | _ :: r, n + 1 => bg r n
def bp : List dsU → Nat → dsU → List dsU
  | [], _, _ => []
  | _ :: r, 0, v => v :: r
  | a :: r, n + 1, v => a :: bp r n v
def bpc (ls : List dsU) (i : Nat) : List dsU := match i with
  | 0 => ls
  | j + 1 => match bg ls j with
    | .inr (.inl _) => bp ls j (uX 0)
    | _ => ls
def bp1 (ls : List dsU) (i : Nat) (v : dsU) : List dsU := bp (bpc ls i) i v
def bp2 (ls : List dsU) (i : Nat) (v : dsU) : List dsU := bp (bp (bpc ls i) i v) (i + 1) (uX 0)
def bPop : Nat → List dsU → List dsU → Option (List dsU × List dsU)
  | 0, st, acc => some (acc, st)
  | n + 1, v :: st, acc => bPop n st (v :: acc)
  | _ + 1, [], _ => none
def bFl : List dsU → List dsU
  | [] => []
  | .inr (.inl x) :: r => uJ x :: uX 0 :: bFl r
  | v :: r => v :: bFl r
def bC : dsU → Nat
  | .inr (.inl _) => 2
  | _ => 1
def bCs : List dsU → Nat
  | [] => 0
  | v :: r => bC v + bCs r
def bIn (m : Nat) (as : List dsU) : List dsU := bFl as ++ List.replicate (dsMx m - (bFl as).length) (uX 0)
def bNn (t : Nat) (a : Int) (K : Prop) : Prop := if bkN t = true then 0 ≤ a ∧ K else K
abbrev bKT : Type := Nat → List dsU → List dsU → dsMem → Prop
abbrev bQT : Type := List dsU → dsMem → Prop
def bMk (t : FieldType) (x : Int) (K : dsU → Prop) : Prop := match t with
  | .long => K (uJ x)
  | .int => K (uI x)
  | .boolean => K (uI x)
  | _ => False
def bPv (t : FieldType) (v : dsU) (K : Int → Prop) : Prop := match t with
  | .long => match v with
    | .inr (.inl x) => K x
    | _ => False
  | .int => match v with
    | .inl x => K x
    | _ => False
  | .boolean => match v with
    | .inl x => (x = 0 ∨ x = 1) ∧ K x
    | _ => False
  | _ => False
def bCa (m pc : Nat) (ls rest : List dsU) (M : dsMem) (call : Nat → List dsU → dsMem → bQT → Prop) (K : bKT) (t : Nat) (as : List dsU) : Prop :=
  if dsRk t < dsRk m ∧ bCs rest ≤ 8 ∧ (bFl as).length ≤ dsMx t ∧ dsMc t = 0 ∧ dsMs t = 0 then call t as M (fun r M' => K (pc + 3) ls (r ++ rest) M') else False
def bI (m pc : Nat) (ins : Instr) (ls st : List dsU) (M : dsMem) (call : Nat → List dsU → dsMem → bQT → Prop) (K : bKT) (Q : bQT) : Prop :=
  match ins with
  | .iconst n => if -100 ≤ n ∧ n ≤ 100 then K (pc + 1) ls (uI n :: st) M else False
  | .bipush n => if -128 ≤ n ∧ n ≤ 127 then K (pc + 2) ls (uI n :: st) M else False
  | .sipush n => if -32768 ≤ n ∧ n ≤ 32767 then K (pc + 3) ls (uI n :: st) M else False
  | .lconst n => K (pc + 1) ls (uJ ((n : Nat) : Int) :: st) M
  | .iload i => match bg ls i with
    | .inl x => K (pc + 2) ls (uI x :: st) M
    | _ => False
  | .iload_n i => match bg ls i with
    | .inl x => K (pc + 1) ls (uI x :: st) M
    | _ => False
  | .lload i => match bg ls i with
    | .inr (.inl x) => K (pc + 2) ls (uJ x :: st) M
    | _ => False
  | .lload_n i => match bg ls i with
    | .inr (.inl x) => K (pc + 1) ls (uJ x :: st) M
    | _ => False
  | .aload i => match bg ls i with
    | .inr (.inr (.inl (t, a))) => K (pc + 2) ls (uR t a :: st) M
    | .inr (.inr (.inr (n + 1))) => K (pc + 2) ls (uX (n + 1) :: st) M
    | _ => False
  | .aload_n i => match bg ls i with
    | .inr (.inr (.inl (t, a))) => K (pc + 1) ls (uR t a :: st) M
    | .inr (.inr (.inr (n + 1))) => K (pc + 1) ls (uX (n + 1) :: st) M
    | _ => False
  | .istore i => match st with
    | .inl x :: r => if (i : Nat) < dsMx m then K (pc + 2) (bp1 ls i (uI x)) r M else False
    | _ => False
  | .istore_n i => match st with
    | .inl x :: r => if (i : Nat) < dsMx m then K (pc + 1) (bp1 ls i (uI x)) r M else False
    | _ => False
  | .lstore i => match st with
    | .inr (.inl x) :: r => if (i : Nat) + 1 < dsMx m then K (pc + 2) (bp2 ls i (uJ x)) r M else False
    | _ => False
  | .lstore_n i => match st with
    | .inr (.inl x) :: r => if (i : Nat) + 1 < dsMx m then K (pc + 1) (bp2 ls i (uJ x)) r M else False
    | _ => False
  | .astore i => match st with
    | .inr (.inr (.inl (t, a))) :: r => if (i : Nat) < dsMx m then K (pc + 2) (bp1 ls i (uR t a)) r M else False
    | _ => False
  | .astore_n i => match st with
    | .inr (.inr (.inl (t, a))) :: r => if (i : Nat) < dsMx m then K (pc + 1) (bp1 ls i (uR t a)) r M else False
    | _ => False
  | .iinc i n => match bg ls i with
    | .inl x => if i < dsMx m then K (pc + 3) (bp1 ls i (uI (dsw (x + n)))) st M else False
    | _ => False
  | .iadd => match st with
    | .inl y :: .inl x :: r => K (pc + 1) ls (uI (dsw (x + y)) :: r) M
    | _ => False
  | .isub => match st with
    | .inl y :: .inl x :: r => K (pc + 1) ls (uI (dsw (x - y)) :: r) M
    | _ => False
  | .imul => match st with
    | .inl y :: .inl x :: r => K (pc + 1) ls (uI (dsw (x * y)) :: r) M
    | _ => False
  | .idiv => match st with
    | .inl y :: .inl x :: r => ¬ y = 0 ∧ K (pc + 1) ls (uI (dsw (x.tdiv y)) :: r) M
    | _ => False
  | .irem => match st with
    | .inl y :: .inl x :: r => ¬ y = 0 ∧ K (pc + 1) ls (uI (x.tmod y) :: r) M
    | _ => False
  | .iand => match st with
    | .inl y :: .inl x :: r => K (pc + 1) ls (uI (dsAnd x y) :: r) M
    | _ => False
  | .ior => match st with
    | .inl y :: .inl x :: r => K (pc + 1) ls (uI (dsOr x y) :: r) M
    | _ => False
  | .ixor => match st with
    | .inl y :: .inl x :: r => K (pc + 1) ls (uI (dsXor x y) :: r) M
    | _ => False
  | .ishl => match st with
    | .inl y :: .inl x :: r => K (pc + 1) ls (uI (dsShl x y) :: r) M
    | _ => False
  | .ishr => match st with
    | .inl y :: .inl x :: r => K (pc + 1) ls (uI (dsShr x y) :: r) M
    | _ => False
  | .iushr => match st with
    | .inl y :: .inl x :: r => K (pc + 1) ls (uI (dsUsh x y) :: r) M
    | _ => False
  | .ladd => match st with
    | .inr (.inl y) :: .inr (.inl x) :: r => K (pc + 1) ls (uJ (dsw64 (x + y)) :: r) M
    | _ => False
  | .lmul => match st with
    | .inr (.inl y) :: .inr (.inl x) :: r => K (pc + 1) ls (uJ (dsw64 (x * y)) :: r) M
    | _ => False
  | .ldiv => match st with
    | .inr (.inl y) :: .inr (.inl x) :: r => ¬ y = 0 ∧ K (pc + 1) ls (uJ (dsw64 (x.tdiv y)) :: r) M
    | _ => False
  | .lrem => match st with
    | .inr (.inl y) :: .inr (.inl x) :: r => ¬ y = 0 ∧ K (pc + 1) ls (uJ (x.tmod y) :: r) M
    | _ => False
  | .land => match st with
    | .inr (.inl y) :: .inr (.inl x) :: r => K (pc + 1) ls (uJ (dsLand x y) :: r) M
    | _ => False
  | .lor => match st with
    | .inr (.inl y) :: .inr (.inl x) :: r => K (pc + 1) ls (uJ (dsLor x y) :: r) M
    | _ => False
  | .lshl => match st with
    | .inl y :: .inr (.inl x) :: r => K (pc + 1) ls (uJ (dsLsl x y) :: r) M
    | _ => False
  | .lshr => match st with
    | .inl y :: .inr (.inl x) :: r => K (pc + 1) ls (uJ (dsLsr x y) :: r) M
    | _ => False
  | .lcmp => match st with
    | .inr (.inl y) :: .inr (.inl x) :: r => K (pc + 1) ls (uI (dsLc x y) :: r) M
    | _ => False
  | .i2l => match st with
    | .inl x :: r => K (pc + 1) ls (uJ x :: r) M
    | _ => False
  | .l2i => match st with
    | .inr (.inl x) :: r => K (pc + 1) ls (uI (dsw x) :: r) M
    | _ => False
  | .i2b => match st with
    | .inl x :: r => K (pc + 1) ls (uI (dsB x) :: r) M
    | _ => False
  | .dup => match st with
    | v :: r => if bC v = 1 then K (pc + 1) ls (v :: v :: r) M else False
    | _ => False
  | .dup2 => match st with
    | .inr (.inl x) :: r => K (pc + 1) ls (uJ x :: uJ x :: r) M
    | v :: w :: r => if bC v = 1 ∧ bC w = 1 then K (pc + 1) ls (v :: w :: v :: w :: r) M else False
    | _ => False
  | .pop => match st with
    | v :: r => if bC v = 1 then K (pc + 1) ls r M else False
    | _ => False
  | .ifCond c off => match st with
    | .inl x :: r => dsTg pc off (fun t => (dsCn c x 0 → K t ls r M) ∧ (¬ dsCn c x 0 → K (pc + 3) ls r M))
    | _ => False
  | .if_icmp c off => match st with
    | .inl y :: .inl x :: r => dsTg pc off (fun t => (dsCn c x y → K t ls r M) ∧ (¬ dsCn c x y → K (pc + 3) ls r M))
    | _ => False
  | .ifnull off => match st with
    | .inr (.inr (.inl (_, x))) :: r => dsTg pc off (fun t => (x < 0 → K t ls r M) ∧ (¬ x < 0 → K (pc + 3) ls r M))
    | _ => False
  | .ifnonnull off => match st with
    | .inr (.inr (.inl (_, x))) :: r => dsTg pc off (fun t => (¬ x < 0 → K t ls r M) ∧ (x < 0 → K (pc + 3) ls r M))
    | _ => False
  | .goto off => dsTg pc off (fun t => K t ls st M)
  | .tableswitch d lo hi offs => match st with
    | .inl x :: r => ((x < lo ∨ hi < x) → dsTg pc d (fun t => K t ls r M)) ∧ (¬ (x < lo ∨ hi < x) → match offs[(x - lo).toNat]? with
      | some off => dsTg pc off (fun t => K t ls r M)
      | none => False)
    | _ => False
  | .getfield i => match dsLk (dsFT (dsCl m)) i with
    | some (c, k, _) => match st with
      | .inr (.inr (.inl (t, a))) :: r => if bkC t = (c : Int) then bNn t a (match bkF (bkB t) k with
        | some (t2, ab, o) => K (pc + 3) ls (uR t2 (if ab = true then o else a + o) :: r) M
        | none => bMk (dsY c k) (M a k) (fun v => K (pc + 3) ls (v :: r) M)) else False
      | _ => False
    | none => False
  | .putfield i => match dsLk (dsFT (dsCl m)) i with
    | some (c, k, _) => match st with
      | v :: .inr (.inr (.inl (t, a))) :: r => if bkC t = (c : Int) ∧ (dsT c k).2.2.2 = false then bNn t a (bPv (dsY c k) v (fun x => K (pc + 3) ls r (dsSet M a k x))) else False
      | _ => False
    | none => False
  | .iaload => match st with
    | .inl i :: .inr (.inr (.inl (t, a))) :: r => if bkC t = 100 then (0 ≤ i ∧ i < bkL t) ∧ K (pc + 1) ls (uI (M a i) :: r) M else False
    | _ => False
  | .baload => match st with
    | .inl i :: .inr (.inr (.inl (t, a))) :: r => if bkC t = 101 ∨ bkC t = 102 then (0 ≤ i ∧ i < bkL t) ∧ K (pc + 1) ls (uI (M a i) :: r) M else False
    | _ => False
  | .laload => match st with
    | .inl i :: .inr (.inr (.inl (t, a))) :: r => if bkC t = 103 then (0 ≤ i ∧ i < bkL t) ∧ K (pc + 1) ls (uJ (M a i) :: r) M else False
    | _ => False
  | .aaload => match st with
    | .inl i :: .inr (.inr (.inl (t, a))) :: r => if bkC t = 104 then (0 ≤ i ∧ i < bkL t) ∧ K (pc + 1) ls (uR 12 (M a i) :: r) M else if bkC t = 105 then (0 ≤ i ∧ i < bkL t) ∧ K (pc + 1) ls (uR 13 (M a i) :: r) M else False
    | _ => False
  | .iastore => match st with
    | .inl x :: .inl i :: .inr (.inr (.inl (t, a))) :: r => if bkC t = 100 then (0 ≤ i ∧ i < bkL t) ∧ K (pc + 1) ls r (dsSet M a i x) else False
    | _ => False
  | .bastore => match st with
    | .inl x :: .inl i :: .inr (.inr (.inl (t, a))) :: r => if bkC t = 101 then ((-128 ≤ x ∧ x ≤ 127) ∧ 0 ≤ i ∧ i < bkL t) ∧ K (pc + 1) ls r (dsSet M a i x) else if bkC t = 102 then ((x = 0 ∨ x = 1) ∧ 0 ≤ i ∧ i < bkL t) ∧ K (pc + 1) ls r (dsSet M a i x) else False
    | _ => False
  | .lastore => match st with
    | .inr (.inl x) :: .inl i :: .inr (.inr (.inl (t, a))) :: r => if bkC t = 103 then (0 ≤ i ∧ i < bkL t) ∧ K (pc + 1) ls r (dsSet M a i x) else False
    | _ => False
  | .arraylength => match st with
    | .inr (.inr (.inl (t, _))) :: r => if bkC t = 100 then K (pc + 1) ls (uI (bkL t) :: r) M else False
    | _ => False
  | .ldc i => match dsLk (dsKC (dsCl m)) i with
    | some (v, _) => K (pc + 2) ls (uI v :: st) M
    | none => match dsLk (dsKS (dsCl m)) i with
      | some (k, _) => K (pc + 2) ls (uX (k + 2) :: st) M
      | none => False
  | .ldc_w i => match dsLk (dsKC (dsCl m)) i with
    | some (v, _) => K (pc + 3) ls (uI v :: st) M
    | none => False
  | .ldc2_w i => match dsLk (dsKL (dsCl m)) i with
    | some (v, _) => K (pc + 3) ls (uJ v :: st) M
    | none => False
  | .invokevirtual i => match dsLk (dsKT (dsCl m)) i with
    | some (0, t, _) => match bPop (dsNa t + 1) st [] with
      | some (.inr (.inr (.inl (tk, a))) :: as, rest) => if bkC tk = (dsCl t : Int) then bNn tk a (bCa m pc ls rest M call K t (uR (bkB tk) a :: as)) else False
      | _ => False
    | some (14, _, _) => match st with
      | .inr (.inr (.inr (k + 2))) :: r => if 4 ≤ dsRk m ∧ bCs r ≤ 8 then k < dsTX.length ∧ K (pc + 3) ls (uI (dsLen k) :: r) M else False
      | _ => False
    | some (15, _, _) => match st with
      | .inl i :: .inr (.inr (.inr (k + 2))) :: r => if 5 ≤ dsRk m ∧ bCs r ≤ 8 then (k < dsTX.length ∧ 0 ≤ i ∧ i < dsLen k) ∧ K (pc + 3) ls (uI (dsChr k i) :: r) M else False
      | _ => False
    | _ => False
  | .invokestatic i => match dsLk (dsKT (dsCl m)) i with
    | some (1, t, _) => match bPop (dsNa t) st [] with
      | some (as, rest) => bCa m pc ls rest M call K t as
      | none => False
    | some (3, t, _) => match bPop (dsNa t) st [] with
      | some (as, rest) => bCa m pc ls rest M call K t as
      | none => False
    | some (10, _, _) => match st with
      | .inl y :: .inl x :: r => if 1 ≤ dsRk m ∧ bCs r ≤ 8 then K (pc + 3) ls (uI (if x < y then y else x) :: r) M else False
      | _ => False
    | some (11, _, _) => match st with
      | .inl y :: .inl x :: r => if 1 ≤ dsRk m ∧ bCs r ≤ 8 then K (pc + 3) ls (uI (if y < x then y else x) :: r) M else False
      | _ => False
    | some (12, _, _) => match st with
      | .inr (.inl x) :: r => if 1 ≤ dsRk m ∧ bCs r ≤ 8 then K (pc + 3) ls (uJ (if 0 < x then x else dsw64 (-x)) :: r) M else False
      | _ => False
    | some (13, _, _) => match st with
      | .inl n :: .inl dp :: .inr (.inr (.inl (tb, b))) :: .inl sp :: .inr (.inr (.inl (ta, a))) :: r =>
        if (1 ≤ dsRk m ∧ bCs r ≤ 8) ∧ (bkC ta = 100 ∧ bkC tb = 100 ∨ bkC ta = 103 ∧ bkC tb = 103) then (0 ≤ n ∧ 0 ≤ sp ∧ 0 ≤ dp ∧ sp + n ≤ bkL ta ∧ dp + n ≤ bkL tb) ∧ K (pc + 3) ls r (dsCpy M a sp b dp n) else False
      | _ => False
    | _ => False
  | .ireturn => match st with
    | [.inl x] => match dsRt m with
      | some .int => Q [uI x] M
      | some .boolean => (x = 0 ∨ x = 1) ∧ Q [uI x] M
      | _ => False
    | _ => False
  | .lreturn => match st with
    | [.inr (.inl x)] => match dsRt m with
      | some .long => Q [uJ x] M
      | _ => False
    | _ => False
  | .areturn => match st with
    | [.inr (.inr (.inl (t, x)))] => match dsRt m with
      | some (.object _) => Q [uR t x] M
      | _ => False
    | _ => False
  | .return_ => match st with
    | [] => match dsRt m with
      | none => Q [] M
      | _ => False
    | _ => False
  | _ => False
/-- less is known of the locals -/
def bLe (ls' ls : List dsU) : Prop := ∀ i, bg ls' i = uX 0 ∨ bg ls' i = bg ls i
def Lay (G : Int → Nat) (M : dsMem) : Prop :=
  (∀ a, G a < 90 → (M a (-1) = bkC (G a) ∧ bkN (G a) = false) ∧ (100 ≤ bkC (G a) → M a (-2) = bkL (G a)) ∧ ∀ k t ab o, bkF (G a) k = some (t, ab, o) → M a (k : Nat) = (if ab = true then o else a + o) ∧ G (if ab = true then o else a + o) = t ∧ t < 90) ∧
  ∀ a, G a < 90 → (bkC (G a) = 104 → ∀ i, 0 ≤ i → i < bkL (G a) → M a i < 0 ∨ G (M a i) = 4) ∧ (bkC (G a) = 105 → ∀ i, 0 ≤ i → i < bkL (G a) → M a i < 0 ∨ G (M a i) = 9)
def Vd (G : Int → Nat) (v : dsU) : Prop := match v with
  | .inr (.inr (.inl (t, a))) => t < 90 ∧ (if bkN t = true then a < 0 ∨ G a = bkB t else G a = t)
  | _ => True
abbrev bPT : Type := Nat → Nat → List dsU → List dsU → dsMem → bQT → Prop
def bCallOf (P : bPT) : Nat → List dsU → dsMem → bQT → Prop := fun t as M Q => P t 0 (bIn t as) [] M Q
def bClo (P : bPT) : Prop :=
  (∀ m pc ls st M (Q Q' : bQT), (∀ r M', Q r M' → Q' r M') → P m pc ls st M Q → P m pc ls st M Q') ∧
  (∀ m pc ls ls' st M (Q : bQT), bLe ls' ls → P m pc ls' st M Q → P m pc ls st M Q) ∧
  (∀ m pc ls st M (Q : bQT) ins len, decode (dsCd m) pc = .ok (ins, len) → (dsTs ins = true ∨ len = dsLn ins) →
    bI m pc ins ls st M (bCallOf P) (fun pc' ls' st' M' => P m pc' ls' st' M' Q) Q → P m pc ls st M Q) ∧
  ∀ m pc ls st M (Q : bQT), (∀ G : Int → Nat, Lay G M → dsGr M → (∀ i, Vd G (bg ls i)) → P m pc ls st M Q) → P m pc ls st M Q
def bB (m pc : Nat) (ls st : List dsU) (M : dsMem) (Q : bQT) : Prop := ∀ P : bPT, bClo P → P m pc ls st M Q
