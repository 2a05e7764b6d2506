/-! the machine of whole numbers: values are Ints, memory is a table of Ints; one instruction as a predicate transformer -/
abbrev dsV : Type := Int ⊕ (Int ⊕ (Int ⊕ Nat))
abbrev vI (x : Int) : dsV := Sum.inl x
abbrev vJ (x : Int) : dsV := Sum.inr (Sum.inl x)
abbrev vR (x : Int) : dsV := Sum.inr (Sum.inr (Sum.inl x))
abbrev vX (n : Nat) : dsV := Sum.inr (Sum.inr (Sum.inr n))
abbrev dsMem : Type := Int → Int → Int
def dsw (x : Int) : Int := (Int32.ofInt x).toInt
def dsw64 (x : Int) : Int := (Int64.ofInt x).toInt
def dsg : List dsV → Nat → dsV
  | [], _ => vX 0
  | a :: _, 0 => a
  | _ :: r, n + 1 => dsg r n
def dsp : List dsV → Nat → dsV → List dsV
  | [], _, _ => []
  | _ :: r, 0, v => v :: r
  | a :: r, n + 1, v => a :: dsp r n v
/-- a place behind which a long stood is unset -/
def dspc (ls : List dsV) (i : Nat) : List dsV := match i with
  | 0 => ls
  | j + 1 => match dsg ls j with
    | .inr (.inl _) => dsp ls j (vX 0)
    | _ => ls
def dsp1 (ls : List dsV) (i : Nat) (v : dsV) : List dsV := dsp (dspc ls i) i v
def dsp2 (ls : List dsV) (i : Nat) (v : dsV) : List dsV := dsp (dsp (dspc ls i) i v) (i + 1) (vX 0)
def dsSet (M : dsMem) (a i v : Int) : dsMem := fun b j => if b = a ∧ j = i then v else M b j
def dsNew (M : dsMem) (kd len d : Int) : dsMem := fun a i =>
  if a = M (-1) 0 then (if i = -1 then kd else if i = -2 then len else d) else if a = -1 ∧ i = 0 then M (-1) 0 + 1 else M a i
def dsDf (t : FieldType) : Int := match t with
  | .object _ => -1
  | .array _ => -1
  | _ => 0
def dsNewO (M : dsMem) (c : Nat) : dsMem := fun a i =>
  if a = M (-1) 0 then (if i = -1 then (c : Int) else dsDf (dsY c i.toNat)) else if a = -1 ∧ i = 0 then M (-1) 0 + 1 else M a i
/-- so many numbers of one row into another's -/
def dsCpy (M : dsMem) (a sp b dp n : Int) : dsMem := fun c i => if c = b ∧ dp ≤ i ∧ i < dp + n then M a (sp + (i - dp)) else M c i
def dsLk {α : Type} : List (Nat × α) → Nat → Option α
  | [], _ => none
  | e :: r, i => if e.1 = i then some e.2 else dsLk r i
def dsPop : Nat → List dsV → List dsV → Option (List dsV × List dsV)
  | 0, st, acc => some (acc, st)
  | n + 1, v :: st, acc => dsPop n st (v :: acc)
  | _ + 1, [], _ => none
def dsFl : List dsV → List dsV
  | [] => []
  | .inr (.inl x) :: r => vJ x :: vX 0 :: dsFl r
  | v :: r => v :: dsFl r
def dsC : dsV → Nat
  | .inr (.inl _) => 2
  | _ => 1
def dsCs : List dsV → Nat
  | [] => 0
  | v :: r => dsC v + dsCs r
def dsYn (m : Nat) : MethodName := (dsMr m).1
def dsCd (m : Nat) : ByteArray := (dsMr m).2.1
def dsMx (m : Nat) : Nat := (dsMr m).2.2.1
def dsRt (m : Nat) : Option FieldType := (dsMr m).2.2.2.1
def dsCl (m : Nat) : Nat := (dsMr m).2.2.2.2.1.1
def dsRk (m : Nat) : Nat := (dsMr m).2.2.2.2.1.2.1
def dsMc (m : Nat) : Nat := (dsMr m).2.2.2.2.1.2.2.1
def dsMs (m : Nat) : Nat := (dsMr m).2.2.2.2.1.2.2.2.1
def dsNa (m : Nat) : Nat := (dsMr m).2.2.2.2.1.2.2.2.2.1
def dsKd (m : Nat) : Nat := (dsMr m).2.2.2.2.1.2.2.2.2.2
def dsIn (m : Nat) (as : List dsV) : List dsV := dsFl as ++ List.replicate (dsMx m - (dsFl as).length) (vX 0)
def dsCn (c : ClassFile.Cond) (x y : Int) : Prop := match c with
  | .eq => x = y
  | .ne => ¬ x = y
  | .lt => x < y
  | .ge => y ≤ x
  | .gt => y < x
  | .le => x ≤ y
/-- a value got by its type -/
def dsMk (t : FieldType) (x : Int) : dsV := match t with
  | .long => vJ x
  | .object _ => vR x
  | .array _ => vR x
  | _ => vI x
/-- a value put by its type -/
def dsPv (t : FieldType) (v : dsV) (K : Int → Prop) : Prop := match t with
  | .long => match v with
    | .inr (.inl x) => K x
    | _ => False
  | .object _ => match v with
    | .inr (.inr (.inl x)) => K x
    | _ => False
  | .array _ => match v with
    | .inr (.inr (.inl x)) => K x
    | _ => False
  | .int => match v with
    | .inl x => K x
    | _ => False
  | .boolean => match v with
    | .inl x => (x = 0 ∨ x = 1) ∧ K x
    | _ => False
  | _ => False
def dsLc (x y : Int) : Int := if x < y then -1 else if x = y then 0 else 1
def dsAnd (x y : Int) : Int := (Int32.ofInt x &&& Int32.ofInt y).toInt
def dsOr (x y : Int) : Int := (Int32.ofInt x ||| Int32.ofInt y).toInt
def dsXor (x y : Int) : Int := (Int32.ofInt x ^^^ Int32.ofInt y).toInt
def dsShl (x y : Int) : Int := (Int32.ofInt x <<< (Int32.ofInt y &&& 31)).toInt
def dsShr (x y : Int) : Int := (Int32.ofInt x >>> (Int32.ofInt y &&& 31)).toInt
def dsUsh (x y : Int) : Int := ((Int32.ofInt x).toUInt32 >>> ((Int32.ofInt y).toUInt32 &&& Int32.toUInt32 31)).toInt32.toInt
def dsLsl (x y : Int) : Int := (Int64.ofInt x <<< ((Int32.ofInt y).toInt64 &&& 63)).toInt
def dsLsr (x y : Int) : Int := (Int64.ofInt x >>> ((Int32.ofInt y).toInt64 &&& 63)).toInt
def dsLand (x y : Int) : Int := (Int64.ofInt x &&& Int64.ofInt y).toInt
def dsLor (x y : Int) : Int := (Int64.ofInt x ||| Int64.ofInt y).toInt
def dsB (x : Int) : Int := (Int32.ofInt x).toInt8.toInt32.toInt
def dsKn (t : ArrayType) : Int := match t with
  | .int => 100
  | .byte => 101
  | .boolean => 102
  | .long => 103
  | _ => -7
def dsTg (pc : Nat) (off : Int) (K : Nat → Prop) : Prop := if 0 ≤ (pc : Int) + off then K ((pc : Int) + off).toNat else False
def dsLn (ins : Instr) : Nat := match ins with
  | .bipush _ => 2
  | .sipush _ => 3
  | .iload _ => 2
  | .lload _ => 2
  | .aload _ => 2
  | .istore _ => 2
  | .lstore _ => 2
  | .astore _ => 2
  | .iinc _ _ => 3
  | .ifCond _ _ => 3
  | .if_icmp _ _ => 3
  | .ifnull _ => 3
  | .ifnonnull _ => 3
  | .goto _ => 3
  | .getfield _ => 3
  | .putfield _ => 3
  | .invokevirtual _ => 3
  | .invokespecial _ => 3
  | .invokestatic _ => 3
  | .new _ => 3
  | .newarray _ => 2
  | .anewarray _ => 3
  | .ldc _ => 2
  | .ldc_w _ => 3
  | .ldc2_w _ => 3
  | _ => 1
def dsTs (ins : Instr) : Bool := match ins with
  | .tableswitch _ _ _ _ => true
  | _ => false
def dsChr (k : Nat) (i : Int) : Int := match dsTX[k]? with
  | some t => t.2.getD i.toNat 0
  | none => 0
def dsLen (k : Nat) : Int := match dsTX[k]? with
  | some t => (t.2.length : Int)
  | none => 0
abbrev dsKT1 : Type := Nat → List dsV → List dsV → Nat × Nat → dsMem → Prop
abbrev dsQT : Type := List dsV → dsMem → Prop
/-- a call of a method of the tables -/
def dsCa (m pc : Nat) (ls rest : List dsV) (u : Nat × Nat) (M : dsMem) (call : Nat → List dsV → dsMem → dsQT → Prop) (K : dsKT1) (t : Nat) (as : List dsV) : Prop :=
  if dsRk t < dsRk m ∧ dsCs rest ≤ 8 ∧ (dsFl as).length ≤ dsMx t then
    (u.1 + dsMc t ≤ dsMc m ∧ u.2 + dsMs t ≤ dsMs m) ∧ call t as M (fun r M' => K (pc + 3) ls (r ++ rest) (u.1 + dsMc t, u.2 + dsMs t) M')
  else False
def dsI (m pc : Nat) (ins : Instr) (ls st : List dsV) (u : Nat × Nat) (M : dsMem) (call : Nat → List dsV → dsMem → dsQT → Prop) (K : dsKT1) (Q : dsQT) : Prop :=
  match ins with
  | .iconst n => if -100 ≤ n ∧ n ≤ 100 then K (pc + 1) ls (vI n :: st) u M else False
  | .bipush n => if -128 ≤ n ∧ n ≤ 127 then K (pc + 2) ls (vI n :: st) u M else False
  | .sipush n => if -32768 ≤ n ∧ n ≤ 32767 then K (pc + 3) ls (vI n :: st) u M else False
  | .lconst n => K (pc + 1) ls (vJ ((n : Nat) : Int) :: st) u M
  | .iload i => match dsg ls i with
    | .inl x => K (pc + 2) ls (vI x :: st) u M
    | _ => False
  | .iload_n i => match dsg ls i with
    | .inl x => K (pc + 1) ls (vI x :: st) u M
    | _ => False
  | .lload i => match dsg ls i with
    | .inr (.inl x) => K (pc + 2) ls (vJ x :: st) u M
    | _ => False
  | .lload_n i => match dsg ls i with
    | .inr (.inl x) => K (pc + 1) ls (vJ x :: st) u M
    | _ => False
  | .aload i => match dsg ls i with
    | .inr (.inr (.inl x)) => K (pc + 2) ls (vR x :: st) u M
    | .inr (.inr (.inr (n + 1))) => K (pc + 2) ls (vX (n + 1) :: st) u M
    | _ => False
  | .aload_n i => match dsg ls i with
    | .inr (.inr (.inl x)) => K (pc + 1) ls (vR x :: st) u M
    | .inr (.inr (.inr (n + 1))) => K (pc + 1) ls (vX (n + 1) :: st) u M
    | _ => False
  | .istore i => match st with
    | .inl x :: r => if i < dsMx m then K (pc + 2) (dsp1 ls i (vI x)) r u M else False
    | _ => False
  | .istore_n i => match st with
    | .inl x :: r => if (i : Nat) < dsMx m then K (pc + 1) (dsp1 ls i (vI x)) r u M else False
    | _ => False
  | .lstore i => match st with
    | .inr (.inl x) :: r => if i + 1 < dsMx m then K (pc + 2) (dsp2 ls i (vJ x)) r u M else False
    | _ => False
  | .lstore_n i => match st with
    | .inr (.inl x) :: r => if (i : Nat) + 1 < dsMx m then K (pc + 1) (dsp2 ls i (vJ x)) r u M else False
    | _ => False
  | .astore i => match st with
    | .inr (.inr (.inl x)) :: r => if i < dsMx m then K (pc + 2) (dsp1 ls i (vR x)) r u M else False
    | _ => False
  | .astore_n i => match st with
    | .inr (.inr (.inl x)) :: r => if (i : Nat) < dsMx m then K (pc + 1) (dsp1 ls i (vR x)) r u M else False
    | _ => False
  | .iinc i n => match dsg ls i with
    | .inl x => if i < dsMx m then K (pc + 3) (dsp1 ls i (vI (dsw (x + n)))) st u M else False
    | _ => False
  | .iadd => match st with
    | .inl y :: .inl x :: r => K (pc + 1) ls (vI (dsw (x + y)) :: r) u M
    | _ => False
  | .isub => match st with
    | .inl y :: .inl x :: r => K (pc + 1) ls (vI (dsw (x - y)) :: r) u M
    | _ => False
  | .imul => match st with
    | .inl y :: .inl x :: r => K (pc + 1) ls (vI (dsw (x * y)) :: r) u M
    | _ => False
  | .idiv => match st with
    | .inl y :: .inl x :: r => ¬ y = 0 ∧ K (pc + 1) ls (vI (dsw (x.tdiv y)) :: r) u M
    | _ => False
  | .irem => match st with
    | .inl y :: .inl x :: r => ¬ y = 0 ∧ K (pc + 1) ls (vI (x.tmod y) :: r) u M
    | _ => False
  | .iand => match st with
    | .inl y :: .inl x :: r => K (pc + 1) ls (vI (dsAnd x y) :: r) u M
    | _ => False
  | .ior => match st with
    | .inl y :: .inl x :: r => K (pc + 1) ls (vI (dsOr x y) :: r) u M
    | _ => False
  | .ixor => match st with
    | .inl y :: .inl x :: r => K (pc + 1) ls (vI (dsXor x y) :: r) u M
    | _ => False
  | .ishl => match st with
    | .inl y :: .inl x :: r => K (pc + 1) ls (vI (dsShl x y) :: r) u M
    | _ => False
  | .ishr => match st with
    | .inl y :: .inl x :: r => K (pc + 1) ls (vI (dsShr x y) :: r) u M
    | _ => False
  | .iushr => match st with
    | .inl y :: .inl x :: r => K (pc + 1) ls (vI (dsUsh x y) :: r) u M
    | _ => False
  | .ladd => match st with
    | .inr (.inl y) :: .inr (.inl x) :: r => K (pc + 1) ls (vJ (dsw64 (x + y)) :: r) u M
    | _ => False
  | .lmul => match st with
    | .inr (.inl y) :: .inr (.inl x) :: r => K (pc + 1) ls (vJ (dsw64 (x * y)) :: r) u M
    | _ => False
  | .ldiv => match st with
    | .inr (.inl y) :: .inr (.inl x) :: r => ¬ y = 0 ∧ K (pc + 1) ls (vJ (dsw64 (x.tdiv y)) :: r) u M
    | _ => False
  | .lrem => match st with
    | .inr (.inl y) :: .inr (.inl x) :: r => ¬ y = 0 ∧ K (pc + 1) ls (vJ (x.tmod y) :: r) u M
    | _ => False
  | .land => match st with
    | .inr (.inl y) :: .inr (.inl x) :: r => K (pc + 1) ls (vJ (dsLand x y) :: r) u M
    | _ => False
  | .lor => match st with
    | .inr (.inl y) :: .inr (.inl x) :: r => K (pc + 1) ls (vJ (dsLor x y) :: r) u M
    | _ => False
  | .lshl => match st with
    | .inl y :: .inr (.inl x) :: r => K (pc + 1) ls (vJ (dsLsl x y) :: r) u M
    | _ => False
  | .lshr => match st with
    | .inl y :: .inr (.inl x) :: r => K (pc + 1) ls (vJ (dsLsr x y) :: r) u M
    | _ => False
  | .lcmp => match st with
    | .inr (.inl y) :: .inr (.inl x) :: r => K (pc + 1) ls (vI (dsLc x y) :: r) u M
    | _ => False
  | .i2l => match st with
    | .inl x :: r => K (pc + 1) ls (vJ x :: r) u M
    | _ => False
  | .l2i => match st with
    | .inr (.inl x) :: r => K (pc + 1) ls (vI (dsw x) :: r) u M
    | _ => False
  | .i2b => match st with
    | .inl x :: r => K (pc + 1) ls (vI (dsB x) :: r) u M
    | _ => False
  | .dup => match st with
    | v :: r => if dsC v = 1 then K (pc + 1) ls (v :: v :: r) u M else False
    | _ => False
  | .dup2 => match st with
    | .inr (.inl x) :: r => K (pc + 1) ls (vJ x :: vJ x :: r) u M
    | v :: w :: r => if dsC v = 1 ∧ dsC w = 1 then K (pc + 1) ls (v :: w :: v :: w :: r) u M else False
    | _ => False
  | .pop => match st with
    | v :: r => if dsC v = 1 then K (pc + 1) ls r u M else False
    | _ => False
  | .ifCond c off => match st with
    | .inl x :: r => dsTg pc off (fun t => (dsCn c x 0 → K t ls r u M) ∧ (¬ dsCn c x 0 → K (pc + 3) ls r u M))
    | _ => False
  | .if_icmp c off => match st with
    | .inl y :: .inl x :: r => dsTg pc off (fun t => (dsCn c x y → K t ls r u M) ∧ (¬ dsCn c x y → K (pc + 3) ls r u M))
    | _ => False
  | .ifnull off => match st with
    | .inr (.inr (.inl x)) :: r => (x < 0 → dsTg pc off (fun t => K t ls r u M)) ∧ (¬ x < 0 → K (pc + 3) ls r u M)
    | _ => False
  | .ifnonnull off => match st with
    | .inr (.inr (.inl x)) :: r => (¬ x < 0 → dsTg pc off (fun t => K t ls r u M)) ∧ (x < 0 → K (pc + 3) ls r u M)
    | _ => False
  | .goto off => dsTg pc off (fun t => K t ls st u M)
  | .tableswitch d lo hi offs => match st with
    | .inl x :: r => ((x < lo ∨ hi < x) → dsTg pc d (fun t => K t ls r u M)) ∧ (¬ (x < lo ∨ hi < x) → match offs[(x - lo).toNat]? with
      | some off => dsTg pc off (fun t => K t ls r u M)
      | none => False)
    | _ => False
  | .getfield i => match dsLk (dsFT (dsCl m)) i with
    | some (c, k, _) => match st with
      | .inr (.inr (.inl a)) :: r => M a (-1) = (c : Int) ∧ K (pc + 3) ls (dsMk (dsY c k) (M a k) :: r) u M
      | _ => False
    | none => False
  | .putfield i => match dsLk (dsFT (dsCl m)) i with
    | some (c, k, _) => match st with
      | v :: .inr (.inr (.inl a)) :: r => if (dsT c k).2.2.2 = false ∨ (dsKd m = 2 ∧ dsCl m = c) then M a (-1) = (c : Int) ∧ dsPv (dsY c k) v (fun x => K (pc + 3) ls r u (dsSet M a k x)) else False
      | _ => False
    | none => False
  | .iaload => match st with
    | .inl i :: .inr (.inr (.inl a)) :: r => (M a (-1) = 100 ∧ 0 ≤ i ∧ i < M a (-2)) ∧ K (pc + 1) ls (vI (M a i) :: r) u M
    | .inl i :: .inr (.inr (.inr 1)) :: r => (0 ≤ i ∧ i < M (-2) (-2)) ∧ K (pc + 1) ls (vI (M (-2) i) :: r) u M
    | _ => False
  | .baload => match st with
    | .inl i :: .inr (.inr (.inl a)) :: r => ((M a (-1) = 101 ∨ M a (-1) = 102) ∧ 0 ≤ i ∧ i < M a (-2)) ∧ K (pc + 1) ls (vI (M a i) :: r) u M
    | _ => False
  | .laload => match st with
    | .inl i :: .inr (.inr (.inl a)) :: r => (M a (-1) = 103 ∧ 0 ≤ i ∧ i < M a (-2)) ∧ K (pc + 1) ls (vJ (M a i) :: r) u M
    | _ => False
  | .aaload => match st with
    | .inl i :: .inr (.inr (.inl a)) :: r => ((M a (-1) = 104 ∨ M a (-1) = 105) ∧ 0 ≤ i ∧ i < M a (-2)) ∧ K (pc + 1) ls (vR (M a i) :: r) u M
    | _ => False
  | .iastore => match st with
    | .inl x :: .inl i :: .inr (.inr (.inl a)) :: r => (M a (-1) = 100 ∧ 0 ≤ i ∧ i < M a (-2)) ∧ K (pc + 1) ls r u (dsSet M a i x)
    | _ => False
  | .bastore => match st with
    | .inl x :: .inl i :: .inr (.inr (.inl a)) :: r => ((M a (-1) = 101 ∧ -128 ≤ x ∧ x ≤ 127 ∨ M a (-1) = 102 ∧ (x = 0 ∨ x = 1)) ∧ 0 ≤ i ∧ i < M a (-2)) ∧ K (pc + 1) ls r u (dsSet M a i x)
    | _ => False
  | .lastore => match st with
    | .inr (.inl x) :: .inl i :: .inr (.inr (.inl a)) :: r => (M a (-1) = 103 ∧ 0 ≤ i ∧ i < M a (-2)) ∧ K (pc + 1) ls r u (dsSet M a i x)
    | _ => False
  | .aastore => match st with
    | .inr (.inr (.inl x)) :: .inl i :: .inr (.inr (.inl a)) :: r => ((M a (-1) = 104 ∧ M x (-1) = 7 ∨ M a (-1) = 105 ∧ M x (-1) = 5) ∧ 0 ≤ i ∧ i < M a (-2)) ∧ K (pc + 1) ls r u (dsSet M a i x)
    | _ => False
  | .arraylength => match st with
    | .inr (.inr (.inl a)) :: r => M a (-1) = 100 ∧ K (pc + 1) ls (vI (M a (-2)) :: r) u M
    | .inr (.inr (.inr 1)) :: r => K (pc + 1) ls (vI (M (-2) (-2)) :: r) u M
    | _ => False
  | .newarray t => match st with
    | .inl n :: r => if dsKn t = -7 then False else (0 ≤ n ∧ n ≤ 100000 ∧ u.1 + 1 ≤ dsMc m ∧ u.2 + n.toNat ≤ dsMs m) ∧ K (pc + 2) ls (vR (M (-1) 0) :: r) (u.1 + 1, u.2 + n.toNat) (dsNew M (dsKn t) n 0)
    | _ => False
  | .anewarray i => match dsLk (dsCT (dsCl m)) i with
    | some (c, _) => match st with
      | .inl n :: r => if c = 7 then (0 ≤ n ∧ n ≤ 100000 ∧ u.1 + 1 ≤ dsMc m ∧ u.2 + n.toNat ≤ dsMs m) ∧ K (pc + 3) ls (vR (M (-1) 0) :: r) (u.1 + 1, u.2 + n.toNat) (dsNew M 104 n (-1))
        else if c = 5 then (0 ≤ n ∧ n ≤ 100000 ∧ u.1 + 1 ≤ dsMc m ∧ u.2 + n.toNat ≤ dsMs m) ∧ K (pc + 3) ls (vR (M (-1) 0) :: r) (u.1 + 1, u.2 + n.toNat) (dsNew M 105 n (-1)) else False
      | _ => False
    | none => False
  | .new i => match dsLk (dsCT (dsCl m)) i with
    | some (c, _) => (u.1 + 1 ≤ dsMc m ∧ u.2 + dsN c ≤ dsMs m) ∧ K (pc + 3) ls (vR (M (-1) 0) :: st) (u.1 + 1, u.2 + dsN c) (dsNewO M c)
    | none => False
  | .ldc i => match dsLk (dsKC (dsCl m)) i with
    | some (v, _) => K (pc + 2) ls (vI v :: st) u M
    | none => match dsLk (dsKS (dsCl m)) i with
      | some (k, _) => K (pc + 2) ls (vX (k + 2) :: st) u M
      | none => False
  | .ldc_w i => match dsLk (dsKC (dsCl m)) i with
    | some (v, _) => K (pc + 3) ls (vI v :: st) u M
    | none => False
  | .ldc2_w i => match dsLk (dsKL (dsCl m)) i with
    | some (v, _) => K (pc + 3) ls (vJ v :: st) u M
    | none => False
  | .invokevirtual i => match dsLk (dsKT (dsCl m)) i with
    | some (0, t, _) => match dsPop (dsNa t + 1) st [] with
      | some (.inr (.inr (.inl a)) :: as, rest) => M a (-1) = (dsCl t : Int) ∧ dsCa m pc ls rest u M call K t (vR a :: as)
      | _ => False
    | some (14, _, _) => match st with
      | .inr (.inr (.inr (k + 2))) :: r => if 4 ≤ dsRk m ∧ dsCs r ≤ 8 then k < dsTX.length ∧ K (pc + 3) ls (vI (dsLen k) :: r) u M else False
      | _ => False
    | some (15, _, _) => match st with
      | .inl i :: .inr (.inr (.inr (k + 2))) :: r => if 5 ≤ dsRk m ∧ dsCs r ≤ 8 then (k < dsTX.length ∧ 0 ≤ i ∧ i < dsLen k) ∧ K (pc + 3) ls (vI (dsChr k i) :: r) u M else False
      | _ => False
    | _ => False
  | .invokestatic i => match dsLk (dsKT (dsCl m)) i with
    | some (1, t, _) => match dsPop (dsNa t) st [] with
      | some (as, rest) => dsCa m pc ls rest u M call K t as
      | none => False
    | some (3, t, _) => match dsPop (dsNa t) st [] with
      | some (as, rest) => dsCa m pc ls rest u M call K t as
      | none => False
    | some (10, _, _) => match st with
      | .inl y :: .inl x :: r => if 1 ≤ dsRk m ∧ dsCs r ≤ 8 then K (pc + 3) ls (vI (if x < y then y else x) :: r) u M else False
      | _ => False
    | some (11, _, _) => match st with
      | .inl y :: .inl x :: r => if 1 ≤ dsRk m ∧ dsCs r ≤ 8 then K (pc + 3) ls (vI (if y < x then y else x) :: r) u M else False
      | _ => False
    | some (12, _, _) => match st with
      | .inr (.inl x) :: r => if 1 ≤ dsRk m ∧ dsCs r ≤ 8 then K (pc + 3) ls (vJ (if 0 < x then x else dsw64 (-x)) :: r) u M else False
      | _ => False
    | some (13, _, _) => match st with
      | .inl n :: .inl dp :: .inr (.inr (.inl b)) :: .inl sp :: .inr (.inr (.inl a)) :: r =>
        if 1 ≤ dsRk m ∧ dsCs r ≤ 8 then ((M a (-1) = 100 ∧ M b (-1) = 100 ∨ M a (-1) = 103 ∧ M b (-1) = 103) ∧ 0 ≤ n ∧ 0 ≤ sp ∧ 0 ≤ dp ∧ sp + n ≤ M a (-2) ∧ dp + n ≤ M b (-2)) ∧ K (pc + 3) ls r u (dsCpy M a sp b dp n) else False
      | _ => False
    | _ => False
  | .invokespecial i => match dsLk (dsKT (dsCl m)) i with
    | some (2, t, _) => match dsPop (dsNa t + 1) st [] with
      | some (.inr (.inr (.inl a)) :: as, rest) => 0 ≤ a ∧ dsCa m pc ls rest u M call K t (vR a :: as)
      | _ => False
    | some (4, t, _) => match dsPop (dsNa t + 1) st [] with
      | some (.inr (.inr (.inl a)) :: as, rest) => 0 ≤ a ∧ dsCa m pc ls rest u M call K t (vR a :: as)
      | _ => False
    | some (16, _, _) => match st with
      | .inr (.inr (.inl a)) :: r => if 1 ≤ dsRk m ∧ dsCs r ≤ 8 then 0 ≤ a ∧ K (pc + 3) ls r u M else False
      | _ => False
    | _ => False
  | .ireturn => match st with
    | [.inl x] => match dsRt m with
      | some .int => Q [vI x] M
      | some .boolean => (x = 0 ∨ x = 1) ∧ Q [vI x] M
      | _ => False
    | _ => False
  | .lreturn => match st with
    | [.inr (.inl x)] => match dsRt m with
      | some .long => Q [vJ x] M
      | _ => False
    | _ => False
  | .areturn => match st with
    | [.inr (.inr (.inl x))] => match dsRt m with
      | some (.object _) => Q [vR x] M
      | _ => False
    | _ => False
  | .return_ => match st with
    | [] => match dsRt m with
      | none => Q [] M
      | _ => False
    | _ => False
  | _ => False
