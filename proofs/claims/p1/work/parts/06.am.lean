/-! THE ABSTRACT MACHINE: the same instructions over a heap of numbered cells: three functions (ints, longs, references) and a list of kinds. Numbers 0 .. 15: what was there ahead of the law (never written); from 16 on: what the law's run makes, in its order. -/
noncomputable abbrev Hp : Type := List (Nat × Nat) × (Nat → Nat → Int32) × (Nat → Nat → Int64) × (Nat → Nat → Option Nat)
noncomputable abbrev Lv : Type := List (Option Value)
noncomputable def up2 {α : Type} (f : Nat → Nat → α) (a j : Nat) (x : α) : Nat → Nat → α := fun b k => if b = a ∧ k = j then x else f b k
noncomputable def up1 {α : Type} (f : Nat → Nat → α) (a : Nat) (x : Nat → α) : Nat → Nat → α := fun b => if b = a then x else f b
noncomputable def hk (h : Hp) (a : Nat) : Nat × Nat := h.1.getD a (99, 0)
noncomputable def hsi (h : Hp) (a j : Nat) (x : Int32) : Hp := (h.1, up2 h.2.1 a j x, h.2.2.1, h.2.2.2)
noncomputable def hsl (h : Hp) (a j : Nat) (x : Int64) : Hp := (h.1, h.2.1, up2 h.2.2.1 a j x, h.2.2.2)
noncomputable def hsr (h : Hp) (a j : Nat) (x : Option Nat) : Hp := (h.1, h.2.1, h.2.2.1, up2 h.2.2.2 a j x)
/-- n places of the row b from s on come to row a from d on -/
noncomputable def hcp (h : Hp) (b s a d n : Nat) : Hp := (h.1, up1 h.2.1 a (fun k => if d ≤ k ∧ k < d + n then h.2.1 b (s + (k - d)) else h.2.1 a k), h.2.2.1, h.2.2.2)
noncomputable def hnew (h : Hp) (q : Nat × Nat) : Hp := (h.1 ++ [q], up1 h.2.1 h.1.length (fun _ => 0), up1 h.2.2.1 h.1.length (fun _ => 0), up1 h.2.2.2 h.1.length (fun _ => none))
noncomputable def slt (h : Hp) : Nat := (h.1.map (fun q => q.2)).sum
noncomputable def inb (i : Int32) (n : Nat) : Bool := decide (0 ≤ i.toInt) && decide (i.toInt < (n : Int))
noncomputable def by1 : List Int32 := [100, 114, 97, 119, 32, 50, 48, 32, 43, 32, 119, 101, 116, 32, 42, 32, 50, 32, 45, 32, 115, 116, 105, 102, 102, 32, 59, 32, 116, 101, 97, 114, 115, 32, 52, 48, 32, 60, 32, 112, 97, 99, 101, 32, 42, 32, 57, 32, 45, 32, 116, 104, 105, 99, 107, 32, 59, 32, 115, 116, 105, 99, 107, 115, 32, 102, 111, 108, 100, 115, 32, 42, 32, 50, 32, 45, 32, 100, 117, 115, 116, 32, 59, 32]
noncomputable def by2 : List Int32 := [100, 114, 97, 119, 32, 32, 116, 101, 97, 114, 115, 32, 115, 116, 105, 99, 107, 115, 111, 114, 32, 32, 32, 32, 97, 110, 100, 32, 32, 32, 110, 111, 116, 32, 32, 32, 119, 101, 116, 32, 32, 32, 116, 104, 105, 99, 107, 32, 115, 116, 105, 102, 102, 32, 112, 97, 99, 101, 32, 32, 102, 111, 108, 100, 115, 32, 100, 117, 115, 116, 32, 32]
noncomputable def by3 : List Int32 := [40, 41, 59, 43, 45, 42, 60, 61]
noncomputable def isA : List Int32 := [-1, 0, 1, 0, 0, 3]
noncomputable def roI (X : Nat → Int32) (a : Nat) (j : Nat) : Int32 := match a with
  | 0 => isA.getD j 0
  | 4 => by1.getD j 0
  | 5 => by2.getD j 0
  | 6 => by3.getD j 0
  | 14 => X j
  | _ => 0
noncomputable def roK (L : Nat) : List (Nat × Nat) := [(22, 6), (20, 2), (20, 2), (20, 2), (21, 84), (21, 72), (21, 8), (99, 0), (99, 0), (99, 0), (99, 0), (99, 0), (99, 0), (99, 0), (22, L), (23, 0)]
-- locals: a long's second place is 'none'
noncomputable def lclr (lv : Lv) (i : Nat) : Lv := match i with
  | 0 => lv
  | j + 1 => match lv.getD j none with
    | some v => if v.category = 2 then lv.set j none else lv
    | none => lv
noncomputable def lset1 (lv : Lv) (i : Nat) (v : Value) : Lv := (lclr lv i).set i (some v)
noncomputable def lset2 (lv : Lv) (i : Nat) (v : Value) : Lv := ((lclr lv i).set i (some v)).set (i + 1) none
noncomputable def lent : List Value → Lv
  | [] => []
  | v :: vs => some v :: (if v.category = 2 then none :: lent vs else lent vs)
noncomputable def lentry (n : Nat) (vs : List Value) : Option Lv := if (lent vs).length ≤ n then some (lent vs ++ List.replicate (n - (lent vs).length) none) else none
noncomputable def agetf (h : Hp) (a ci k : Nat) : Option Value :=
  if ci = 20 then (if hk h a = (20, 2) then (if k = 0 then some (.ref (a + 3)) else some (.int 0)) else none)
  else if hk h a = (ci, nFf ci) then (match fk (tyf ci k) with
    | 1 => some (.long (h.2.2.1 a k))
    | 2 => (match h.2.2.2 a k with
      | some r => some (.ref r)
      | none => some .null)
    | _ => some (.int (h.2.1 a k)))
  else none
noncomputable def aputf (h : Hp) (a ci k : Nat) (v : Value) : Option Hp :=
  if hk h a = (ci, nFf ci) then (match v with
    | .int x => if fk (tyf ci k) = 0 then some (hsi h a k x) else if fk (tyf ci k) = 3 ∧ (x = 0 ∨ x = 1) then some (hsi h a k x) else none
    | .long x => if fk (tyf ci k) = 1 then some (hsl h a k x) else none
    | .ref r => if fk (tyf ci k) = 2 ∧ 16 ≤ r then some (hsr h a k (some r)) else none
    | _ => none)
  else none
noncomputable def astat (a : Nat) : Value := match a with
  | 0 => .ref 0
  | 1 => .int 1
  | _ => .retAddr 0
noncomputable def okret (ret : Option FieldType) (v : Int32) : Bool := match ret with
  | some .int => true
  | some .boolean => decide (v = 0 ∨ v = 1)
  | some .char => decide (narrow .char (.int v) = .int v)
  | some .byte => decide (narrow .byte (.int v) = .int v)
  | _ => false
noncomputable def swt (dflt lo hi : Int) (offs : Array Int) (x : Int32) : Int := if x.toInt < lo ∨ hi < x.toInt then dflt else offs.getD (x.toInt - lo).toNat 0
noncomputable def cc_t (c : ClassFile.Cond) (x y : Int32) : Bool := match c with
  | .eq => decide (x = y)
  | .ne => decide (x ≠ y)
  | .lt => decide (x < y)
  | .ge => decide (y ≤ x)
  | .gt => decide (y < x)
  | .le => decide (x ≤ y)
noncomputable abbrev AR : Type := Option ((Nat × Lv × List Value × Hp) ⊕ ((Option Value) ⊕ (Nat × List Value × Nat × Lv × List Value)))
noncomputable def a_go (pc : Nat) (lv : Lv) (st : List Value) (h : Hp) : AR := some (.inl (pc, lv, st, h))
noncomputable def a_jmp (pc : Nat) (off : Int) (lv : Lv) (st : List Value) (h : Hp) : AR := if 0 ≤ (pc : Int) + off then some (.inl (((pc : Int) + off).toNat, lv, st, h)) else none
noncomputable def a_call (minf : List MI) (mk nx : Nat) (lv : Lv) (st : List Value) (h : Hp) (init : Bool) : AR := match minf[mk]? with
  | none => none
  | some M =>
    if st.length < M.2.2.2.2.2.2.2.1 then none else
    if M.2.2.2.2.2.2.1 = 0 then (if ((st.drop M.2.2.2.2.2.2.2.1).map (fun v => v.category)).sum ≤ 8 ∧ init = false then some (.inr (.inr (mk, (st.take M.2.2.2.2.2.2.2.1).reverse, nx, lv, st.drop M.2.2.2.2.2.2.2.1))) else none)
    else match st.drop M.2.2.2.2.2.2.2.1 with
      | .ref r :: rest => if (rest.map (fun v => v.category)).sum ≤ 8 ∧ hk h r = (M.2.1, nFf M.2.1) ∧ (init = decide (M.2.2.2.2.2.2.1 = 2)) then some (.inr (.inr (mk, .ref r :: (st.take M.2.2.2.2.2.2.2.1).reverse, nx, lv, rest))) else none
      | _ => none
noncomputable def a_math (a nx : Nat) (lv : Lv) (st : List Value) (h : Hp) : AR := match a with
  | 1002 => (match st with
    | .int x :: st => if (st.map (fun v => v.category)).sum ≤ 8 then a_go nx lv (.int (if 0 ≤ x then x else 0 - x) :: st) h else none
    | _ => none)
  | 1003 => (match st with
    | .int y :: .int x :: st => if (st.map (fun v => v.category)).sum ≤ 8 then a_go nx lv (.int (if x < y then y else x) :: st) h else none
    | _ => none)
  | 1004 => (match st with
    | .long y :: .long x :: st => if (st.map (fun v => v.category)).sum ≤ 8 then a_go nx lv (.long (if y < x then x else y) :: st) h else none
    | _ => none)
  | 1005 => (match st with
    | .int y :: .int x :: st => if (st.map (fun v => v.category)).sum ≤ 8 then a_go nx lv (.int (if y < x then y else x) :: st) h else none
    | _ => none)
  | _ => (match st with
    | .long y :: .long x :: st => if (st.map (fun v => v.category)).sum ≤ 8 then a_go nx lv (.long (if y < x then y else x) :: st) h else none
    | _ => none)
noncomputable def astep (minf : List MI) (X : Nat → Int32) (mi : Nat) (q : AI) (pc : Nat) (lv : Lv) (st : List Value) (h : Hp) : AR :=
  let nx := q.2.1
  let a := q.2.2.1
  let b := q.2.2.2.1
  let c := q.2.2.2.2.1
  match q.1 with
  | .aload_n k => (match lv.getD k.val none with
    | some (.ref r) => a_go nx lv (.ref r :: st) h
    | _ => none)
  | .aload k => (match lv.getD k none with
    | some (.ref r) => a_go nx lv (.ref r :: st) h
    | _ => none)
  | .iload_n k => (match lv.getD k.val none with
    | some (.int x) => a_go nx lv (.int x :: st) h
    | _ => none)
  | .iload k => (match lv.getD k none with
    | some (.int x) => a_go nx lv (.int x :: st) h
    | _ => none)
  | .lload_n k => (match lv.getD k.val none with
    | some (.long x) => a_go nx lv (.long x :: st) h
    | _ => none)
  | .lload k => (match lv.getD k none with
    | some (.long x) => a_go nx lv (.long x :: st) h
    | _ => none)
  | .astore_n k => (match st with
    | .ref r :: st => if k.val < lv.length then a_go nx (lset1 lv k.val (.ref r)) st h else none
    | _ => none)
  | .astore k => (match st with
    | .ref r :: st => if k < lv.length then a_go nx (lset1 lv k (.ref r)) st h else none
    | _ => none)
  | .istore_n k => (match st with
    | .int x :: st => if k.val < lv.length then a_go nx (lset1 lv k.val (.int x)) st h else none
    | _ => none)
  | .istore k => (match st with
    | .int x :: st => if k < lv.length then a_go nx (lset1 lv k (.int x)) st h else none
    | _ => none)
  | .lstore_n k => (match st with
    | .long x :: st => if k.val + 1 < lv.length then a_go nx (lset2 lv k.val (.long x)) st h else none
    | _ => none)
  | .lstore k => (match st with
    | .long x :: st => if k + 1 < lv.length then a_go nx (lset2 lv k (.long x)) st h else none
    | _ => none)
  | .iinc k n => (match lv.getD k none with
    | some (.int x) => if k < lv.length then a_go nx (lset1 lv k (.int (x + Int32.ofInt n))) st h else none
    | _ => none)
  | .iconst n => a_go nx lv (.int (Int32.ofInt n) :: st) h
  | .bipush n => a_go nx lv (.int (Int8.ofInt n).toInt32 :: st) h
  | .sipush n => a_go nx lv (.int (Int16.ofInt n).toInt32 :: st) h
  | .lconst n => a_go nx lv (.long (Int64.ofNat n.val) :: st) h
  | .ldc _ => if a = 0 then a_go nx lv (.int (Int32.ofInt c) :: st) h else a_go nx lv (.ref a :: st) h
  | .ldc_w _ => a_go nx lv (.int (Int32.ofInt c) :: st) h
  | .ldc2_w _ => a_go nx lv (.long (Int64.ofInt c) :: st) h
  | .iadd => (match st with
    | .int y :: .int x :: st => a_go nx lv (.int (x + y) :: st) h
    | _ => none)
  | .isub => (match st with
    | .int y :: .int x :: st => a_go nx lv (.int (x - y) :: st) h
    | _ => none)
  | .imul => (match st with
    | .int y :: .int x :: st => a_go nx lv (.int (x * y) :: st) h
    | _ => none)
  | .iand => (match st with
    | .int y :: .int x :: st => a_go nx lv (.int (x &&& y) :: st) h
    | _ => none)
  | .ior => (match st with
    | .int y :: .int x :: st => a_go nx lv (.int (x ||| y) :: st) h
    | _ => none)
  | .idiv => (match st with
    | .int y :: .int x :: st => if y = 0 then none else a_go nx lv (.int (x / y) :: st) h
    | _ => none)
  | .irem => (match st with
    | .int y :: .int x :: st => if y = 0 then none else a_go nx lv (.int (x - x / y * y) :: st) h
    | _ => none)
  | .ineg => (match st with
    | .int x :: st => a_go nx lv (.int (-x) :: st) h
    | _ => none)
  | .ishl => (match st with
    | .int y :: .int x :: st => a_go nx lv (.int (x <<< (y &&& 31)) :: st) h
    | _ => none)
  | .ishr => (match st with
    | .int y :: .int x :: st => a_go nx lv (.int (x >>> (y &&& 31)) :: st) h
    | _ => none)
  | .ladd => (match st with
    | .long y :: .long x :: st => a_go nx lv (.long (x + y) :: st) h
    | _ => none)
  | .lsub => (match st with
    | .long y :: .long x :: st => a_go nx lv (.long (x - y) :: st) h
    | _ => none)
  | .lmul => (match st with
    | .long y :: .long x :: st => a_go nx lv (.long (x * y) :: st) h
    | _ => none)
  | .land => (match st with
    | .long y :: .long x :: st => a_go nx lv (.long (x &&& y) :: st) h
    | _ => none)
  | .lor => (match st with
    | .long y :: .long x :: st => a_go nx lv (.long (x ||| y) :: st) h
    | _ => none)
  | .ldiv => (match st with
    | .long y :: .long x :: st => if y = 0 then none else a_go nx lv (.long (x / y) :: st) h
    | _ => none)
  | .lrem => (match st with
    | .long y :: .long x :: st => if y = 0 then none else a_go nx lv (.long (x - x / y * y) :: st) h
    | _ => none)
  | .lneg => (match st with
    | .long x :: st => a_go nx lv (.long (-x) :: st) h
    | _ => none)
  | .lshl => (match st with
    | .int y :: .long x :: st => a_go nx lv (.long (x <<< (y.toInt64 &&& 63)) :: st) h
    | _ => none)
  | .lshr => (match st with
    | .int y :: .long x :: st => a_go nx lv (.long (x >>> (y.toInt64 &&& 63)) :: st) h
    | _ => none)
  | .lushr => (match st with
    | .int y :: .long x :: st => a_go nx lv (.long (x.toUInt64 >>> (y.toInt64.toUInt64 &&& Int64.toUInt64 63)).toInt64 :: st) h
    | _ => none)
  | .lcmp => (match st with
    | .long y :: .long x :: st => a_go nx lv (.int (lg_cmp x y) :: st) h
    | _ => none)
  | .i2l => (match st with
    | .int x :: st => a_go nx lv (.long x.toInt64 :: st) h
    | _ => none)
  | .l2i => (match st with
    | .long x :: st => a_go nx lv (.int x.toInt32 :: st) h
    | _ => none)
  | .i2b => (match st with
    | .int x :: st => a_go nx lv (.int x.toInt8.toInt32 :: st) h
    | _ => none)
  | .i2s => (match st with
    | .int x :: st => a_go nx lv (.int x.toInt16.toInt32 :: st) h
    | _ => none)
  | .i2c => (match st with
    | .int x :: st => a_go nx lv (.int (x.toUInt32 % 65536).toInt32 :: st) h
    | _ => none)
  | .dup => (match st with
    | v :: st => if v.category = 1 then a_go nx lv (v :: v :: st) h else none
    | _ => none)
  | .dup2 => (match st with
    | v :: w :: st => if v.category = 1 ∧ w.category = 1 then a_go nx lv (v :: w :: v :: w :: st) h else none
    | _ => none)
  | .pop => (match st with
    | v :: st => if v.category = 1 then a_go nx lv st h else none
    | _ => none)
  | .pop2 => (match st with
    | v :: st => if v.category = 2 then a_go nx lv st h else none
    | _ => none)
  | .goto off => a_jmp pc off lv st h
  | .ifCond cd off => (match st with
    | .int x :: st => if cc_t cd x 0 then a_jmp pc off lv st h else a_go nx lv st h
    | _ => none)
  | .if_icmp cd off => (match st with
    | .int y :: .int x :: st => if cc_t cd x y then a_jmp pc off lv st h else a_go nx lv st h
    | _ => none)
  | .tableswitch dflt lo hi offs => (match st with
    | .int x :: st => a_jmp pc (swt dflt lo hi offs x) lv st h
    | _ => none)
  | .lookupswitch dflt ps => (match st with
    | .int x :: st => a_jmp pc (Op.lookupswitch.offset ps.toList dflt x.toInt) lv st h
    | _ => none)
  | .getfield _ => (match st with
    | .ref r :: st => (match agetf h r a b with
      | some v => a_go nx lv (v :: st) h
      | none => none)
    | _ => none)
  | .putfield _ => (match st with
    | v :: .ref r :: st => (match aputf h r a b v with
      | some h' => a_go nx lv st h'
      | none => none)
    | _ => none)
  | .getstatic _ => a_go nx lv (astat a :: st) h
  | .arraylength => (match st with
    | .ref r :: st => (match (hk h r).1 with
      | 9 => a_go nx lv (.int (Int32.ofNat (hk h r).2) :: st) h
      | 21 => a_go nx lv (.int (Int32.ofNat (hk h r).2) :: st) h
      | 22 => a_go nx lv (.int (Int32.ofNat (hk h r).2) :: st) h
      | _ => none)
    | _ => none)
  | .iaload => (match st with
    | .int i :: .ref r :: st => if inb i (hk h r).2 then (if (hk h r).1 = 9 then a_go nx lv (.int (h.2.1 r i.toNatClampNeg) :: st) h else if (hk h r).1 = 22 then a_go nx lv (.int (roI X r i.toNatClampNeg) :: st) h else none) else none
    | _ => none)
  | .baload => (match st with
    | .int i :: .ref r :: st => if inb i (hk h r).2 ∧ (hk h r).1 = 21 then a_go nx lv (.int (roI X r i.toNatClampNeg) :: st) h else none
    | _ => none)
  | .laload => (match st with
    | .int i :: .ref r :: st => if inb i (hk h r).2 ∧ (hk h r).1 = 10 then a_go nx lv (.long (h.2.2.1 r i.toNatClampNeg) :: st) h else none
    | _ => none)
  | .aaload => (match st with
    | .int i :: .ref r :: st => if inb i (hk h r).2 ∧ 11 ≤ (hk h r).1 ∧ (hk h r).1 ≤ 13 then (match h.2.2.2 r i.toNatClampNeg with
      | some x => a_go nx lv (.ref x :: st) h
      | none => a_go nx lv (.null :: st) h) else none
    | _ => none)
  | .iastore => (match st with
    | .int x :: .int i :: .ref r :: st => if inb i (hk h r).2 ∧ (hk h r).1 = 9 then a_go nx lv st (hsi h r i.toNatClampNeg x) else none
    | _ => none)
  | .lastore => (match st with
    | .long x :: .int i :: .ref r :: st => if inb i (hk h r).2 ∧ (hk h r).1 = 10 then a_go nx lv st (hsl h r i.toNatClampNeg x) else none
    | _ => none)
  | .aastore => (match st with
    | .ref x :: .int i :: .ref r :: st => if inb i (hk h r).2 ∧ (11 ≤ (hk h r).1 ∧ (hk h r).1 ≤ 13) ∧ hk h x = (comps (hk h r).1, nFf (comps (hk h r).1)) then a_go nx lv st (hsr h r i.toNatClampNeg (some x)) else none
    | _ => none)
  | .newarray _ => (match st with
    | .int n :: st => if 0 ≤ n.toInt ∧ n.toInt ≤ 100000 ∧ a < 14 then a_go nx lv (.ref h.1.length :: st) (hnew h (a, n.toNatClampNeg)) else none
    | _ => none)
  | .anewarray _ => (match st with
    | .int n :: st => if 0 ≤ n.toInt ∧ n.toInt ≤ 100000 ∧ a < 14 then a_go nx lv (.ref h.1.length :: st) (hnew h (a, n.toNatClampNeg)) else none
    | _ => none)
  | .new _ => if a < 14 then a_go nx lv (.ref h.1.length :: st) (hnew h (a, nFf a)) else none
  | .invokevirtual _ => a_call minf a nx lv st h false
  | .invokestatic _ => if a = 1001 then (match st with
      | .int n :: .int d :: .ref y :: .int s :: .ref x :: st => if 0 ≤ n.toInt ∧ 0 ≤ d.toInt ∧ 0 ≤ s.toInt ∧ s.toNatClampNeg + n.toNatClampNeg ≤ (hk h x).2 ∧ d.toNatClampNeg + n.toNatClampNeg ≤ (hk h y).2 ∧ (hk h x).1 = 9 ∧ (hk h y).1 = 9 ∧ (st.map (fun v => v.category)).sum ≤ 8 then a_go nx lv st (hcp h x s.toNatClampNeg y d.toNatClampNeg n.toNatClampNeg) else none
      | _ => none)
    else if 1002 ≤ a ∧ a ≤ 1006 then a_math a nx lv st h
    else a_call minf a nx lv st h false
  | .invokespecial _ => if a = 1000 then (match st with
      | .ref r :: st => if (st.map (fun v => v.category)).sum ≤ 8 then a_go nx lv st h else none
      | _ => none)
    else a_call minf a nx lv st h true
  | .ireturn => (match st with
    | [.int v] => (match minf[mi]? with
      | some M => if okret M.2.2.2.2.2.1 v then some (.inr (.inl (some (.int v)))) else none
      | none => none)
    | _ => none)
  | .lreturn => (match st with
    | [.long v] => (match minf[mi]? with
      | some M => if M.2.2.2.2.2.1 = some .long then some (.inr (.inl (some (.long v)))) else none
      | none => none)
    | _ => none)
  | .return_ => (match st with
    | [] => (match minf[mi]? with
      | some M => if M.2.2.2.2.2.1 = none then some (.inr (.inl none)) else none
      | none => none)
    | _ => none)
  | _ => none
noncomputable def aent (mk : Nat) (vs : List Value) : Option Lv := match minf[mk]? with
  | some M => lentry M.2.2.2.2.1 vs
  | none => none
/-- n steps at most; calls d deep at most -/
noncomputable def arun (X : Nat → Int32) : Nat → Nat → Nat → Nat → Lv → List Value → Hp → Option (Option Value × Hp)
  | 0, _, _, _, _, _, _ => none
  | n + 1, d, mi, pc, lv, st, h => match fetch mi pc with
    | none => none
    | some q => match astep minf X mi q pc lv st h with
      | none => none
      | some (.inl (pc', lv', st', h')) => arun X n d mi pc' lv' st' h'
      | some (.inr (.inl rv)) => some (rv, h)
      | some (.inr (.inr (cal, vs, nx, lv', rest))) => match d with
        | 0 => none
        | d' + 1 => match aent cal vs with
          | none => none
          | some lv0 => match arun X n d' cal 0 lv0 [] h with
            | none => none
            | some (rv, h') => arun X n (d' + 1) mi nx lv' (rv.toList ++ rest) h'
