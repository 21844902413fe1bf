/-! A SMALL MACHINE over abstract objects: what a method's instructions do, said as a function. An object is a triple of numbers (kind, instance, member); a state is: whole numbers by object and place (I), other values that change (M), references that are laid once (R), and the record of what was made (G). -/
abbrev OId : Type := Nat × Nat × Nat
abbrev AV : Type := Value ⊕ OId
abbrev aI (x : Int32) : AV := .inl (.int x)
abbrev aL (x : Int64) : AV := .inl (.long x)
abbrev aF (x : UInt32) : AV := .inl (.float x)
abbrev aD (x : UInt64) : AV := .inl (.double x)
abbrev aN : AV := .inl .null
abbrev aR (o : OId) : AV := .inr o
/-- what was made: the objects, the next number, names still to be given, cells, slots, the script -/
abbrev SG : Type := List OId × Nat × List OId × Nat × Nat × (Nat → Int32)
abbrev SS : Type := (OId → Nat → Int32) × (OId → Nat → AV) × (OId → Nat → AV) × SG
abbrev Out : Type := (Option AV ⊕ String) × SS
abbrev Cfg : Type := Nat × List (Option AV) × List (Nat × AV) × List AV × SS
/-- an instruction, its length, four numbers and a constant that say what its index means -/
abbrev IE : Type := Instr × Nat × (Nat × Nat × Nat × Nat) × Int
abbrev kSt : FieldType := .object "FrequencyOffice$Station"
abbrev kBk : FieldType := .object "FrequencyOffice$Books"
/-- an object's kind: a class by its place in vwCl, or an array of so many elements -/
def kOf (o : OId) : Nat ⊕ (FieldType × Nat) := match o.1 with
  | 20 => .inr (kSt, 7)
  | 21 => .inr (.int, 49)
  | 22 => .inr (.int, 2)
  | 23 => .inr (.int, 2)
  | 24 => .inr (.int, 2)
  | 25 => .inr (kBk, 6)
  | 26 => .inr (.int, 7)
  | 27 => .inr (.int, 7)
  | 28 => .inr (.int, 7)
  | 29 => .inr (.int, 49)
  | 30 => .inr (.int, 7)
  | 31 => .inr (.boolean, 7)
  | 32 => .inr (.int, 2451)
  | 33 => .inr (.int, 7)
  | 34 => .inr (.long, 49)
  | 35 => .inr (.int, 106)
  | 36 => .inr (.int, 106)
  | 37 => .inr (.int, 636)
  | 38 => .inr (.int, 106)
  | 39 => .inr (.int, 2)
  | 40 => .inr (.int, 2)
  | 41 => .inr (.int, 7)
  | 42 => .inr (.long, 1)
  | 43 => .inr (.double, 1)
  | 44 => .inr (.int, o.2.1)
  | 45 => .inr (.byte, 100)
  | 46 => .inr (.byte, 100)
  | 47 => .inr (.byte, 2)
  | 48 => .inl 99
  | 60 => .inr (.byte, o.2.2)
  | n => .inl n
/-- how a class's fields are held: 0 a whole number, 1 a reference laid once, 2 another value that changes, 3 a boolean, 4 a byte -/
def skT : List (List Nat) := [[2, 4, 0, 3], [2, 4, 3, 0], [], [], [0, 0, 0, 0, 0, 0, 0, 0, 1, 1, 1, 1], [1, 0, 0], [0, 1, 1, 1, 1], [0, 0, 1, 1, 1], [1, 1, 1, 1, 1, 0, 0], [1, 1, 1], [0, 0, 0, 0, 0, 3], [1, 1, 1, 3, 1, 1, 1], [1, 1, 1, 1, 1, 1, 1, 0, 0, 0, 0, 0, 0, 0, 0, 3, 2]]
def sk (c k : Nat) : Nat := (skT.getD c []).getD k 9
def nfl (c : Nat) : Nat := (skT.getD c []).length
/-- what may not be written: the script, the JDK's tables, the String constants -/
def isRo (o : OId) : Bool := match o.1 with
  | 0 => o.2.2 == 1
  | 44 => true
  | 45 => true
  | 46 => true
  | 47 => true
  | 48 => true
  | _ => false
def bb (x : Int32) : Int32 := if x = 0 then 0 else 1
def by8 (x : Int32) : Int32 := x.toInt8.toInt32
def roB (o : OId) (k : Nat) : Int32 := match o.1 with
  | 45 => Int32.ofNat (48 + k / 10)
  | 46 => Int32.ofNat (48 + k % 10)
  | _ => match o.2.1 with
    | 0 => if k = 0 then 32 else 99
    | 1 => if k = 0 then 32 else 84
    | _ => if k = 0 then 32 else 76
def setI (I : OId → Nat → Int32) (o : OId) (k : Nat) (v : Int32) : OId → Nat → Int32 := fun o' k' => if o' = o ∧ k' = k then v else I o' k'
def setV (I : OId → Nat → AV) (o : OId) (k : Nat) (v : AV) : OId → Nat → AV := fun o' k' => if o' = o ∧ k' = k then v else I o' k'
def setRow (I : OId → Nat → Int32) (o : OId) (f : Nat → Int32) : OId → Nat → Int32 := fun o' k' => if o' = o then f k' else I o' k'
def setRowV (I : OId → Nat → AV) (o : OId) (f : Nat → AV) : OId → Nat → AV := fun o' k' => if o' = o then f k' else I o' k'
/-- a field of an object of class c -/
def fget (S : SS) (c k : Nat) (o : OId) : AV := match c with
  | 0 => if o.2.2 = 1 then (match k with | 0 => aR (47, o.2.1, 0) | _ => aI 0) else (match sk c k with | 0 => aI (S.1 o k) | 1 => S.2.2.1 o k | 2 => S.2.1 o k | 3 => aI (bb (S.1 o k)) | _ => aI (by8 (S.1 o k)))
  | c => (match sk c k with | 0 => aI (S.1 o k) | 1 => S.2.2.1 o k | 2 => S.2.1 o k | 3 => aI (bb (S.1 o k)) | _ => aI (by8 (S.1 o k)))
/-- an element of an array of whole numbers, of bytes, of booleans -/
def agI (S : SS) (o : OId) (k : Nat) : Int32 := match o.1 with
  | 44 => S.2.2.2.2.2.2.2.2 k
  | _ => S.1 o k
def agB (S : SS) (o : OId) (k : Nat) : Int32 := match o.1 with
  | 45 => roB o k
  | 46 => roB o k
  | 47 => roB o k
  | _ => by8 (S.1 o k)
def toL (v : AV) : Int64 := match v with
  | .inl (.long x) => x
  | _ => 0
def toD (v : AV) : UInt64 := match v with
  | .inl (.double x) => x
  | _ => 0
def inB (i : Int32) (n : Nat) : Bool := decide (¬ i < 0) && decide (i.toNatClampNeg < n)
def nx (pc : Nat) (L : List (Option AV)) (L2 : List (Nat × AV)) (St : List AV) (S : SS) : Option (Cfg ⊕ Out) := some (.inl (pc, L, L2, St, S))
def done (v : Option AV) (S : SS) : Option (Cfg ⊕ Out) := some (.inr (.inl v, S))
def bump (S : SS) (a b : Nat) : SS := (S.1, S.2.1, S.2.2.1, S.2.2.2.1, S.2.2.2.2.1, S.2.2.2.2.2.1, S.2.2.2.2.2.2.1 + a, S.2.2.2.2.2.2.2.1 + b, S.2.2.2.2.2.2.2.2)
def tg (pc : Nat) (off : Int) : Option Nat := if (pc : Int) + off < 0 then none else some ((pc : Int) + off).toNat
def cnd (c : Jvm.ClassFile.Cond) (x y : Int32) : Bool := match c with
  | .eq => decide (x = y)
  | .ne => decide (¬ x = y)
  | .lt => decide (x < y)
  | .ge => decide (y ≤ x)
  | .gt => decide (y < x)
  | .le => decide (x ≤ y)
def ldI (L : List (Option AV)) (k : Nat) : Option Int32 := match L[k]? with
  | some (some (.inl (.int x))) => some x
  | _ => none
def ldF (L : List (Option AV)) (k : Nat) : Option UInt32 := match L[k]? with
  | some (some (.inl (.float x))) => some x
  | _ => none
def ldA (L : List (Option AV)) (k : Nat) : Option AV := match L[k]? with
  | some (some (.inr o)) => some (.inr o)
  | some (some (.inl .null)) => some (.inl .null)
  | _ => none
def ldL (L2 : List (Nat × AV)) (k : Nat) : Option Int64 := match L2.lookup k with
  | some (.inl (.long x)) => some x
  | _ => none
def kil (L2 : List (Nat × AV)) (k : Nat) : List (Nat × AV) := L2.filter fun q => !(q.1 == k) && !(q.1 + 1 == k)
def kil2 (L2 : List (Nat × AV)) (k : Nat) : List (Nat × AV) := L2.filter fun q => !(q.1 == k) && !(q.1 == k + 1) && !(q.1 + 1 == k)
def st1 (pc : Nat) (L : List (Option AV)) (L2 : List (Nat × AV)) (k : Nat) (v : AV) (St : List AV) (S : SS) : Option (Cfg ⊕ Out) := if k < L.length then nx pc (L.set k (some v)) (kil L2 k) St S else none
def st2 (pc : Nat) (L : List (Option AV)) (L2 : List (Nat × AV)) (k : Nat) (v : AV) (St : List AV) (S : SS) : Option (Cfg ⊕ Out) := if k + 1 < L.length then nx pc ((L.set k none).set (k + 1) none) ((k, v) :: kil2 L2 k) St S else none
def isA (v : AV) : Bool := match v with
  | .inr _ => true
  | .inl .null => true
  | _ => false
def cat2 (v : AV) : Bool := match v with
  | .inl (.long _) => true
  | .inl (.double _) => true
  | _ => false
def dfV (o : OId) : AV := match kOf o with
  | .inr (.long, _) => aL 0
  | .inr (.double, _) => aD 0
  | _ => aN
/-- o is made, of n slots -/
def mk (S : SS) (o : OId) (nx9 : Nat) (ns : List OId) (n : Nat) : SS :=
  (setRow S.1 o (fun _ => 0), setRowV S.2.1 o (fun _ => dfV o), setRowV S.2.2.1 o (fun _ => aN), S.2.2.2.1 ++ [o], nx9, ns, S.2.2.2.2.2.2.1 + 1, S.2.2.2.2.2.2.2.1 + n, S.2.2.2.2.2.2.2.2)
/-- may the name o be given to a new object of this kind? -/
def nmOk (S : SS) (o : OId) (k : Nat ⊕ (FieldType × Nat)) : Bool := decide (kOf o = k) && !(isRo o) && decide (¬ (o.1 < 2 ∧ o.2.2 = 2)) && decide (o.1 ≠ 60) && decide (o ∉ S.2.2.2.1)
def mkC (S : SS) (c : Nat) : Option (OId × SS) := match S.2.2.2.2.2.1 with
  | o :: ns => if nmOk S o (.inl c) = true then some (o, mk S o S.2.2.2.2.1 ns (nfl c)) else none
  | [] => if c < 2 then some ((c, S.2.2.2.2.1, 2), mk S (c, S.2.2.2.2.1, 2) (S.2.2.2.2.1 + 1) [] (nfl c)) else none
/-- the array that is made when no name is left: the law's own two -/
def dfO (ty : FieldType) : OId := if ty = .long then (42, 0, 0) else (43, 0, 0)
def mkA (S : SS) (ty : FieldType) (n : Nat) : Option (OId × SS) := if ty = .byte then some ((60, S.2.2.2.2.1, n), mk S (60, S.2.2.2.2.1, n) (S.2.2.2.2.1 + 1) S.2.2.2.2.2.1 n) else match S.2.2.2.2.2.1 with
  | o :: ns => if nmOk S o (.inr (ty, n)) = true then some (o, mk S o S.2.2.2.2.1 ns n) else none
  | [] => if nmOk S (dfO ty) (.inr (ty, n)) = true then some (dfO ty, mk S (dfO ty) S.2.2.2.2.1 [] n) else none
def arT (t : ArrayType) : FieldType := newarray.typeOf t
def exN (e : Nat) : String := match e with
  | 0 => "java/lang/IllegalArgumentException"
  | 1 => "java/lang/IllegalStateException"
  | 2 => "java/lang/UnsupportedOperationException"
  | 3 => "java/util/NoSuchElementException"
  | 4 => "java/lang/IndexOutOfBoundsException"
  | _ => "java/lang/ArithmeticException"
/-- handlers of a method: from, to, where it goes on behind the store, the local, the class -/
abbrev HE : Type := Nat × Nat × Nat × Nat × Nat
def hnd (hs : List HE) (pc : Nat) (E : String) : Option (Nat × Nat) := match hs with
  | [] => none
  | (a, b, h, k, x) :: r => if a ≤ pc ∧ pc < b ∧ exN x = E then some (h, k) else hnd r pc E
def retOk (r : Option FieldType) (x : Int32) : Bool := match r with
  | some .int => true
  | some .boolean => decide (x = 0 ∨ x = 1)
  | some .byte => decide (by8 x = x)
  | some .char => decide ((x.toUInt32 % 65536).toInt32 = x)
  | _ => false
/-- System.arraycopy of whole numbers or of bytes -/
def acp (S : SS) (s : OId) (sp : Int32) (d : OId) (dp n : Int32) : Option SS := match kOf s, kOf d with
  | .inr (.int, a), .inr (.int, b) => if isRo s = false ∧ isRo d = false ∧ s ≠ d ∧ ¬ sp < 0 ∧ ¬ dp < 0 ∧ ¬ n < 0 ∧ sp.toNatClampNeg + n.toNatClampNeg ≤ a ∧ dp.toNatClampNeg + n.toNatClampNeg ≤ b then some (setRow S.1 d (va_cpy (S.1 s) (S.1 d) sp.toNatClampNeg dp.toNatClampNeg n.toNatClampNeg), S.2) else none
  | .inr (.byte, a), .inr (.byte, b) => if isRo d = false ∧ s ≠ d ∧ ¬ sp < 0 ∧ ¬ dp < 0 ∧ ¬ n < 0 ∧ sp.toNatClampNeg + n.toNatClampNeg ≤ a ∧ dp.toNatClampNeg + n.toNatClampNeg ≤ b then some (setRow S.1 d (va_cpy (agB S s) (S.1 d) sp.toNatClampNeg dp.toNatClampNeg n.toNatClampNeg), S.2) else none
  | _, _ => none
/-- behind a call -/
def aft (hs : List HE) (pc : Nat) (L : List (Option AV)) (L2 : List (Nat × AV)) (rest : List AV) (r : Option Out) : Option (Cfg ⊕ Out) := match r with
  | none => none
  | some (.inl v, S) => nx (pc + 3) L L2 (v.toList ++ rest) S
  | some (.inr E, S) => match hnd hs pc E with
    | some (h, k) => if k < L.length then nx h (L.set k none) (kil L2 k) [] S else none
    | none => if hs = [] then some (.inr (.inr E, S)) else none
def rcv (r : Nat) (v : AV) : Bool := match v with
  | .inr o => decide (kOf o = .inl r)
  | _ => false
/-- a call: the callee, how many arguments (the receiver counts), of which kind, the receiver's class. Kinds: 0 static, 1 static of a nest mate, 2 virtual, 3 virtual of a nest mate, 4 inherited, 5 <init>, 6 <init> of a nest mate, 7 super, 8 overridden; 20 Object.<init>, 21 arraycopy, 22 clone of bytes -/
def inv (c : Nat → List AV → SS → Option Out) (hs : List HE) (pc : Nat) (q : Nat × Nat × Nat × Nat) (L : List (Option AV)) (L2 : List (Nat × AV)) (St : List AV) (S : SS) : Option (Cfg ⊕ Out) := match q.2.2.1 with
  | 0 => if q.1 < 311 ∧ q.2.1 ≤ St.length ∧ St.length ≤ q.2.1 + 4 then aft hs pc L L2 (St.drop q.2.1) (c q.1 (St.take q.2.1).reverse S) else none
  | 1 => if q.1 < 311 ∧ q.2.1 ≤ St.length ∧ St.length ≤ q.2.1 + 4 then aft hs pc L L2 (St.drop q.2.1) (c q.1 (St.take q.2.1).reverse S) else none
  | 20 => match St with
    | [.inr o] => if o.1 = 48 then none else nx (pc + 3) L L2 [] S
    | _ => none
  | 21 => match St with
    | .inl (.int n) :: .inl (.int dp) :: .inr d :: .inl (.int sp) :: .inr s :: r => if r.length ≤ 4 then (match acp S s sp d dp n with | some S' => nx (pc + 3) L L2 r S' | none => none) else none
    | _ => none
  | 22 => match St with
    | .inr o :: r => (match kOf o, mkA S .byte ((match kOf o with | .inr q9 => q9.2 | .inl _ => 0)) with | .inr (.byte, _), some (o', S') => if isRo o = false ∧ r.length ≤ 4 ∧ S.2.2.2.2.2.1 = [] then nx (pc + 3) L L2 (aR o' :: r) (setRow S'.1 o' (S.1 o), S'.2) else none | _, _ => none)
    | _ => none
  | 23 => match St with
    | .inl (.int y) :: .inl (.int x) :: r => if r.length ≤ 4 then nx (pc + 3) L L2 (aI (if x < y then y else x) :: r) S else none
    | _ => none
  | 24 => match St with
    | .inl (.int y) :: .inl (.int x) :: r => if r.length ≤ 4 then nx (pc + 3) L L2 (aI (if y < x then y else x) :: r) S else none
    | _ => none
  | 25 => match St with
    | .inl (.int x) :: r => if r.length ≤ 4 then nx (pc + 3) L L2 (aI (if 0 ≤ x then x else 0 - x) :: r) S else none
    | _ => none
  | _ => if q.1 < 311 ∧ q.2.2.1 < 9 ∧ q.2.1 + 1 ≤ St.length ∧ St.length ≤ q.2.1 + 5 ∧ rcv q.2.2.2 (St.getD q.2.1 aN) = true then aft hs pc L L2 (St.drop (q.2.1 + 1)) (c q.1 (St.take (q.2.1 + 1)).reverse S) else none
/-- one instruction -/
def stepI (c : Nat → List AV → SS → Option Out) (hs : List HE) (rt : Option FieldType) (pc : Nat) (q : Option IE) (L : List (Option AV)) (L2 : List (Nat × AV)) (St : List AV) (S : SS) : Option (Cfg ⊕ Out) := match q with
  | none => none
  | some (i, _, r, z) => match i with
    | .iconst v => nx (pc + 1) L L2 (aI (Int32.ofInt v) :: St) S
    | .bipush v => nx (pc + 2) L L2 (aI (Int8.ofInt v).toInt32 :: St) S
    | .sipush v => nx (pc + 3) L L2 (aI (Int16.ofInt v).toInt32 :: St) S
    | .lconst v => nx (pc + 1) L L2 (aL (Int64.ofNat v) :: St) S
    | .fconst v => if v = 0 then nx (pc + 1) L L2 (aF 0 :: St) S else none
    | .aconst_null => nx (pc + 1) L L2 (aN :: St) S
    | .ldc _ => match r.1 with
      | 0 => nx (pc + 2) L L2 (aI (Int32.ofInt z) :: St) S
      | 1 => nx (pc + 2) L L2 (aR (0, r.2.1, 1) :: St) S
      | _ => none
    | .ldc_w _ => match r.1 with
      | 1 => nx (pc + 3) L L2 (aR (0, r.2.1, 1) :: St) S
      | _ => none
    | .ldc2_w _ => nx (pc + 3) L L2 (aL (Int64.ofInt z) :: St) S
    | .iload_n k => match ldI L k with
      | some x => nx (pc + 1) L L2 (aI x :: St) S
      | none => none
    | .iload k => match ldI L k with
      | some x => nx (pc + 2) L L2 (aI x :: St) S
      | none => none
    | .fload k => match ldF L k with
      | some x => nx (pc + 2) L L2 (aF x :: St) S
      | none => none
    | .aload_n k => match ldA L k with
      | some x => nx (pc + 1) L L2 (x :: St) S
      | none => none
    | .aload k => match ldA L k with
      | some x => nx (pc + 2) L L2 (x :: St) S
      | none => none
    | .lload_n k => match ldL L2 k with
      | some x => nx (pc + 1) L L2 (aL x :: St) S
      | none => none
    | .lload k => match ldL L2 k with
      | some x => nx (pc + 2) L L2 (aL x :: St) S
      | none => none
    | .istore_n k => match St with
      | .inl (.int x) :: r => st1 (pc + 1) L L2 k (aI x) r S
      | _ => none
    | .istore k => match St with
      | .inl (.int x) :: r => st1 (pc + 2) L L2 k (aI x) r S
      | _ => none
    | .fstore k => match St with
      | .inl (.float x) :: r => st1 (pc + 2) L L2 k (aF x) r S
      | _ => none
    | .astore_n k => match St with
      | v :: r => if isA v = true then st1 (pc + 1) L L2 k v r S else none
      | _ => none
    | .astore k => match St with
      | v :: r => if isA v = true then st1 (pc + 2) L L2 k v r S else none
      | _ => none
    | .lstore_n k => match St with
      | .inl (.long x) :: r => st2 (pc + 1) L L2 k (aL x) r S
      | _ => none
    | .lstore k => match St with
      | .inl (.long x) :: r => st2 (pc + 2) L L2 k (aL x) r S
      | _ => none
    | .iinc k v => match ldI L k with
      | some x => st1 (pc + 3) L L2 k (aI (x + Int32.ofInt v)) St S
      | none => none
    | .iadd => match St with
      | .inl (.int y) :: .inl (.int x) :: r => nx (pc + 1) L L2 (aI (x + y) :: r) S
      | _ => none
    | .isub => match St with
      | .inl (.int y) :: .inl (.int x) :: r => nx (pc + 1) L L2 (aI (x - y) :: r) S
      | _ => none
    | .imul => match St with
      | .inl (.int y) :: .inl (.int x) :: r => nx (pc + 1) L L2 (aI (x * y) :: r) S
      | _ => none
    | .iand => match St with
      | .inl (.int y) :: .inl (.int x) :: r => nx (pc + 1) L L2 (aI (x &&& y) :: r) S
      | _ => none
    | .ior => match St with
      | .inl (.int y) :: .inl (.int x) :: r => nx (pc + 1) L L2 (aI (x ||| y) :: r) S
      | _ => none
    | .ixor => match St with
      | .inl (.int y) :: .inl (.int x) :: r => nx (pc + 1) L L2 (aI (x ^^^ y) :: r) S
      | _ => none
    | .ishl => match St with
      | .inl (.int y) :: .inl (.int x) :: r => nx (pc + 1) L L2 (aI (x <<< (y &&& 31)) :: r) S
      | _ => none
    | .ishr => match St with
      | .inl (.int y) :: .inl (.int x) :: r => nx (pc + 1) L L2 (aI (x >>> (y &&& 31)) :: r) S
      | _ => none
    | .idiv => match St with
      | .inl (.int y) :: .inl (.int x) :: r => if y = 0 then none else nx (pc + 1) L L2 (aI (x / y) :: r) S
      | _ => none
    | .irem => match St with
      | .inl (.int y) :: .inl (.int x) :: r => if y = 0 then none else nx (pc + 1) L L2 (aI (x - x / y * y) :: r) S
      | _ => none
    | .ineg => match St with
      | .inl (.int x) :: r => nx (pc + 1) L L2 (aI (-x) :: r) S
      | _ => none
    | .i2l => match St with
      | .inl (.int x) :: r => nx (pc + 1) L L2 (aL x.toInt64 :: r) S
      | _ => none
    | .i2b => match St with
      | .inl (.int x) :: r => nx (pc + 1) L L2 (aI (by8 x) :: r) S
      | _ => none
    | .i2c => match St with
      | .inl (.int x) :: r => nx (pc + 1) L L2 (aI (x.toUInt32 % 65536).toInt32 :: r) S
      | _ => none
    | .i2f => match St with
      | .inl (.int x) :: r => nx (pc + 1) L L2 (aF (FP.i2f x) :: r) S
      | _ => none
    | .l2i => match St with
      | .inl (.long x) :: r => nx (pc + 1) L L2 (aI x.toInt32 :: r) S
      | _ => none
    | .ladd => match St with
      | .inl (.long y) :: .inl (.long x) :: r => nx (pc + 1) L L2 (aL (x + y) :: r) S
      | _ => none
    | .lsub => match St with
      | .inl (.long y) :: .inl (.long x) :: r => nx (pc + 1) L L2 (aL (x - y) :: r) S
      | _ => none
    | .land => match St with
      | .inl (.long y) :: .inl (.long x) :: r => nx (pc + 1) L L2 (aL (x &&& y) :: r) S
      | _ => none
    | .lor => match St with
      | .inl (.long y) :: .inl (.long x) :: r => nx (pc + 1) L L2 (aL (x ||| y) :: r) S
      | _ => none
    | .lxor => match St with
      | .inl (.long y) :: .inl (.long x) :: r => nx (pc + 1) L L2 (aL (x ^^^ y) :: r) S
      | _ => none
    | .lshl => match St with
      | .inl (.int y) :: .inl (.long x) :: r => nx (pc + 1) L L2 (aL (x <<< (y.toInt64 &&& 63)) :: r) S
      | _ => none
    | .lshr => match St with
      | .inl (.int y) :: .inl (.long x) :: r => nx (pc + 1) L L2 (aL (x >>> (y.toInt64 &&& 63)) :: r) S
      | _ => none
    | .lushr => match St with
      | .inl (.int y) :: .inl (.long x) :: r => nx (pc + 1) L L2 (aL (x.toUInt64 >>> (y.toInt64.toUInt64 &&& Int64.toUInt64 63)).toInt64 :: r) S
      | _ => none
    | .lcmp => match St with
      | .inl (.long y) :: .inl (.long x) :: r => nx (pc + 1) L L2 (aI (if x < y then -1 else if x = y then 0 else 1) :: r) S
      | _ => none
    | .fdiv => match St with
      | .inl (.float y) :: .inl (.float x) :: r => if FP.fdiv x y &&& 0x7fffffff ≤ 0x7f800000 then nx (pc + 1) L L2 (aF (FP.fdiv x y) :: r) S else none
      | _ => none
    | .f2d => match St with
      | .inl (.float x) :: r => if FP.f2d x &&& 0x7fffffffffffffff ≤ 0x7ff0000000000000 then nx (pc + 1) L L2 (aD (FP.f2d x) :: r) S else none
      | _ => none
    | .dcmp op => match St with
      | .inl (.double y) :: .inl (.double x) :: r => nx (pc + 1) L L2 (aI (Op.cmpValue (FP.dcmp x y) op) :: r) S
      | _ => none
    | .fcmp op => match St with
      | .inl (.float y) :: .inl (.float x) :: r => nx (pc + 1) L L2 (aI (Op.cmpValue (FP.fcmp x y) op) :: r) S
      | _ => none
    | .dup => match St with
      | v :: r => if cat2 v = false then nx (pc + 1) L L2 (v :: v :: r) S else none
      | _ => none
    | .pop => match St with
      | v :: r => if cat2 v = false then nx (pc + 1) L L2 r S else none
      | _ => none
    | .dup_x1 => match St with
      | v :: w :: r => if cat2 v = false ∧ cat2 w = false then nx (pc + 1) L L2 (v :: w :: v :: r) S else none
      | _ => none
    | .dup2 => match St with
      | v :: w :: r => if cat2 v = false ∧ cat2 w = false then nx (pc + 1) L L2 (v :: w :: v :: w :: r) S else none
      | _ => none
    | .ifCond k off => match St with
      | .inl (.int x) :: r => match tg pc off with
        | some t => nx (if cnd k x 0 = true then t else pc + 3) L L2 r S
        | none => none
      | _ => none
    | .if_icmp k off => match St with
      | .inl (.int y) :: .inl (.int x) :: r => match tg pc off with
        | some t => nx (if cnd k x y = true then t else pc + 3) L L2 r S
        | none => none
      | _ => none
    | .ifnull off => match St with
      | .inr o :: r => if o.1 = 48 then none else nx (pc + 3) L L2 r S
      | .inl .null :: r => match tg pc off with
        | some t => nx t L L2 r S
        | none => none
      | _ => none
    | .ifnonnull off => match St with
      | .inr o :: r => match tg pc off with
        | some t => if o.1 = 48 then none else nx t L L2 r S
        | none => none
      | .inl .null :: r => nx (pc + 3) L L2 r S
      | _ => none
    | .goto off => match tg pc off with
      | some t => nx t L L2 St S
      | none => none
    | .tableswitch dflt lo hi offs => match St with
      | .inl (.int x) :: r => if x.toInt < lo ∨ hi < x.toInt then (match tg pc dflt with | some t => nx t L L2 r S | none => none) else (match offs[(x.toInt - lo).toNat]? with | some off => (match tg pc off with | some t => nx t L L2 r S | none => none) | none => none)
      | _ => none
    | .getfield _ => match St with
      | .inr o :: t => if kOf o = .inl r.1 ∧ r.2.1 < nfl r.1 then nx (pc + 3) L L2 (fget S r.1 r.2.1 o :: t) S else none
      | _ => none
    | .putfield _ => match St with
      | v :: .inr o :: t => if kOf o = .inl r.1 ∧ isRo o = false ∧ r.2.1 < nfl r.1 then (match sk r.1 r.2.1, v with
          | 0, .inl (.int x) => nx (pc + 3) L L2 t (setI S.1 o r.2.1 x, S.2)
          | 3, .inl (.int x) => if x = 0 ∨ x = 1 then nx (pc + 3) L L2 t (setI S.1 o r.2.1 x, S.2) else none
          | 4, .inl (.int x) => if by8 x = x then nx (pc + 3) L L2 t (setI S.1 o r.2.1 x, S.2) else none
          | 1, .inr o' => nx (pc + 3) L L2 t (S.1, S.2.1, setV S.2.2.1 o r.2.1 (.inr o'), S.2.2.2)
          | 2, .inr o' => nx (pc + 3) L L2 t (S.1, setV S.2.1 o r.2.1 (.inr o'), S.2.2)
          | _, _ => none) else none
      | _ => none
    | .getstatic _ => match r.1 with
      | 0 => nx (pc + 3) L L2 (aI 1 :: St) S
      | 1 => nx (pc + 3) L L2 (aR (45, 0, 0) :: St) S
      | 2 => nx (pc + 3) L L2 (aR (46, 0, 0) :: St) S
      | 3 => nx (pc + 3) L L2 (aR (48, 0, 0) :: St) S
      | _ => none
    | .arraylength => match St with
      | .inr o :: t => match kOf o with
        | .inr (_, n) => nx (pc + 1) L L2 (aI (Int32.ofNat n) :: t) S
        | .inl _ => none
      | _ => none
    | .iaload => match St with
      | .inl (.int i) :: .inr o :: t => match kOf o with
        | .inr (.int, n) => if inB i n = true then nx (pc + 1) L L2 (aI (agI S o i.toNatClampNeg) :: t) S else none
        | _ => none
      | _ => none
    | .baload => match St with
      | .inl (.int i) :: .inr o :: t => match kOf o with
        | .inr (.byte, n) => if inB i n = true then nx (pc + 1) L L2 (aI (agB S o i.toNatClampNeg) :: t) S else none
        | .inr (.boolean, n) => if inB i n = true then nx (pc + 1) L L2 (aI (bb (S.1 o i.toNatClampNeg)) :: t) S else none
        | _ => none
      | _ => none
    | .laload => match St with
      | .inl (.int i) :: .inr o :: t => match kOf o with
        | .inr (.long, n) => if inB i n = true then nx (pc + 1) L L2 (aL (toL (S.2.1 o i.toNatClampNeg)) :: t) S else none
        | _ => none
      | _ => none
    | .daload => match St with
      | .inl (.int i) :: .inr o :: t => match kOf o with
        | .inr (.double, n) => if inB i n = true then nx (pc + 1) L L2 (aD (toD (S.2.1 o i.toNatClampNeg)) :: t) S else none
        | _ => none
      | _ => none
    | .aaload => match St with
      | .inl (.int i) :: .inr o :: t => match kOf o with
        | .inr (.object _, n) => if inB i n = true then nx (pc + 1) L L2 (S.2.2.1 o i.toNatClampNeg :: t) S else none
        | _ => none
      | _ => none
    | .iastore => match St with
      | .inl (.int x) :: .inl (.int i) :: .inr o :: t => match kOf o with
        | .inr (.int, n) => if inB i n = true ∧ isRo o = false then nx (pc + 1) L L2 t (setI S.1 o i.toNatClampNeg x, S.2) else none
        | _ => none
      | _ => none
    | .bastore => match St with
      | .inl (.int x) :: .inl (.int i) :: .inr o :: t => match kOf o with
        | .inr (.byte, n) => if inB i n = true ∧ isRo o = false then nx (pc + 1) L L2 t (setI S.1 o i.toNatClampNeg x, S.2) else none
        | .inr (.boolean, n) => if inB i n = true ∧ isRo o = false ∧ (x = 0 ∨ x = 1) then nx (pc + 1) L L2 t (setI S.1 o i.toNatClampNeg x, S.2) else none
        | _ => none
      | _ => none
    | .lastore => match St with
      | .inl (.long x) :: .inl (.int i) :: .inr o :: t => match kOf o with
        | .inr (.long, n) => if inB i n = true then nx (pc + 1) L L2 t (S.1, setV S.2.1 o i.toNatClampNeg (aL x), S.2.2) else none
        | _ => none
      | _ => none
    | .dastore => match St with
      | .inl (.double x) :: .inl (.int i) :: .inr o :: t => match kOf o with
        | .inr (.double, n) => if inB i n = true then nx (pc + 1) L L2 t (S.1, setV S.2.1 o i.toNatClampNeg (aD x), S.2.2) else none
        | _ => none
      | _ => none
    | .aastore => match St with
      | .inr v :: .inl (.int i) :: .inr o :: t => match kOf o, kOf v with
        | .inr (.object C, n), .inl cv => if inB i n = true ∧ (vwCl.map (fun q => q.1))[cv]? = some C then nx (pc + 1) L L2 t (S.1, S.2.1, setV S.2.2.1 o i.toNatClampNeg (.inr v), S.2.2.2) else none
        | _, _ => none
      | _ => none
    | .checkcast _ => match St with
      | .inr o :: t => match kOf o with
        | .inr (.byte, _) => if isRo o = false then nx (pc + 3) L L2 St S else none
        | _ => none
      | _ => none
    | .new _ => match r.2.2.1 with
      | 0 => match mkC S r.1 with
        | some (o, S') => nx (pc + 3) L L2 (aR o :: St) S'
        | none => none
      | 1 => if hs = [] ∧ St.length ≤ 4 then some (.inr (.inr (exN r.1), bump S 1 6)) else none
      | _ => none
    | .newarray t => match St with
      | .inl (.int n) :: r => if n < 0 ∨ 65536 < n.toNatClampNeg then none else match mkA S (arT t) n.toNatClampNeg with
        | some (o, S') => nx (pc + 2) L L2 (aR o :: r) S'
        | none => none
      | _ => none
    | .anewarray _ => match St with
      | .inl (.int n) :: t => if n < 0 ∨ 65536 < n.toNatClampNeg then none else match mkA S (if r.1 = 0 then kSt else kBk) n.toNatClampNeg with
        | some (o, S') => nx (pc + 3) L L2 (aR o :: t) S'
        | none => none
      | _ => none
    | .invokestatic _ => inv c hs pc r L L2 St S
    | .invokevirtual _ => inv c hs pc r L L2 St S
    | .invokespecial _ => inv c hs pc r L L2 St S
    | .ireturn => match St with
      | [.inl (.int x)] => if retOk rt x = true then done (some (aI x)) S else none
      | _ => none
    | .lreturn => match St with
      | [.inl (.long x)] => if rt = some .long then done (some (aL x)) S else none
      | _ => none
    | .freturn => match St with
      | [.inl (.float x)] => if rt = some .float then done (some (aF x)) S else none
      | _ => none
    | .areturn => match St with
      | [.inr o] => done (some (aR o)) S
      | [.inl .null] => done (some aN) S
      | _ => none
    | .return_ => if rt = none then done none S else none
    | _ => none
