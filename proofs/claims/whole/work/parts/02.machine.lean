/-! ===== THE ABSTRACT MACHINE: values with Int numbers, memory by numbers of cells, code in blocks ===== -/
/-- an int, a long, a cell of the memory, an outer thing (0 the script, 1 WORTH, 2 k + 2 a text, 2 k + 3 its bytes), null (true) or nothing known (false) -/
abbrev AV : Type := (Int ⊕ Int) ⊕ (Nat ⊕ (Nat ⊕ Bool))
abbrev vi (n : Int) : AV := .inl (.inl n)
abbrev vl (n : Int) : AV := .inl (.inr n)
abbrev vr (k : Nat) : AV := .inr (.inl k)
abbrev vx (k : Nat) : AV := .inr (.inr (.inl k))
abbrev vn : AV := .inr (.inr (.inr true))
abbrev vu : AV := .inr (.inr (.inr false))
/-- an object (class, fields), an array of numbers (0 int, 1 long, 2 boolean; length, contents), an array of references -/
abbrev AC : Type := (Nat × List AV) ⊕ ((Nat × Nat × (Nat → Int)) ⊕ (Nat × (Nat → Option Nat)))
abbrev co (ci : Nat) (fs : List AV) : AC := .inl (ci, fs)
abbrev ca (kd len : Nat) (f : Nat → Int) : AC := .inr (.inl (kd, len, f))
abbrev cr (len : Nat) (f : Nat → Option Nat) : AC := .inr (.inr (len, f))
/-- the memory: what each cell holds; how many cells are known, how many cells and slots were made -/
abbrev AM : Type := (Nat → AC) × (Nat × Nat × Nat)
abbrev Out : Type := Option AV ⊕ Nat
def up {α : Type} (f : Nat → α) (k : Nat) (v : α) : Nat → α := fun j => if j = k then v else f j
def mset (m : AM) (a : Nat) (c : AC) : AM := (up m.1 a c, m.2)
def mnew (m : AM) (c : AC) (w : Nat) : AM := (up m.1 m.2.1 c, (m.2.1 + 1, m.2.2.1 + 1, m.2.2.2 + w))
def mthrow (m : AM) : AM := (m.1, (m.2.1, m.2.2.1 + 1, m.2.2.2 + 6))
def R32 (x : Int) : Prop := -2147483648 ≤ x ∧ x < 2147483648
def R64 (x : Int) : Prop := -9223372036854775808 ≤ x ∧ x < 9223372036854775808
def andI (x y : Int) : Int := (Int32.ofInt x &&& Int32.ofInt y).toInt
def orI (x y : Int) : Int := (Int32.ofInt x ||| Int32.ofInt y).toInt
def xorI (x y : Int) : Int := (Int32.ofInt x ^^^ Int32.ofInt y).toInt
def shlI (x y : Int) : Int := (Int32.ofInt x <<< (Int32.ofInt y &&& 31)).toInt
def shrI (x y : Int) : Int := (Int32.ofInt x >>> (Int32.ofInt y &&& 31)).toInt
def ushrI (x y : Int) : Int := ((Int32.ofInt x).toUInt32 >>> ((Int32.ofInt y).toUInt32 &&& Int32.toUInt32 31)).toInt32.toInt
def cmpI (x y : Int) : Int := if x < y then -1 else if x = y then 0 else 1
def cI (c : ClassFile.Cond) (x y : Int) : Prop := match c with
  | .eq => x = y | .ne => x ≠ y | .lt => x < y | .ge => y ≤ x | .gt => y < x | .le => x ≤ y
def worthT (j : Nat) : Int := match j with
  | 0 => 0 | 1 => 1 | 2 => 2 | 3 => 3 | 4 => 1 | 5 => 4 | 6 => 3 | _ => 0
def cpyI (f g : Nat → Int) (sp dp n : Nat) : Nat → Int := fun k => if dp ≤ k ∧ k < dp + n then f (sp + (k - dp)) else g k
def ovr (r : Option Nat) : AV := match r with
  | some k => vr k
  | none => vn
/-- how many texts there are -/
def nStr : Nat := 39
/-- of a class: the fields of a new object; the signs of the texts; the script -/
abbrev Tab : Type := (Nat → List AV) × ((Nat → List Int) × (Nat × (Nat → Int)))
/-- the locals with which a method begins: a long takes two -/
def argL : List AV → List AV
  | [] => []
  | .inl (.inr n) :: as => vl n :: vu :: argL as
  | a :: as => a :: argL as
/-- whether a long stands at a place -/
def lgB (ls : List AV) (k : Nat) : Bool := match ls[k]? with
  | some (.inl (.inr _)) => true
  | _ => false
/-- a step within a block: a condition, the locals, the stack, the memory behind it -/
def sI (tb : Tab) (i : Instr) (ls st : List AV) (m : AM) : Option (Prop × List AV × List AV × AM) :=
  match i with
  | .bipush n => some (True, ls, vi n :: st, m)
  | .sipush n => some (True, ls, vl n :: st, m)
  | .aconst_null => some (True, ls, vn :: st, m)
  | .ldc k => some (True, ls, vx (2 * k + 2) :: st, m)
  | .getstatic 0 => some (True, ls, vx 1 :: st, m)
  | .getstatic 1 => some (True, ls, vi 1 :: st, m)
  | .getstatic 2 => some (True, ls, vu :: st, m)
  | .iload k => match ls[k]? with
    | some (.inl (.inl n)) => some (True, ls, vi n :: st, m)
    | _ => none
  | .lload k => match ls[k]? with
    | some (.inl (.inr n)) => some (True, ls, vl n :: st, m)
    | _ => none
  | .aload k => match ls[k]? with
    | some (.inr (.inl a)) => some (True, ls, vr a :: st, m)
    | some (.inr (.inr (.inl a))) => some (True, ls, vx a :: st, m)
    | some (.inr (.inr (.inr true))) => some (True, ls, vn :: st, m)
    | _ => none
  | .istore k => match st with
    | .inl (.inl n) :: st => some (True, ls.set k (vi n), st, m)
    | _ => none
  | .fstore k => match st with
    | .inl (.inl n) :: st => some (lgB ls (k - 1) = false, ls.set k (vi n), st, m)
    | _ => none
  | .lstore k => match st with
    | .inl (.inr n) :: st => some (True, (ls.set k (vl n)).set (k + 1) vu, st, m)
    | _ => none
  | .astore k => match st with
    | .inr (.inl a) :: st => some (True, ls.set k (vr a), st, m)
    | .inr (.inr (.inl a)) :: st => some (True, ls.set k (vx a), st, m)
    | .inr (.inr (.inr true)) :: st => some (True, ls.set k vn, st, m)
    | _ => none
  | .iinc k n => match ls[k]? with
    | some (.inl (.inl x)) => some (lgB ls (k - 1) = false, ls.set k (vi (x + n)), st, m)
    | _ => none
  | .ret k => some (True, ls.set k vu, st, m)
  | .iadd => match st with
    | .inl (.inl y) :: .inl (.inl x) :: st => some (True, ls, vi (x + y) :: st, m)
    | _ => none
  | .isub => match st with
    | .inl (.inl y) :: .inl (.inl x) :: st => some (True, ls, vi (x - y) :: st, m)
    | _ => none
  | .imul => match st with
    | .inl (.inl y) :: .inl (.inl x) :: st => some (True, ls, vi (x * y) :: st, m)
    | _ => none
  | .ineg => match st with
    | .inl (.inl x) :: st => some (True, ls, vi (-x) :: st, m)
    | _ => none
  | .idiv => match st with
    | .inl (.inl y) :: .inl (.inl x) :: st => some ((0 ≤ x ∧ x < 2147483648) ∧ (0 < y ∧ y < 2147483648), ls, vi (x / y) :: st, m)
    | _ => none
  | .irem => match st with
    | .inl (.inl y) :: .inl (.inl x) :: st => some ((0 ≤ x ∧ x < 2147483648) ∧ (0 < y ∧ y < 2147483648), ls, vi (x % y) :: st, m)
    | _ => none
  | .iand => match st with
    | .inl (.inl y) :: .inl (.inl x) :: st => some (True, ls, vi (andI x y) :: st, m)
    | _ => none
  | .ior => match st with
    | .inl (.inl y) :: .inl (.inl x) :: st => some (True, ls, vi (orI x y) :: st, m)
    | _ => none
  | .ixor => match st with
    | .inl (.inl y) :: .inl (.inl x) :: st => some (True, ls, vi (xorI x y) :: st, m)
    | _ => none
  | .ishl => match st with
    | .inl (.inl y) :: .inl (.inl x) :: st => some (True, ls, vi (shlI x y) :: st, m)
    | _ => none
  | .ishr => match st with
    | .inl (.inl y) :: .inl (.inl x) :: st => some (True, ls, vi (shrI x y) :: st, m)
    | _ => none
  | .iushr => match st with
    | .inl (.inl y) :: .inl (.inl x) :: st => some (True, ls, vi (ushrI x y) :: st, m)
    | _ => none
  | .ladd => match st with
    | .inl (.inr y) :: .inl (.inr x) :: st => some (True, ls, vl (x + y) :: st, m)
    | _ => none
  | .lsub => match st with
    | .inl (.inr y) :: .inl (.inr x) :: st => some (True, ls, vl (x - y) :: st, m)
    | _ => none
  | .lmul => match st with
    | .inl (.inr y) :: .inl (.inr x) :: st => some (True, ls, vl (x * y) :: st, m)
    | _ => none
  | .ldiv => match st with
    | .inl (.inr y) :: .inl (.inr x) :: st => some ((0 ≤ x ∧ x < 9223372036854775808) ∧ (0 < y ∧ y < 9223372036854775808), ls, vl (x / y) :: st, m)
    | _ => none
  | .i2l => match st with
    | .inl (.inl x) :: st => some (R32 x, ls, vl x :: st, m)
    | _ => none
  | .l2i => match st with
    | .inl (.inr x) :: st => some (True, ls, vi x :: st, m)
    | _ => none
  | .lcmp => match st with
    | .inl (.inr y) :: .inl (.inr x) :: st => some (R64 x ∧ R64 y, ls, vi (cmpI x y) :: st, m)
    | _ => none
  | .dup => match st with
    | .inl (.inl x) :: st => some (True, ls, vi x :: vi x :: st, m)
    | .inr (.inl x) :: st => some (True, ls, vr x :: vr x :: st, m)
    | _ => none
  | .dup2 => match st with
    | .inl (.inl x) :: .inr (.inl a) :: st => some (True, ls, vi x :: vr a :: vi x :: vr a :: st, m)
    | _ => none
  | .pop => match st with
    | .inl (.inl _) :: st => some (True, ls, st, m)
    | .inr _ :: st => some (True, ls, st, m)
    | _ => none
  | .getfield g => match st with
    | .inr (.inl a) :: st => match m.1 a with
      | .inl (ci, fs) => match fs[g % 100]? with
        | some v => some (ci = g / 100, ls, v :: st, m)
        | none => none
      | _ => none
    | _ => none
  | .putfield g => match st with
    | .inl (.inl n) :: .inr (.inl a) :: st => match m.1 a with
      | .inl (ci, fs) => some (ci = g / 100, ls, st, mset m a (co ci (fs.set (g % 100) (vi n))))
      | _ => none
    | _ => none
  | .dstore g => match st with
    | .inl (.inl n) :: .inr (.inl a) :: st => match m.1 a with
      | .inl (ci, fs) => some ((n = 0 ∨ n = 1) ∧ ci = g / 100, ls, st, mset m a (co ci (fs.set (g % 100) (vi n))))
      | _ => none
    | _ => none
  | .putstatic g => match st with
    | .inr v :: .inr (.inl a) :: st => match m.1 a with
      | .inl (ci, fs) => some (ci = g / 100, ls, st, mset m a (co ci (fs.set (g % 100) (.inr v))))
      | _ => none
    | _ => none
  | .iaload => match st with
    | .inl (.inl j) :: .inr (.inl a) :: st => match m.1 a with
      | .inr (.inl (0, len, f)) => some (0 ≤ j ∧ j < len, ls, vi (f j.toNat) :: st, m)
      | _ => none
    | .inl (.inl j) :: .inr (.inr (.inl 0)) :: st => some (0 ≤ j ∧ j < tb.2.2.1, ls, vi (tb.2.2.2 j.toNat) :: st, m)
    | .inl (.inl j) :: .inr (.inr (.inl 1)) :: st => some (0 ≤ j ∧ j < 7, ls, vi (worthT j.toNat) :: st, m)
    | _ => none
  | .laload => match st with
    | .inl (.inl j) :: .inr (.inl a) :: st => match m.1 a with
      | .inr (.inl (1, len, f)) => some (0 ≤ j ∧ j < len, ls, vl (f j.toNat) :: st, m)
      | _ => none
    | _ => none
  | .baload => match st with
    | .inl (.inl j) :: .inr (.inl a) :: st => match m.1 a with
      | .inr (.inl (2, len, f)) => some (0 ≤ j ∧ j < len, ls, vi (f j.toNat) :: st, m)
      | _ => none
    | .inl (.inl j) :: .inr (.inr (.inl (x + 2))) :: st => some ((x % 2 = 1 ∧ x / 2 < nStr) ∧ 0 ≤ j ∧ j < (tb.2.1 (x / 2)).length, ls, vi ((tb.2.1 (x / 2)).getD j.toNat 0) :: st, m)
    | _ => none
  | .aaload => match st with
    | .inl (.inl j) :: .inr (.inl a) :: st => match m.1 a with
      | .inr (.inr (len, f)) => some (0 ≤ j ∧ j < len, ls, ovr (f j.toNat) :: st, m)
      | _ => none
    | _ => none
  | .iastore => match st with
    | .inl (.inl v) :: .inl (.inl j) :: .inr (.inl a) :: st => match m.1 a with
      | .inr (.inl (0, len, f)) => some (0 ≤ j ∧ j < len, ls, st, mset m a (ca 0 len (up f j.toNat v)))
      | _ => none
    | _ => none
  | .lastore => match st with
    | .inl (.inr v) :: .inl (.inl j) :: .inr (.inl a) :: st => match m.1 a with
      | .inr (.inl (1, len, f)) => some (0 ≤ j ∧ j < len, ls, st, mset m a (ca 1 len (up f j.toNat v)))
      | _ => none
    | _ => none
  | .bastore => match st with
    | .inl (.inl v) :: .inl (.inl j) :: .inr (.inl a) :: st => match m.1 a with
      | .inr (.inl (2, len, f)) => some ((v = 0 ∨ v = 1) ∧ (0 ≤ j ∧ j < len), ls, st, mset m a (ca 2 len (up f j.toNat v)))
      | _ => none
    | _ => none
  | .aastore => match st with
    | .inr (.inl v) :: .inl (.inl j) :: .inr (.inl a) :: st => match m.1 a with
      | .inr (.inr (len, f)) => some ((∃ fs, m.1 v = co 8 fs) ∧ (0 ≤ j ∧ j < len), ls, st, mset m a (cr len (up f j.toNat (some v))))
      | _ => none
    | _ => none
  | .arraylength => match st with
    | .inr (.inl a) :: st => match m.1 a with
      | .inr (.inl (_, len, _)) => some (len < 2147483648, ls, vi len :: st, m)
      | _ => none
    | .inr (.inr (.inl 0)) :: st => some (True, ls, vi tb.2.2.1 :: st, m)
    | .inr (.inr (.inl 1)) :: st => some (True, ls, vi 7 :: st, m)
    | .inr (.inr (.inl (x + 2))) :: st => some (x % 2 = 1 ∧ x / 2 < nStr, ls, vi (tb.2.1 (x / 2)).length :: st, m)
    | _ => none
  | .newarray t => match st with
    | .inl (.inl n) :: st => match t with
      | .int => some (0 ≤ n ∧ n < 1000000, ls, vr m.2.1 :: st, mnew m (ca 0 n.toNat (fun _ => 0)) n.toNat)
      | .long => some (0 ≤ n ∧ n < 1000000, ls, vr m.2.1 :: st, mnew m (ca 1 n.toNat (fun _ => 0)) n.toNat)
      | .boolean => some (0 ≤ n ∧ n < 1000000, ls, vr m.2.1 :: st, mnew m (ca 2 n.toNat (fun _ => 0)) n.toNat)
      | _ => none
    | _ => none
  | .anewarray _ => match st with
    | .inl (.inl n) :: st => some (0 ≤ n ∧ n < 1000000, ls, vr m.2.1 :: st, mnew m (cr n.toNat (fun _ => none)) n.toNat)
    | _ => none
  | .new ci => some (True, ls, vr m.2.1 :: st, mnew m (co ci (tb.1 ci)) (tb.1 ci).length)
  | .invokespecial _ => match st with
    | .inr (.inl _) :: st => some (st.length ≤ 8, ls, st, m)
    | _ => none
  | .fload 0 => match st with
    | .inr (.inr (.inl (x + 2))) :: st => some (x % 2 = 0 ∧ x / 2 < nStr, ls, vx (x + 3) :: st, m)
    | _ => none
  | .fload 1 => match st with
    | .inr (.inr (.inl (x + 2))) :: st => some (x % 2 = 0 ∧ x / 2 < nStr, ls, vi 0 :: st, m)
    | _ => none
  | .i2c => match st with
    | .inl (.inl x) :: st => some (0 ≤ x ∧ x < 65536, ls, vi x :: st, m)
    | _ => none
  | .checkcast _ => match st with
    | .inr (.inl a) :: st => match m.1 a with
      | .inr (.inl (0, _, _)) => some (True, ls, vr a :: st, m)
      | _ => none
    | _ => none
  | .invokestatic 0 => match st with
    | .inl (.inl y) :: .inl (.inl x) :: st => some (st.length ≤ 8 ∧ R32 x ∧ R32 y, ls, vi (if y < x then y else x) :: st, m)
    | _ => none
  | .invokestatic 1 => match st with
    | .inl (.inl y) :: .inl (.inl x) :: st => some (st.length ≤ 8 ∧ R32 x ∧ R32 y, ls, vi (if x < y then y else x) :: st, m)
    | _ => none
  | .invokestatic 2 => match st with
    | .inl (.inl n) :: .inl (.inl dp) :: .inr (.inl b) :: .inl (.inl sp) :: .inr (.inl a) :: st => match m.1 a with
      | .inr (.inl (0, la, f)) => match m.1 b with
        | .inr (.inl (0, lb, g)) => some (st.length ≤ 8 ∧ (0 ≤ n ∧ 0 ≤ sp ∧ 0 ≤ dp) ∧ (sp + n ≤ la ∧ dp + n ≤ lb) ∧ la < 1000000 ∧ lb < 1000000, ls, st, mset m b (ca 0 lb (cpyI f g sp.toNat dp.toNat n.toNat)))
        | _ => none
      | _ => none
    | _ => none
  | .invokestatic 3 => match st with
    | .inr (.inl a) :: st => match m.1 a with
      | .inr (.inl (0, len, f)) => some (st.length ≤ 8 ∧ len < 1000000, ls, vr m.2.1 :: st, mnew m (ca 0 len f) len)
      | _ => none
    | _ => none
  | _ => none
def swB (J : Nat → Prop) (d : Int) : List (Int × Int) → Int → Prop
  | [], _ => J d.toNat
  | (k, t) :: ps, x => (x = k → J t.toNat) ∧ (x ≠ k → swB J d ps x)
/-- no longs lie there -/
def noLg : List AV → Bool
  | [] => true
  | .inl (.inl _) :: st => noLg st
  | .inr (.inl _) :: st => noLg st
  | _ => false
/-- a block: what must hold at its begin, so that Q holds where the method ends, and J where it jumps; C the calls, hs which exceptions are caught here -/
def wpB (tb : Tab) (hs : Nat → Option (Nat × Nat)) (C : Nat → List AV → AM → (Out → AM → Prop) → Prop) (Q : Out → AM → Prop) (J : Nat → List AV → List AV → AM → Prop) : List Instr → List AV → List AV → AM → Prop
  | [], _, _, _ => False
  | i :: is, ls, st, m =>
    match i with
    | .goto t => J t.toNat ls st m
    | .jsr t => J t.toNat ls st m
    | .ifCond c t => match st with
      | .inl (.inl x) :: st => R32 x ∧ (cI c x 0 → J t.toNat ls st m) ∧ (¬ cI c x 0 → wpB tb hs C Q J is ls st m)
      | _ => False
    | .if_icmp c t => match st with
      | .inl (.inl y) :: .inl (.inl x) :: st => ((R32 x ∧ R32 y) ∨ x = y) ∧ (cI c x y → J t.toNat ls st m) ∧ (¬ cI c x y → wpB tb hs C Q J is ls st m)
      | _ => False
    | .ifnull t => match st with
      | .inr (.inl _) :: st => wpB tb hs C Q J is ls st m
      | .inr (.inr (.inr true)) :: st => J t.toNat ls st m
      | _ => False
    | .ifnonnull t => match st with
      | .inr (.inl _) :: st => J t.toNat ls st m
      | .inr (.inr (.inr true)) :: st => wpB tb hs C Q J is ls st m
      | _ => False
    | .lookupswitch d ps => match st with
      | .inl (.inl x) :: st => R32 x ∧ swB (fun t => J t ls st m) d ps.toList x
      | _ => False
    | .ireturn => match st with
      | [.inl (.inl x)] => Q (.inl (some (vi x))) m
      | _ => False
    | .freturn => match st with
      | [.inl (.inl x)] => (x = 0 ∨ x = 1) ∧ Q (.inl (some (vi x))) m
      | _ => False
    | .dreturn => match st with
      | [.inl (.inl x)] => (-128 ≤ x ∧ x < 128) ∧ Q (.inl (some (vi x))) m
      | _ => False
    | .lreturn => match st with
      | [.inl (.inl x)] => (0 ≤ x ∧ x < 65536) ∧ Q (.inl (some (vi x))) m
      | _ => False
    | .areturn => match st with
      | [.inr (.inl a)] => Q (.inl (some (vr a))) m
      | [.inr (.inr (.inr true))] => Q (.inl (some vn)) m
      | _ => False
    | .return_ => match st with
      | [] => Q (.inl none) m
      | _ => False
    | .invokeinterface mid n => (n ≤ st.length ∧ (st.length ≤ n + 4 ∨ (noLg (st.drop n) = true ∧ st.length ≤ n + 8))) ∧ C mid (st.take n).reverse m (fun o m' => match o with
      | .inl r => wpB tb hs C Q J is ls (r.toList ++ st.drop n) m'
      | .inr E => match hs E with
        | none => Q (.inr E) m'
        | some (k, L) => J L (ls.set k vu) [] m')
    | .invokedynamic E => match st with
      | [] => Q (.inr E) (mthrow m)
      | _ => False
    | i => match sI tb i ls st m with
      | none => False
      | some (φ, ls', st', m') => φ ∧ wpB tb hs C Q J is ls' st' m'
/-- a program: the blocks of each method, what each method catches, how many locals it has, what its receiver is, where longs may lie -/
abbrev Prg : Type := (Nat → Nat → List Instr) × ((Nat → Nat → Option (Nat × Nat)) × ((Nat → Nat) × ((Nat → Option Nat) × (Nat → Nat → Bool))))
/-- longs lie where they may -/
def lgOK (lg : Nat → Bool) : Nat → List AV → Prop
  | _, [] => True
  | i, .inl (.inr _) :: as => lg i = true ∧ lgOK lg (i + 1) as
  | i, _ :: as => lgOK lg (i + 1) as
/-- the receiver of a call: an object of that class (100: a text), if any is asked -/
def recv (ci : Option Nat) (args : List AV) (m : AM) : Prop := match ci with
  | none => True
  | some 100 => ∃ x as, args = vx (x + 2) :: as ∧ x % 2 = 0 ∧ x / 2 < nStr
  | some ci => ∃ a fs as, args = vr a :: as ∧ m.1 a = co ci fs
def Ex (tb : Tab) (hs : Nat → Option (Nat × Nat)) (C : Nat → List AV → AM → (Out → AM → Prop) → Prop) (code : Nat → List Instr) (Q : Out → AM → Prop) (L : Nat) (ls st : List AV) (m : AM) : Prop :=
  ∀ R : Nat → List AV → List AV → AM → Prop, (∀ L ls st m, wpB tb hs C Q R (code L) ls st m → R L ls st m) → R L ls st m
def Runs (tb : Tab) (pg : Prg) : Nat → Nat → List AV → AM → (Out → AM → Prop) → Prop
  | 0, _, _, _, _ => False
  | d + 1, M, args, m, Q => (recv (pg.2.2.2.1 M) args m ∧ (argL args).length ≤ pg.2.2.1 M ∧ lgOK (pg.2.2.2.2 M) 0 (argL args)) ∧ Ex tb (pg.2.1 M) (Runs tb pg d) (pg.1 M) Q 0 (argL args ++ List.replicate (pg.2.2.1 M - (argL args).length) vu) [] m
def CMono (C C' : Nat → List AV → AM → (Out → AM → Prop) → Prop) : Prop := ∀ M args m K K', (∀ o m', K o m' → K' o m') → C M args m K → C' M args m K'
theorem swB_mono {J J' : Nat → Prop} (h : ∀ t, J t → J' t) (d : Int) (x : Int) : ∀ ps, swB J d ps x → swB J' d ps x := by
  intro ps
  induction ps with
  | nil => exact fun q => h _ q
  | cons p ps ih => exact fun q => ⟨fun e => h _ (q.1 e), fun e => ih (q.2 e)⟩
set_option maxHeartbeats 4000000 in
theorem wpB_mono {tb : Tab} {hs : Nat → Option (Nat × Nat)} {C C' : Nat → List AV → AM → (Out → AM → Prop) → Prop} {Q Q' : Out → AM → Prop} {J J' : Nat → List AV → List AV → AM → Prop}
    (hC : CMono C C') (hQ : ∀ o m, Q o m → Q' o m) (hJ : ∀ L ls st m, J L ls st m → J' L ls st m) : ∀ is ls st m, wpB tb hs C Q J is ls st m → wpB tb hs C' Q' J' is ls st m := by
  intro is
  induction is with
  | nil => exact fun _ _ _ h => h
  | cons i is ih =>
    intro ls st m h
    unfold wpB at h ⊢
    split at h
    · exact hJ _ _ _ _ h
    · exact hJ _ _ _ _ h
    · split at h
      · exact ⟨h.1, fun e => hJ _ _ _ _ (h.2.1 e), fun e => ih _ _ _ (h.2.2 e)⟩
      · exact h.elim
    · split at h
      · exact ⟨h.1, fun e => hJ _ _ _ _ (h.2.1 e), fun e => ih _ _ _ (h.2.2 e)⟩
      · exact h.elim
    · split at h
      · exact ih _ _ _ h
      · exact hJ _ _ _ _ h
      · exact h.elim
    · split at h
      · exact hJ _ _ _ _ h
      · exact ih _ _ _ h
      · exact h.elim
    · split at h
      · exact ⟨h.1, swB_mono (fun t q => hJ _ _ _ _ q) _ _ _ h.2⟩
      · exact h.elim
    · split at h
      · exact hQ _ _ h
      · exact h.elim
    · split at h
      · exact ⟨h.1, hQ _ _ h.2⟩
      · exact h.elim
    · split at h
      · exact ⟨h.1, hQ _ _ h.2⟩
      · exact h.elim
    · split at h
      · exact ⟨h.1, hQ _ _ h.2⟩
      · exact h.elim
    · split at h
      · exact hQ _ _ h
      · exact hQ _ _ h
      · exact h.elim
    · split at h
      · exact hQ _ _ h
      · exact h.elim
    · refine ⟨h.1, hC _ _ _ _ _ (fun o m' q => ?_) h.2⟩
      rcases o with r | E
      · exact ih _ _ _ q
      · dsimp only at q ⊢
        split at q
        · exact hQ _ _ q
        · exact hJ _ _ _ _ q
    · split at h
      · exact hQ _ _ h
      · exact h.elim
    · split at h
      · exact h.elim
      · exact ⟨h.1, ih _ _ _ h.2⟩
theorem Ex_mono {tb : Tab} {hs : Nat → Option (Nat × Nat)} {C C' : Nat → List AV → AM → (Out → AM → Prop) → Prop} {code : Nat → List Instr} {Q Q' : Out → AM → Prop} (hC : CMono C C') (hQ : ∀ o m, Q o m → Q' o m) {L : Nat} {ls st : List AV} {m : AM} (h : Ex tb hs C code Q L ls st m) : Ex tb hs C' code Q' L ls st m :=
  fun R hR => h R (fun L ls st m q => hR L ls st m (wpB_mono hC hQ (fun _ _ _ _ z => z) _ _ _ _ q))
theorem CMono.refl_of {tb : Tab} {pg : Prg} : ∀ d, CMono (Runs tb pg d) (Runs tb pg d)
  | 0 => fun _ _ _ _ _ _ h => h
  | d + 1 => fun _ _ _ _ _ hK h => ⟨h.1, Ex_mono (CMono.refl_of d) hK h.2⟩
theorem CMono.succ {tb : Tab} {pg : Prg} : ∀ d, CMono (Runs tb pg d) (Runs tb pg (d + 1))
  | 0 => fun _ _ _ _ _ _ h => h.elim
  | d + 1 => fun _ _ _ _ _ hK h => ⟨h.1, Ex_mono (CMono.succ d) hK h.2⟩
theorem Runs.mono {tb : Tab} {pg : Prg} {d M : Nat} {args : List AV} {m : AM} {Q Q' : Out → AM → Prop} (h : Runs tb pg d M args m Q) (hQ : ∀ o m', Q o m' → Q' o m') : Runs tb pg d M args m Q' := CMono.refl_of d _ _ _ _ _ hQ h
theorem Runs.le {tb : Tab} {pg : Prg} {d d' M : Nat} {args : List AV} {m : AM} {Q : Out → AM → Prop} (h : Runs tb pg d M args m Q) (hd : d ≤ d') : Runs tb pg d' M args m Q := by
  induction hd with
  | refl => exact h
  | step _ ih => exact CMono.succ _ _ _ _ _ _ (fun _ _ q => q) ih
theorem Ex_fold {tb : Tab} {hs : Nat → Option (Nat × Nat)} {C : Nat → List AV → AM → (Out → AM → Prop) → Prop} {code : Nat → List Instr} {Q : Out → AM → Prop} (hC : CMono C C) {L : Nat} {ls st : List AV} {m : AM} (h : wpB tb hs C Q (Ex tb hs C code Q) (code L) ls st m) : Ex tb hs C code Q L ls st m :=
  fun R hR => hR _ _ _ _ (wpB_mono hC (fun _ _ q => q) (fun _ _ _ _ q => q R hR) _ _ _ _ h)
theorem Ex_open {tb : Tab} {hs : Nat → Option (Nat × Nat)} {C : Nat → List AV → AM → (Out → AM → Prop) → Prop} {code : Nat → List Instr} {Q : Out → AM → Prop} (hC : CMono C C) {L : Nat} {ls st : List AV} {m : AM} (h : Ex tb hs C code Q L ls st m) : wpB tb hs C Q (Ex tb hs C code Q) (code L) ls st m :=
  h (fun L ls st m => wpB tb hs C Q (Ex tb hs C code Q) (code L) ls st m) (fun _ _ _ _ q => wpB_mono hC (fun _ _ z => z) (fun _ _ _ _ z => Ex_fold hC z) _ _ _ _ q)
/-- one end alone -/
def one (o : Out) (m : AM) : Out → AM → Prop := fun o2 m2 => o2 = o ∧ m2 = m
def CDet (C : Nat → List AV → AM → (Out → AM → Prop) → Prop) : Prop := ∀ M args m K, C M args m K → ∃ o m', K o m' ∧ C M args m (one o m')
set_option maxHeartbeats 4000000 in
theorem swB_det {J J' : Nat → Prop} {P : Prop} (h : ∀ t, J t → P → J' t) (d : Int) (x : Int) (hP : P) : ∀ ps, swB J d ps x → swB J' d ps x := fun ps => swB_mono (fun t q => h t q hP) d x ps
theorem swB_ex {α : Type} {J : Nat → Prop} {J' : α → Nat → Prop} {P : α → Prop} (d : Int) (x : Int) (h : ∀ t, J t → ∃ a, P a ∧ J' a t) : ∀ ps, swB J d ps x → ∃ a, P a ∧ swB (J' a) d ps x := by
  intro ps
  induction ps with
  | nil => exact fun q => h _ q
  | cons p ps ih =>
    intro q
    by_cases e : x = p.1
    · obtain ⟨a, h1, h2⟩ := h _ (q.1 e)
      exact ⟨a, h1, fun _ => h2, fun z => absurd e z⟩
    · obtain ⟨a, h1, h2⟩ := ih (q.2 e)
      exact ⟨a, h1, fun z => absurd z e, fun _ => h2⟩
set_option maxHeartbeats 8000000 in
theorem wpB_det {tb : Tab} {hs : Nat → Option (Nat × Nat)} {C : Nat → List AV → AM → (Out → AM → Prop) → Prop} {Q : Out → AM → Prop} {J : Nat → List AV → List AV → AM → Prop} {J' : Out → AM → Nat → List AV → List AV → AM → Prop}
    (hM : CMono C C) (hC : CDet C) (hJ : ∀ L ls st m, J L ls st m → ∃ o m', Q o m' ∧ J' o m' L ls st m) : ∀ is ls st m, wpB tb hs C Q J is ls st m → ∃ o m', Q o m' ∧ wpB tb hs C (one o m') (J' o m') is ls st m := by
  intro is
  induction is with
  | nil => exact fun _ _ _ h => h.elim
  | cons i is ih =>
    intro ls st m h
    unfold wpB at h ⊢
    have two : ∀ {φ c : Prop} {Lt : Nat} {ls st ls2 st2 m}, (φ ∧ (c → J Lt ls st m) ∧ (¬ c → wpB tb hs C Q J is ls2 st2 m)) → ∃ o m', Q o m' ∧ (φ ∧ (c → J' o m' Lt ls st m) ∧ (¬ c → wpB tb hs C (one o m') (J' o m') is ls2 st2 m)) := by
      intro φ c Lt ls st ls2 st2 m h
      by_cases e : c
      · obtain ⟨o, m', h1, h2⟩ := hJ _ _ _ _ (h.2.1 e)
        exact ⟨o, m', h1, h.1, fun _ => h2, fun z => absurd e z⟩
      · obtain ⟨o, m', h1, h2⟩ := ih _ _ _ (h.2.2 e)
        exact ⟨o, m', h1, h.1, fun z => absurd z e, fun _ => h2⟩
    split at h
    · exact hJ _ _ _ _ h
    · exact hJ _ _ _ _ h
    · split at h
      · exact two h
      · exact h.elim
    · split at h
      · exact two h
      · exact h.elim
    · split at h
      · exact ih _ _ _ h
      · exact hJ _ _ _ _ h
      · exact h.elim
    · split at h
      · exact hJ _ _ _ _ h
      · exact ih _ _ _ h
      · exact h.elim
    · split at h
      · obtain ⟨a, h1, h2⟩ := swB_ex (α := Out × AM) (J' := fun a t => J' a.1 a.2 t _ _ _) (P := fun a => Q a.1 a.2) _ _ (fun t q => by
          obtain ⟨o, m', h1, h2⟩ := hJ _ _ _ _ q
          exact ⟨(o, m'), h1, h2⟩) _ h.2
        exact ⟨a.1, a.2, h1, h.1, h2⟩
      · exact h.elim
    · split at h
      · exact ⟨_, _, h, rfl, rfl⟩
      · exact h.elim
    · split at h
      · exact ⟨_, _, h.2, h.1, rfl, rfl⟩
      · exact h.elim
    · split at h
      · exact ⟨_, _, h.2, h.1, rfl, rfl⟩
      · exact h.elim
    · split at h
      · exact ⟨_, _, h.2, h.1, rfl, rfl⟩
      · exact h.elim
    · split at h
      · exact ⟨_, _, h, rfl, rfl⟩
      · exact ⟨_, _, h, rfl, rfl⟩
      · exact h.elim
    · split at h
      · exact ⟨_, _, h, rfl, rfl⟩
      · exact h.elim
    · obtain ⟨o1, m1, k1, k2⟩ := hC _ _ _ _ h.2
      rcases o1 with r | E
      · obtain ⟨o, m', h1, h2⟩ := ih _ _ _ k1
        refine ⟨o, m', h1, h.1, hM _ _ _ _ _ (fun o2 m2 q => ?_) k2⟩
        obtain ⟨rfl, rfl⟩ := q
        exact h2
      · dsimp only at k1
        split at k1
        next e =>
          refine ⟨_, _, k1, h.1, hM _ _ _ _ _ (fun o2 m2 q => ?_) k2⟩
          obtain ⟨rfl, rfl⟩ := q
          dsimp only
          rw [e]
          exact ⟨rfl, rfl⟩
        next e =>
          obtain ⟨o, m', h1, h2⟩ := hJ _ _ _ _ k1
          refine ⟨o, m', h1, h.1, hM _ _ _ _ _ (fun o2 m2 q => ?_) k2⟩
          obtain ⟨rfl, rfl⟩ := q
          dsimp only
          rw [e]
          exact h2
    · split at h
      · exact ⟨_, _, h, rfl, rfl⟩
      · exact h.elim
    · split at h
      · exact h.elim
      · obtain ⟨o, m', h1, h2⟩ := ih _ _ _ h.2
        exact ⟨o, m', h1, h.1, h2⟩
theorem Ex_det {tb : Tab} {hs : Nat → Option (Nat × Nat)} {C : Nat → List AV → AM → (Out → AM → Prop) → Prop} {code : Nat → List Instr} {Q : Out → AM → Prop} (hM : CMono C C) (hC : CDet C) {L : Nat} {ls st : List AV} {m : AM} (h : Ex tb hs C code Q L ls st m) : ∃ o m', Q o m' ∧ Ex tb hs C code (one o m') L ls st m :=
  h (fun L ls st m => ∃ o m', Q o m' ∧ Ex tb hs C code (one o m') L ls st m) (fun L ls st m q => by
    obtain ⟨o, m', h1, h2⟩ := wpB_det (J' := fun o m' => Ex tb hs C code (one o m')) hM hC (fun _ _ _ _ z => z) _ _ _ _ q
    exact ⟨o, m', h1, Ex_fold hM h2⟩)
theorem Runs.det {tb : Tab} {pg : Prg} : ∀ d, CDet (Runs tb pg d)
  | 0 => fun _ _ _ _ h => h.elim
  | d + 1 => fun _ _ _ _ h => by
    obtain ⟨o, m', h1, h2⟩ := Ex_det (CMono.refl_of d) (Runs.det d) h.2
    exact ⟨o, m', h1, h.1, h2⟩
