/-! ===== RULES OF RUNS ===== -/
section Rules
variable {tb : Tab} {hs : Nat → Option (Nat × Nat)} {C : Nat → List AV → AM → (Out → AM → Prop) → Prop} {Q : Out → AM → Prop} {J : Nat → List AV → List AV → AM → Prop} {is : List Instr} {ls st : List AV} {m : AM}
theorem w_iconst {n : Int} : wpB tb hs C Q J (.bipush n :: is) ls st m = wpB tb hs C Q J is ls (vi n :: st) m := by
  show (True ∧ _) = _
  rw [true_and]
theorem w_lconst {n : Int} : wpB tb hs C Q J (.sipush n :: is) ls st m = wpB tb hs C Q J is ls (vl n :: st) m := by
  show (True ∧ _) = _
  rw [true_and]
theorem w_null  : wpB tb hs C Q J (.aconst_null :: is) ls st m = wpB tb hs C Q J is ls (vn :: st) m := by
  show (True ∧ _) = _
  rw [true_and]
theorem w_ldc {k : Nat} : wpB tb hs C Q J (.ldc k :: is) ls st m = wpB tb hs C Q J is ls (vx (2 * k + 2) :: st) m := by
  show (True ∧ _) = _
  rw [true_and]
theorem w_worth  : wpB tb hs C Q J (.getstatic 0 :: is) ls st m = wpB tb hs C Q J is ls (vx 1 :: st) m := by
  show (True ∧ _) = _
  rw [true_and]
theorem w_compact  : wpB tb hs C Q J (.getstatic 1 :: is) ls st m = wpB tb hs C Q J is ls (vi 1 :: st) m := by
  show (True ∧ _) = _
  rw [true_and]
theorem w_sioobe  : wpB tb hs C Q J (.getstatic 2 :: is) ls st m = wpB tb hs C Q J is ls (vu :: st) m := by
  show (True ∧ _) = _
  rw [true_and]
theorem w_iload {k : Nat} : wpB tb hs C Q J (.iload k :: is) ls st m = (match ls[k]? with
    | some (.inl (.inl n)) => wpB tb hs C Q J is ls (vi n :: st) m
    | _ => False) := by
  rw [wp_split _ _ _ _ _ _ _ _ _ _ rfl (fun t => by intro h; cases h)]
  dsimp only [sI]
  rcases ls[k]? with _ | ((n | n) | (a | (a | (_ | _)))) <;> first | rfl | exact true_and _
theorem w_lload {k : Nat} : wpB tb hs C Q J (.lload k :: is) ls st m = (match ls[k]? with
    | some (.inl (.inr n)) => wpB tb hs C Q J is ls (vl n :: st) m
    | _ => False) := by
  rw [wp_split _ _ _ _ _ _ _ _ _ _ rfl (fun t => by intro h; cases h)]
  dsimp only [sI]
  rcases ls[k]? with _ | ((n | n) | (a | (a | (_ | _)))) <;> first | rfl | exact true_and _
theorem w_aload {k : Nat} : wpB tb hs C Q J (.aload k :: is) ls st m = (match ls[k]? with
    | some (.inr (.inl a)) => wpB tb hs C Q J is ls (vr a :: st) m
    | some (.inr (.inr (.inl a))) => wpB tb hs C Q J is ls (vx a :: st) m
    | some (.inr (.inr (.inr true))) => wpB tb hs C Q J is ls (vn :: st) m
    | _ => False) := by
  rw [wp_split _ _ _ _ _ _ _ _ _ _ rfl (fun t => by intro h; cases h)]
  dsimp only [sI]
  rcases ls[k]? with _ | ((n | n) | (a | (a | (_ | _)))) <;> first | rfl | exact true_and _
theorem w_istore {k : Nat} {n : Int} : wpB tb hs C Q J (.istore k :: is) ls (vi n :: st) m = wpB tb hs C Q J is (ls.set k (vi n)) (st) m := by
  show (True ∧ _) = _
  rw [true_and]
theorem w_fstore {k : Nat} {n : Int} : wpB tb hs C Q J (.fstore k :: is) ls (vi n :: st) m = ((lgB ls (k - 1) = false) ∧ wpB tb hs C Q J is (ls.set k (vi n)) (st) m) := by
  rfl
theorem w_lstore {k : Nat} {n : Int} : wpB tb hs C Q J (.lstore k :: is) ls (vl n :: st) m = wpB tb hs C Q J is ((ls.set k (vl n)).set (k + 1) vu) (st) m := by
  show (True ∧ _) = _
  rw [true_and]
theorem w_astore {k a : Nat} : wpB tb hs C Q J (.astore k :: is) ls (vr a :: st) m = wpB tb hs C Q J is (ls.set k (vr a)) (st) m := by
  show (True ∧ _) = _
  rw [true_and]
theorem w_astorex {k a : Nat} : wpB tb hs C Q J (.astore k :: is) ls (vx a :: st) m = wpB tb hs C Q J is (ls.set k (vx a)) (st) m := by
  show (True ∧ _) = _
  rw [true_and]
theorem w_astoren {k : Nat} : wpB tb hs C Q J (.astore k :: is) ls (vn :: st) m = wpB tb hs C Q J is (ls.set k vn) (st) m := by
  show (True ∧ _) = _
  rw [true_and]
theorem w_kill {k : Nat} : wpB tb hs C Q J (.ret k :: is) ls st m = wpB tb hs C Q J is (ls.set k vu) (st) m := by
  show (True ∧ _) = _
  rw [true_and]
theorem w_iinc {k : Nat} {n : Int} : wpB tb hs C Q J (.iinc k n :: is) ls st m = (match ls[k]? with
    | some (.inl (.inl x)) => lgB ls (k - 1) = false ∧ wpB tb hs C Q J is (ls.set k (vi (x + n))) st m
    | _ => False) := by
  rw [wp_split _ _ _ _ _ _ _ _ _ _ rfl (fun t => by intro h; cases h)]
  dsimp only [sI]
  rcases ls[k]? with _ | ((x | x) | (a | (a | (_ | _)))) <;> rfl
theorem w_iadd {x y : Int} : wpB tb hs C Q J (.iadd :: is) ls (vi y :: vi x :: st) m = wpB tb hs C Q J is ls (vi (x + y) :: st) m := by
  show (True ∧ _) = _
  rw [true_and]
theorem w_isub {x y : Int} : wpB tb hs C Q J (.isub :: is) ls (vi y :: vi x :: st) m = wpB tb hs C Q J is ls (vi (x - y) :: st) m := by
  show (True ∧ _) = _
  rw [true_and]
theorem w_imul {x y : Int} : wpB tb hs C Q J (.imul :: is) ls (vi y :: vi x :: st) m = wpB tb hs C Q J is ls (vi (x * y) :: st) m := by
  show (True ∧ _) = _
  rw [true_and]
theorem w_iand {x y : Int} : wpB tb hs C Q J (.iand :: is) ls (vi y :: vi x :: st) m = wpB tb hs C Q J is ls (vi (andI x y) :: st) m := by
  show (True ∧ _) = _
  rw [true_and]
theorem w_ior {x y : Int} : wpB tb hs C Q J (.ior :: is) ls (vi y :: vi x :: st) m = wpB tb hs C Q J is ls (vi (orI x y) :: st) m := by
  show (True ∧ _) = _
  rw [true_and]
theorem w_ixor {x y : Int} : wpB tb hs C Q J (.ixor :: is) ls (vi y :: vi x :: st) m = wpB tb hs C Q J is ls (vi (xorI x y) :: st) m := by
  show (True ∧ _) = _
  rw [true_and]
theorem w_ishl {x y : Int} : wpB tb hs C Q J (.ishl :: is) ls (vi y :: vi x :: st) m = wpB tb hs C Q J is ls (vi (shlI x y) :: st) m := by
  show (True ∧ _) = _
  rw [true_and]
theorem w_ishr {x y : Int} : wpB tb hs C Q J (.ishr :: is) ls (vi y :: vi x :: st) m = wpB tb hs C Q J is ls (vi (shrI x y) :: st) m := by
  show (True ∧ _) = _
  rw [true_and]
theorem w_iushr {x y : Int} : wpB tb hs C Q J (.iushr :: is) ls (vi y :: vi x :: st) m = wpB tb hs C Q J is ls (vi (ushrI x y) :: st) m := by
  show (True ∧ _) = _
  rw [true_and]
theorem w_ineg {x : Int} : wpB tb hs C Q J (.ineg :: is) ls (vi x :: st) m = wpB tb hs C Q J is ls (vi (-x) :: st) m := by
  show (True ∧ _) = _
  rw [true_and]
theorem w_idiv {x y : Int} : wpB tb hs C Q J (.idiv :: is) ls (vi y :: vi x :: st) m = (((0 ≤ x ∧ x < 2147483648) ∧ (0 < y ∧ y < 2147483648)) ∧ wpB tb hs C Q J is ls (vi (x / y) :: st) m) := by
  rfl
theorem w_irem {x y : Int} : wpB tb hs C Q J (.irem :: is) ls (vi y :: vi x :: st) m = (((0 ≤ x ∧ x < 2147483648) ∧ (0 < y ∧ y < 2147483648)) ∧ wpB tb hs C Q J is ls (vi (x % y) :: st) m) := by
  rfl
theorem w_ladd {x y : Int} : wpB tb hs C Q J (.ladd :: is) ls (vl y :: vl x :: st) m = wpB tb hs C Q J is ls (vl (x + y) :: st) m := by
  show (True ∧ _) = _
  rw [true_and]
theorem w_lsub {x y : Int} : wpB tb hs C Q J (.lsub :: is) ls (vl y :: vl x :: st) m = wpB tb hs C Q J is ls (vl (x - y) :: st) m := by
  show (True ∧ _) = _
  rw [true_and]
theorem w_lmul {x y : Int} : wpB tb hs C Q J (.lmul :: is) ls (vl y :: vl x :: st) m = wpB tb hs C Q J is ls (vl (x * y) :: st) m := by
  show (True ∧ _) = _
  rw [true_and]
theorem w_ldiv {x y : Int} : wpB tb hs C Q J (.ldiv :: is) ls (vl y :: vl x :: st) m = (((0 ≤ x ∧ x < 9223372036854775808) ∧ (0 < y ∧ y < 9223372036854775808)) ∧ wpB tb hs C Q J is ls (vl (x / y) :: st) m) := by
  rfl
theorem w_i2l {x : Int} : wpB tb hs C Q J (.i2l :: is) ls (vi x :: st) m = ((R32 x) ∧ wpB tb hs C Q J is ls (vl x :: st) m) := by
  rfl
theorem w_l2i {x : Int} : wpB tb hs C Q J (.l2i :: is) ls (vl x :: st) m = wpB tb hs C Q J is ls (vi x :: st) m := by
  show (True ∧ _) = _
  rw [true_and]
theorem w_i2c {x : Int} : wpB tb hs C Q J (.i2c :: is) ls (vi x :: st) m = ((0 ≤ x ∧ x < 65536) ∧ wpB tb hs C Q J is ls (vi x :: st) m) := by
  rfl
theorem w_lcmp {x y : Int} : wpB tb hs C Q J (.lcmp :: is) ls (vl y :: vl x :: st) m = ((R64 x ∧ R64 y) ∧ wpB tb hs C Q J is ls (vi (cmpI x y) :: st) m) := by
  rfl
theorem w_dupi {x : Int} : wpB tb hs C Q J (.dup :: is) ls (vi x :: st) m = wpB tb hs C Q J is ls (vi x :: vi x :: st) m := by
  show (True ∧ _) = _
  rw [true_and]
theorem w_dupr {x : Nat} : wpB tb hs C Q J (.dup :: is) ls (vr x :: st) m = wpB tb hs C Q J is ls (vr x :: vr x :: st) m := by
  show (True ∧ _) = _
  rw [true_and]
theorem w_dup2 {x : Int} {a : Nat} : wpB tb hs C Q J (.dup2 :: is) ls (vi x :: vr a :: st) m = wpB tb hs C Q J is ls (vi x :: vr a :: vi x :: vr a :: st) m := by
  show (True ∧ _) = _
  rw [true_and]
theorem w_popi {x : Int} : wpB tb hs C Q J (.pop :: is) ls (vi x :: st) m = wpB tb hs C Q J is ls (st) m := by
  show (True ∧ _) = _
  rw [true_and]
theorem w_popr {v : Nat ⊕ (Nat ⊕ Bool)} : wpB tb hs C Q J (.pop :: is) ls (.inr v :: st) m = wpB tb hs C Q J is ls (st) m := by
  show (True ∧ _) = _
  rw [true_and]
theorem w_getf {g a ci : Nat} {fs : List AV} {v : AV} (h1 : m.1 a = co ci fs) (h2 : fs[g % 100]? = some v) : wpB tb hs C Q J (.getfield g :: is) ls (vr a :: st) m = ((ci = g / 100) ∧ wpB tb hs C Q J is ls (v :: st) m) := by
  rw [wp_split _ _ _ _ _ _ _ _ _ _ rfl (fun t => by intro h; cases h)]
  dsimp only [sI]
  rw [h1]
  try dsimp only
  rw [h2]
  try dsimp only
  all_goals (first | rfl | exact true_and _)
theorem w_putf {g a ci : Nat} {fs : List AV} {n : Int} (h1 : m.1 a = co ci fs) : wpB tb hs C Q J (.putfield g :: is) ls (vi n :: vr a :: st) m = ((ci = g / 100) ∧ wpB tb hs C Q J is ls (st) (mset m a (co ci (fs.set (g % 100) (vi n))))) := by
  rw [wp_split _ _ _ _ _ _ _ _ _ _ rfl (fun t => by intro h; cases h)]
  dsimp only [sI]
  rw [h1]
  try dsimp only
  all_goals (first | rfl | exact true_and _)
theorem w_putz {g a ci : Nat} {fs : List AV} {n : Int} (h1 : m.1 a = co ci fs) : wpB tb hs C Q J (.dstore g :: is) ls (vi n :: vr a :: st) m = (((n = 0 ∨ n = 1) ∧ ci = g / 100) ∧ wpB tb hs C Q J is ls (st) (mset m a (co ci (fs.set (g % 100) (vi n))))) := by
  rw [wp_split _ _ _ _ _ _ _ _ _ _ rfl (fun t => by intro h; cases h)]
  dsimp only [sI]
  rw [h1]
  try dsimp only
  all_goals (first | rfl | exact true_and _)
theorem w_putr {g a ci : Nat} {fs : List AV} {v : Nat ⊕ (Nat ⊕ Bool)} (h1 : m.1 a = co ci fs) : wpB tb hs C Q J (.putstatic g :: is) ls (.inr v :: vr a :: st) m = ((ci = g / 100) ∧ wpB tb hs C Q J is ls (st) (mset m a (co ci (fs.set (g % 100) (.inr v))))) := by
  rw [wp_split _ _ _ _ _ _ _ _ _ _ rfl (fun t => by intro h; cases h)]
  dsimp only [sI]
  rw [h1]
  try dsimp only
  all_goals (first | rfl | exact true_and _)
theorem w_iaload {a len : Nat} {f : Nat → Int} {j : Int} (h1 : m.1 a = ca 0 len f) : wpB tb hs C Q J (.iaload :: is) ls (vi j :: vr a :: st) m = ((0 ≤ j ∧ j < len) ∧ wpB tb hs C Q J is ls (vi (f j.toNat) :: st) m) := by
  rw [wp_split _ _ _ _ _ _ _ _ _ _ rfl (fun t => by intro h; cases h)]
  dsimp only [sI]
  rw [h1]
  try dsimp only
  all_goals (first | rfl | exact true_and _)
theorem w_ialoads {j : Int}  : wpB tb hs C Q J (.iaload :: is) ls (vi j :: vx 0 :: st) m = ((0 ≤ j ∧ j < tb.2.2.1) ∧ wpB tb hs C Q J is ls (vi (tb.2.2.2 j.toNat) :: st) m) := by
  rw [wp_split _ _ _ _ _ _ _ _ _ _ rfl (fun t => by intro h; cases h)]
  dsimp only [sI]
  all_goals (first | rfl | exact true_and _)
theorem w_ialoadw {j : Int}  : wpB tb hs C Q J (.iaload :: is) ls (vi j :: vx 1 :: st) m = ((0 ≤ j ∧ j < 7) ∧ wpB tb hs C Q J is ls (vi (worthT j.toNat) :: st) m) := by
  rw [wp_split _ _ _ _ _ _ _ _ _ _ rfl (fun t => by intro h; cases h)]
  dsimp only [sI]
  all_goals (first | rfl | exact true_and _)
theorem w_laload {a len : Nat} {f : Nat → Int} {j : Int} (h1 : m.1 a = ca 1 len f) : wpB tb hs C Q J (.laload :: is) ls (vi j :: vr a :: st) m = ((0 ≤ j ∧ j < len) ∧ wpB tb hs C Q J is ls (vl (f j.toNat) :: st) m) := by
  rw [wp_split _ _ _ _ _ _ _ _ _ _ rfl (fun t => by intro h; cases h)]
  dsimp only [sI]
  rw [h1]
  try dsimp only
  all_goals (first | rfl | exact true_and _)
theorem w_baload {a len : Nat} {f : Nat → Int} {j : Int} (h1 : m.1 a = ca 2 len f) : wpB tb hs C Q J (.baload :: is) ls (vi j :: vr a :: st) m = ((0 ≤ j ∧ j < len) ∧ wpB tb hs C Q J is ls (vi (f j.toNat) :: st) m) := by
  rw [wp_split _ _ _ _ _ _ _ _ _ _ rfl (fun t => by intro h; cases h)]
  dsimp only [sI]
  rw [h1]
  try dsimp only
  all_goals (first | rfl | exact true_and _)
theorem w_baloadx {x : Nat} {j : Int}  : wpB tb hs C Q J (.baload :: is) ls (vi j :: vx (x + 2) :: st) m = (((x % 2 = 1 ∧ x / 2 < nStr) ∧ 0 ≤ j ∧ j < (tb.2.1 (x / 2)).length) ∧ wpB tb hs C Q J is ls (vi ((tb.2.1 (x / 2)).getD j.toNat 0) :: st) m) := by
  rw [wp_split _ _ _ _ _ _ _ _ _ _ rfl (fun t => by intro h; cases h)]
  dsimp only [sI]
  all_goals (first | rfl | exact true_and _)
theorem w_aaload {a len : Nat} {f : Nat → Option Nat} {j : Int} (h1 : m.1 a = cr len f) : wpB tb hs C Q J (.aaload :: is) ls (vi j :: vr a :: st) m = ((0 ≤ j ∧ j < len) ∧ wpB tb hs C Q J is ls (ovr (f j.toNat) :: st) m) := by
  rw [wp_split _ _ _ _ _ _ _ _ _ _ rfl (fun t => by intro h; cases h)]
  dsimp only [sI]
  rw [h1]
  try dsimp only
  all_goals (first | rfl | exact true_and _)
theorem w_iastore {a len : Nat} {f : Nat → Int} {j v : Int} (h1 : m.1 a = ca 0 len f) : wpB tb hs C Q J (.iastore :: is) ls (vi v :: vi j :: vr a :: st) m = ((0 ≤ j ∧ j < len) ∧ wpB tb hs C Q J is ls (st) (mset m a (ca 0 len (up f j.toNat v)))) := by
  rw [wp_split _ _ _ _ _ _ _ _ _ _ rfl (fun t => by intro h; cases h)]
  dsimp only [sI]
  rw [h1]
  try dsimp only
  all_goals (first | rfl | exact true_and _)
theorem w_lastore {a len : Nat} {f : Nat → Int} {j v : Int} (h1 : m.1 a = ca 1 len f) : wpB tb hs C Q J (.lastore :: is) ls (vl v :: vi j :: vr a :: st) m = ((0 ≤ j ∧ j < len) ∧ wpB tb hs C Q J is ls (st) (mset m a (ca 1 len (up f j.toNat v)))) := by
  rw [wp_split _ _ _ _ _ _ _ _ _ _ rfl (fun t => by intro h; cases h)]
  dsimp only [sI]
  rw [h1]
  try dsimp only
  all_goals (first | rfl | exact true_and _)
theorem w_bastore {a len : Nat} {f : Nat → Int} {j v : Int} (h1 : m.1 a = ca 2 len f) : wpB tb hs C Q J (.bastore :: is) ls (vi v :: vi j :: vr a :: st) m = (((v = 0 ∨ v = 1) ∧ (0 ≤ j ∧ j < len)) ∧ wpB tb hs C Q J is ls (st) (mset m a (ca 2 len (up f j.toNat v)))) := by
  rw [wp_split _ _ _ _ _ _ _ _ _ _ rfl (fun t => by intro h; cases h)]
  dsimp only [sI]
  rw [h1]
  try dsimp only
  all_goals (first | rfl | exact true_and _)
theorem w_aastore {a v len : Nat} {f : Nat → Option Nat} {j : Int} (h1 : m.1 a = cr len f) : wpB tb hs C Q J (.aastore :: is) ls (vr v :: vi j :: vr a :: st) m = (((∃ fs, m.1 v = co 8 fs) ∧ (0 ≤ j ∧ j < len)) ∧ wpB tb hs C Q J is ls (st) (mset m a (cr len (up f j.toNat (some v))))) := by
  rw [wp_split _ _ _ _ _ _ _ _ _ _ rfl (fun t => by intro h; cases h)]
  dsimp only [sI]
  rw [h1]
  try dsimp only
  all_goals (first | rfl | exact true_and _)
theorem w_alen {a kd len : Nat} {f : Nat → Int} (h1 : m.1 a = ca kd len f) : wpB tb hs C Q J (.arraylength :: is) ls (vr a :: st) m = ((len < 2147483648) ∧ wpB tb hs C Q J is ls (vi len :: st) m) := by
  rw [wp_split _ _ _ _ _ _ _ _ _ _ rfl (fun t => by intro h; cases h)]
  dsimp only [sI]
  rw [h1]
  try dsimp only
  all_goals (first | rfl | exact true_and _)
theorem w_alens   : wpB tb hs C Q J (.arraylength :: is) ls (vx 0 :: st) m = wpB tb hs C Q J is ls (vi tb.2.2.1 :: st) m := by
  rw [wp_split _ _ _ _ _ _ _ _ _ _ rfl (fun t => by intro h; cases h)]
  dsimp only [sI]
  all_goals (first | rfl | exact true_and _)
theorem w_alenw   : wpB tb hs C Q J (.arraylength :: is) ls (vx 1 :: st) m = wpB tb hs C Q J is ls (vi 7 :: st) m := by
  rw [wp_split _ _ _ _ _ _ _ _ _ _ rfl (fun t => by intro h; cases h)]
  dsimp only [sI]
  all_goals (first | rfl | exact true_and _)
theorem w_alenx {x : Nat}  : wpB tb hs C Q J (.arraylength :: is) ls (vx (x + 2) :: st) m = ((x % 2 = 1 ∧ x / 2 < nStr) ∧ wpB tb hs C Q J is ls (vi (tb.2.1 (x / 2)).length :: st) m) := by
  rw [wp_split _ _ _ _ _ _ _ _ _ _ rfl (fun t => by intro h; cases h)]
  dsimp only [sI]
  all_goals (first | rfl | exact true_and _)
theorem w_newi {n : Int}  : wpB tb hs C Q J ((.newarray .int) :: is) ls (vi n :: st) m = ((0 ≤ n ∧ n < 1000000) ∧ wpB tb hs C Q J is ls (vr m.2.1 :: st) (mnew m (ca 0 n.toNat (fun _ => 0)) n.toNat)) := by
  rw [wp_split _ _ _ _ _ _ _ _ _ _ rfl (fun t => by intro h; cases h)]
  dsimp only [sI]
  all_goals (first | rfl | exact true_and _)
theorem w_newl {n : Int}  : wpB tb hs C Q J ((.newarray .long) :: is) ls (vi n :: st) m = ((0 ≤ n ∧ n < 1000000) ∧ wpB tb hs C Q J is ls (vr m.2.1 :: st) (mnew m (ca 1 n.toNat (fun _ => 0)) n.toNat)) := by
  rw [wp_split _ _ _ _ _ _ _ _ _ _ rfl (fun t => by intro h; cases h)]
  dsimp only [sI]
  all_goals (first | rfl | exact true_and _)
theorem w_newz {n : Int}  : wpB tb hs C Q J ((.newarray .boolean) :: is) ls (vi n :: st) m = ((0 ≤ n ∧ n < 1000000) ∧ wpB tb hs C Q J is ls (vr m.2.1 :: st) (mnew m (ca 2 n.toNat (fun _ => 0)) n.toNat)) := by
  rw [wp_split _ _ _ _ _ _ _ _ _ _ rfl (fun t => by intro h; cases h)]
  dsimp only [sI]
  all_goals (first | rfl | exact true_and _)
theorem w_newa {n : Int} {q : Nat}  : wpB tb hs C Q J ((.anewarray q) :: is) ls (vi n :: st) m = ((0 ≤ n ∧ n < 1000000) ∧ wpB tb hs C Q J is ls (vr m.2.1 :: st) (mnew m (cr n.toNat (fun _ => none)) n.toNat)) := by
  rw [wp_split _ _ _ _ _ _ _ _ _ _ rfl (fun t => by intro h; cases h)]
  dsimp only [sI]
  all_goals (first | rfl | exact true_and _)
theorem w_new {ci : Nat}  : wpB tb hs C Q J ((.new ci) :: is) ls st m = wpB tb hs C Q J is ls (vr m.2.1 :: st) (mnew m (co ci (tb.1 ci)) (tb.1 ci).length) := by
  rw [wp_split _ _ _ _ _ _ _ _ _ _ rfl (fun t => by intro h; cases h)]
  dsimp only [sI]
  all_goals (first | rfl | exact true_and _)
theorem w_init {k a : Nat}  : wpB tb hs C Q J ((.invokespecial k) :: is) ls (vr a :: st) m = ((st.length ≤ 8) ∧ wpB tb hs C Q J is ls (st) m) := by
  rw [wp_split _ _ _ _ _ _ _ _ _ _ rfl (fun t => by intro h; cases h)]
  dsimp only [sI]
  all_goals (first | rfl | exact true_and _)
theorem w_sval {x : Nat}  : wpB tb hs C Q J ((.fload 0) :: is) ls (vx (x + 2) :: st) m = ((x % 2 = 0 ∧ x / 2 < nStr) ∧ wpB tb hs C Q J is ls (vx (x + 3) :: st) m) := by
  rw [wp_split _ _ _ _ _ _ _ _ _ _ rfl (fun t => by intro h; cases h)]
  dsimp only [sI]
  all_goals (first | rfl | exact true_and _)
theorem w_scod {x : Nat}  : wpB tb hs C Q J ((.fload 1) :: is) ls (vx (x + 2) :: st) m = ((x % 2 = 0 ∧ x / 2 < nStr) ∧ wpB tb hs C Q J is ls (vi 0 :: st) m) := by
  rw [wp_split _ _ _ _ _ _ _ _ _ _ rfl (fun t => by intro h; cases h)]
  dsimp only [sI]
  all_goals (first | rfl | exact true_and _)
theorem w_cast {k a len : Nat} {f : Nat → Int} (h1 : m.1 a = ca 0 len f) : wpB tb hs C Q J ((.checkcast k) :: is) ls (vr a :: st) m = wpB tb hs C Q J is ls (vr a :: st) m := by
  rw [wp_split _ _ _ _ _ _ _ _ _ _ rfl (fun t => by intro h; cases h)]
  dsimp only [sI]
  rw [h1]
  try dsimp only
  all_goals (first | rfl | exact true_and _)
theorem w_min {x y : Int}  : wpB tb hs C Q J ((.invokestatic 0) :: is) ls (vi y :: vi x :: st) m = ((st.length ≤ 8 ∧ R32 x ∧ R32 y) ∧ wpB tb hs C Q J is ls (vi (if y < x then y else x) :: st) m) := by
  rw [wp_split _ _ _ _ _ _ _ _ _ _ rfl (fun t => by intro h; cases h)]
  dsimp only [sI]
  all_goals (first | rfl | exact true_and _)
theorem w_max {x y : Int}  : wpB tb hs C Q J ((.invokestatic 1) :: is) ls (vi y :: vi x :: st) m = ((st.length ≤ 8 ∧ R32 x ∧ R32 y) ∧ wpB tb hs C Q J is ls (vi (if x < y then y else x) :: st) m) := by
  rw [wp_split _ _ _ _ _ _ _ _ _ _ rfl (fun t => by intro h; cases h)]
  dsimp only [sI]
  all_goals (first | rfl | exact true_and _)
theorem w_copy {a b la lb : Nat} {f g : Nat → Int} {n dp sp : Int} (h1 : m.1 a = ca 0 la f) (h2 : m.1 b = ca 0 lb g) : wpB tb hs C Q J ((.invokestatic 2) :: is) ls (vi n :: vi dp :: vr b :: vi sp :: vr a :: st) m = ((st.length ≤ 8 ∧ (0 ≤ n ∧ 0 ≤ sp ∧ 0 ≤ dp) ∧ (sp + n ≤ la ∧ dp + n ≤ lb) ∧ la < 1000000 ∧ lb < 1000000) ∧ wpB tb hs C Q J is ls (st) (mset m b (ca 0 lb (cpyI f g sp.toNat dp.toNat n.toNat)))) := by
  rw [wp_split _ _ _ _ _ _ _ _ _ _ rfl (fun t => by intro h; cases h)]
  dsimp only [sI]
  rw [h1]
  try dsimp only
  rw [h2]
  try dsimp only
  all_goals (first | rfl | exact true_and _)
theorem w_clone {a len : Nat} {f : Nat → Int} (h1 : m.1 a = ca 0 len f) : wpB tb hs C Q J ((.invokestatic 3) :: is) ls (vr a :: st) m = ((st.length ≤ 8 ∧ len < 1000000) ∧ wpB tb hs C Q J is ls (vr m.2.1 :: st) (mnew m (ca 0 len f) len)) := by
  rw [wp_split _ _ _ _ _ _ _ _ _ _ rfl (fun t => by intro h; cases h)]
  dsimp only [sI]
  rw [h1]
  try dsimp only
  all_goals (first | rfl | exact true_and _)
theorem w_getfm {g a : Nat} : wpB tb hs C Q J (.getfield g :: is) ls (vr a :: st) m = (match m.1 a with
    | .inl (ci, fs) => (match fs[g % 100]? with
      | some v => ci = g / 100 ∧ wpB tb hs C Q J is ls (v :: st) m
      | none => False)
    | _ => False) := by
  rw [wp_split _ _ _ _ _ _ _ _ _ _ rfl (fun t => by intro h; cases h)]
  dsimp only [sI]
  rcases m.1 a with ⟨ci, fs⟩ | (⟨kd, len, f⟩ | ⟨len, f⟩) <;> try dsimp only
  all_goals first | rfl | (rcases fs[g % 100]? with _ | v <;> rfl) | (rcases kd with _ | (_ | (_ | kd)) <;> rfl) | exact true_and _ | (rcases kd with _ | (_ | (_ | kd)) <;> first | rfl | exact true_and _)
theorem w_putfm {g a : Nat} {n : Int} : wpB tb hs C Q J (.putfield g :: is) ls (vi n :: vr a :: st) m = (match m.1 a with
    | .inl (ci, fs) => (ci = g / 100 ∧ wpB tb hs C Q J is ls (st) (mset m a (co ci (fs.set (g % 100) (vi n)))))
    | _ => False) := by
  rw [wp_split _ _ _ _ _ _ _ _ _ _ rfl (fun t => by intro h; cases h)]
  dsimp only [sI]
  rcases m.1 a with ⟨ci, fs⟩ | (⟨kd, len, f⟩ | ⟨len, f⟩) <;> try dsimp only
  all_goals first | rfl | (rcases fs[g % 100]? with _ | v <;> rfl) | (rcases kd with _ | (_ | (_ | kd)) <;> rfl) | exact true_and _ | (rcases kd with _ | (_ | (_ | kd)) <;> first | rfl | exact true_and _)
theorem w_putzm {g a : Nat} {n : Int} : wpB tb hs C Q J (.dstore g :: is) ls (vi n :: vr a :: st) m = (match m.1 a with
    | .inl (ci, fs) => (((n = 0 ∨ n = 1) ∧ ci = g / 100) ∧ wpB tb hs C Q J is ls (st) (mset m a (co ci (fs.set (g % 100) (vi n)))))
    | _ => False) := by
  rw [wp_split _ _ _ _ _ _ _ _ _ _ rfl (fun t => by intro h; cases h)]
  dsimp only [sI]
  rcases m.1 a with ⟨ci, fs⟩ | (⟨kd, len, f⟩ | ⟨len, f⟩) <;> try dsimp only
  all_goals first | rfl | (rcases fs[g % 100]? with _ | v <;> rfl) | (rcases kd with _ | (_ | (_ | kd)) <;> rfl) | exact true_and _ | (rcases kd with _ | (_ | (_ | kd)) <;> first | rfl | exact true_and _)
theorem w_putrm {g a : Nat} {v : Nat ⊕ (Nat ⊕ Bool)} : wpB tb hs C Q J (.putstatic g :: is) ls (.inr v :: vr a :: st) m = (match m.1 a with
    | .inl (ci, fs) => (ci = g / 100 ∧ wpB tb hs C Q J is ls (st) (mset m a (co ci (fs.set (g % 100) (.inr v)))))
    | _ => False) := by
  rw [wp_split _ _ _ _ _ _ _ _ _ _ rfl (fun t => by intro h; cases h)]
  dsimp only [sI]
  rcases m.1 a with ⟨ci, fs⟩ | (⟨kd, len, f⟩ | ⟨len, f⟩) <;> try dsimp only
  all_goals first | rfl | (rcases fs[g % 100]? with _ | v <;> rfl) | (rcases kd with _ | (_ | (_ | kd)) <;> rfl) | exact true_and _ | (rcases kd with _ | (_ | (_ | kd)) <;> first | rfl | exact true_and _)
theorem w_ialoadm {a : Nat} {j : Int} : wpB tb hs C Q J (.iaload :: is) ls (vi j :: vr a :: st) m = (match m.1 a with
    | .inr (.inl (0, len, f)) => ((0 ≤ j ∧ j < len) ∧ wpB tb hs C Q J is ls (vi (f j.toNat) :: st) m)
    | _ => False) := by
  rw [wp_split _ _ _ _ _ _ _ _ _ _ rfl (fun t => by intro h; cases h)]
  dsimp only [sI]
  rcases m.1 a with ⟨ci, fs⟩ | (⟨kd, len, f⟩ | ⟨len, f⟩) <;> try dsimp only
  all_goals first | rfl | (rcases fs[g % 100]? with _ | v <;> rfl) | (rcases kd with _ | (_ | (_ | kd)) <;> rfl) | exact true_and _ | (rcases kd with _ | (_ | (_ | kd)) <;> first | rfl | exact true_and _)
theorem w_laloadm {a : Nat} {j : Int} : wpB tb hs C Q J (.laload :: is) ls (vi j :: vr a :: st) m = (match m.1 a with
    | .inr (.inl (1, len, f)) => ((0 ≤ j ∧ j < len) ∧ wpB tb hs C Q J is ls (vl (f j.toNat) :: st) m)
    | _ => False) := by
  rw [wp_split _ _ _ _ _ _ _ _ _ _ rfl (fun t => by intro h; cases h)]
  dsimp only [sI]
  rcases m.1 a with ⟨ci, fs⟩ | (⟨kd, len, f⟩ | ⟨len, f⟩) <;> try dsimp only
  all_goals first | rfl | (rcases fs[g % 100]? with _ | v <;> rfl) | (rcases kd with _ | (_ | (_ | kd)) <;> rfl) | exact true_and _ | (rcases kd with _ | (_ | (_ | kd)) <;> first | rfl | exact true_and _)
theorem w_baloadm {a : Nat} {j : Int} : wpB tb hs C Q J (.baload :: is) ls (vi j :: vr a :: st) m = (match m.1 a with
    | .inr (.inl (2, len, f)) => ((0 ≤ j ∧ j < len) ∧ wpB tb hs C Q J is ls (vi (f j.toNat) :: st) m)
    | _ => False) := by
  rw [wp_split _ _ _ _ _ _ _ _ _ _ rfl (fun t => by intro h; cases h)]
  dsimp only [sI]
  rcases m.1 a with ⟨ci, fs⟩ | (⟨kd, len, f⟩ | ⟨len, f⟩) <;> try dsimp only
  all_goals first | rfl | (rcases fs[g % 100]? with _ | v <;> rfl) | (rcases kd with _ | (_ | (_ | kd)) <;> rfl) | exact true_and _ | (rcases kd with _ | (_ | (_ | kd)) <;> first | rfl | exact true_and _)
theorem w_aaloadm {a : Nat} {j : Int} : wpB tb hs C Q J (.aaload :: is) ls (vi j :: vr a :: st) m = (match m.1 a with
    | .inr (.inr (len, f)) => ((0 ≤ j ∧ j < len) ∧ wpB tb hs C Q J is ls (ovr (f j.toNat) :: st) m)
    | _ => False) := by
  rw [wp_split _ _ _ _ _ _ _ _ _ _ rfl (fun t => by intro h; cases h)]
  dsimp only [sI]
  rcases m.1 a with ⟨ci, fs⟩ | (⟨kd, len, f⟩ | ⟨len, f⟩) <;> try dsimp only
  all_goals first | rfl | (rcases fs[g % 100]? with _ | v <;> rfl) | (rcases kd with _ | (_ | (_ | kd)) <;> rfl) | exact true_and _ | (rcases kd with _ | (_ | (_ | kd)) <;> first | rfl | exact true_and _)
theorem w_iastorem {a : Nat} {j v : Int} : wpB tb hs C Q J (.iastore :: is) ls (vi v :: vi j :: vr a :: st) m = (match m.1 a with
    | .inr (.inl (0, len, f)) => ((0 ≤ j ∧ j < len) ∧ wpB tb hs C Q J is ls (st) (mset m a (ca 0 len (up f j.toNat v))))
    | _ => False) := by
  rw [wp_split _ _ _ _ _ _ _ _ _ _ rfl (fun t => by intro h; cases h)]
  dsimp only [sI]
  rcases m.1 a with ⟨ci, fs⟩ | (⟨kd, len, f⟩ | ⟨len, f⟩) <;> try dsimp only
  all_goals first | rfl | (rcases fs[g % 100]? with _ | v <;> rfl) | (rcases kd with _ | (_ | (_ | kd)) <;> rfl) | exact true_and _ | (rcases kd with _ | (_ | (_ | kd)) <;> first | rfl | exact true_and _)
theorem w_lastorem {a : Nat} {j v : Int} : wpB tb hs C Q J (.lastore :: is) ls (vl v :: vi j :: vr a :: st) m = (match m.1 a with
    | .inr (.inl (1, len, f)) => ((0 ≤ j ∧ j < len) ∧ wpB tb hs C Q J is ls (st) (mset m a (ca 1 len (up f j.toNat v))))
    | _ => False) := by
  rw [wp_split _ _ _ _ _ _ _ _ _ _ rfl (fun t => by intro h; cases h)]
  dsimp only [sI]
  rcases m.1 a with ⟨ci, fs⟩ | (⟨kd, len, f⟩ | ⟨len, f⟩) <;> try dsimp only
  all_goals first | rfl | (rcases fs[g % 100]? with _ | v <;> rfl) | (rcases kd with _ | (_ | (_ | kd)) <;> rfl) | exact true_and _ | (rcases kd with _ | (_ | (_ | kd)) <;> first | rfl | exact true_and _)
theorem w_bastorem {a : Nat} {j v : Int} : wpB tb hs C Q J (.bastore :: is) ls (vi v :: vi j :: vr a :: st) m = (match m.1 a with
    | .inr (.inl (2, len, f)) => (((v = 0 ∨ v = 1) ∧ (0 ≤ j ∧ j < len)) ∧ wpB tb hs C Q J is ls (st) (mset m a (ca 2 len (up f j.toNat v))))
    | _ => False) := by
  rw [wp_split _ _ _ _ _ _ _ _ _ _ rfl (fun t => by intro h; cases h)]
  dsimp only [sI]
  rcases m.1 a with ⟨ci, fs⟩ | (⟨kd, len, f⟩ | ⟨len, f⟩) <;> try dsimp only
  all_goals first | rfl | (rcases fs[g % 100]? with _ | v <;> rfl) | (rcases kd with _ | (_ | (_ | kd)) <;> rfl) | exact true_and _ | (rcases kd with _ | (_ | (_ | kd)) <;> first | rfl | exact true_and _)
theorem w_aastorem {a v : Nat} {j : Int} : wpB tb hs C Q J (.aastore :: is) ls (vr v :: vi j :: vr a :: st) m = (match m.1 a with
    | .inr (.inr (len, f)) => (((∃ fs, m.1 v = co 8 fs) ∧ (0 ≤ j ∧ j < len)) ∧ wpB tb hs C Q J is ls (st) (mset m a (cr len (up f j.toNat (some v)))))
    | _ => False) := by
  rw [wp_split _ _ _ _ _ _ _ _ _ _ rfl (fun t => by intro h; cases h)]
  dsimp only [sI]
  rcases m.1 a with ⟨ci, fs⟩ | (⟨kd, len, f⟩ | ⟨len, f⟩) <;> try dsimp only
  all_goals first | rfl | (rcases fs[g % 100]? with _ | v <;> rfl) | (rcases kd with _ | (_ | (_ | kd)) <;> rfl) | exact true_and _ | (rcases kd with _ | (_ | (_ | kd)) <;> first | rfl | exact true_and _)
theorem w_alenm {a : Nat} : wpB tb hs C Q J (.arraylength :: is) ls (vr a :: st) m = (match m.1 a with
    | .inr (.inl (_, len, _)) => (len < 2147483648 ∧ wpB tb hs C Q J is ls (vi len :: st) m)
    | _ => False) := by
  rw [wp_split _ _ _ _ _ _ _ _ _ _ rfl (fun t => by intro h; cases h)]
  dsimp only [sI]
  rcases m.1 a with ⟨ci, fs⟩ | (⟨kd, len, f⟩ | ⟨len, f⟩) <;> try dsimp only
  all_goals first | rfl | (rcases fs[g % 100]? with _ | v <;> rfl) | (rcases kd with _ | (_ | (_ | kd)) <;> rfl) | exact true_and _ | (rcases kd with _ | (_ | (_ | kd)) <;> first | rfl | exact true_and _)
theorem w_castm {k a : Nat} : wpB tb hs C Q J ((.checkcast k) :: is) ls (vr a :: st) m = (match m.1 a with
    | .inr (.inl (0, _, _)) => wpB tb hs C Q J is ls (vr a :: st) m
    | _ => False) := by
  rw [wp_split _ _ _ _ _ _ _ _ _ _ rfl (fun t => by intro h; cases h)]
  dsimp only [sI]
  rcases m.1 a with ⟨ci, fs⟩ | (⟨kd, len, f⟩ | ⟨len, f⟩) <;> try dsimp only
  all_goals first | rfl | (rcases fs[g % 100]? with _ | v <;> rfl) | (rcases kd with _ | (_ | (_ | kd)) <;> rfl) | exact true_and _ | (rcases kd with _ | (_ | (_ | kd)) <;> first | rfl | exact true_and _)
theorem w_clonem {a : Nat} : wpB tb hs C Q J ((.invokestatic 3) :: is) ls (vr a :: st) m = (match m.1 a with
    | .inr (.inl (0, len, f)) => ((st.length ≤ 8 ∧ len < 1000000) ∧ wpB tb hs C Q J is ls (vr m.2.1 :: st) (mnew m (ca 0 len f) len))
    | _ => False) := by
  rw [wp_split _ _ _ _ _ _ _ _ _ _ rfl (fun t => by intro h; cases h)]
  dsimp only [sI]
  rcases m.1 a with ⟨ci, fs⟩ | (⟨kd, len, f⟩ | ⟨len, f⟩) <;> try dsimp only
  all_goals first | rfl | (rcases fs[g % 100]? with _ | v <;> rfl) | (rcases kd with _ | (_ | (_ | kd)) <;> rfl) | exact true_and _ | (rcases kd with _ | (_ | (_ | kd)) <;> first | rfl | exact true_and _)
theorem w_goto {t : Int} : wpB tb hs C Q J (.goto t :: is) ls st m = J t.toNat ls st m := by
  rfl
theorem w_fall {t : Int} : wpB tb hs C Q J (.jsr t :: is) ls st m = J t.toNat ls st m := by
  rfl
theorem w_if {c : ClassFile.Cond} {t x : Int} : wpB tb hs C Q J (.ifCond c t :: is) ls (vi x :: st) m = (R32 x ∧ (cI c x 0 → J t.toNat ls st m) ∧ (¬ cI c x 0 → wpB tb hs C Q J is ls st m)) := by
  rfl
theorem w_ifc {c : ClassFile.Cond} {t x y : Int} : wpB tb hs C Q J (.if_icmp c t :: is) ls (vi y :: vi x :: st) m = (((R32 x ∧ R32 y) ∨ x = y) ∧ (cI c x y → J t.toNat ls st m) ∧ (¬ cI c x y → wpB tb hs C Q J is ls st m)) := by
  rfl
theorem w_ifnull {a : Nat} {t : Int} : wpB tb hs C Q J (.ifnull t :: is) ls (vr a :: st) m = wpB tb hs C Q J is ls st m := by
  rfl
theorem w_ifnulln {t : Int} : wpB tb hs C Q J (.ifnull t :: is) ls (vn :: st) m = J t.toNat ls st m := by
  rfl
theorem w_ifnonnull {a : Nat} {t : Int} : wpB tb hs C Q J (.ifnonnull t :: is) ls (vr a :: st) m = J t.toNat ls st m := by
  rfl
theorem w_ifnonnulln {t : Int} : wpB tb hs C Q J (.ifnonnull t :: is) ls (vn :: st) m = wpB tb hs C Q J is ls st m := by
  rfl
theorem w_switch {d x : Int} {ps : Array (Int × Int)} : wpB tb hs C Q J (.lookupswitch d ps :: is) ls (vi x :: st) m = (R32 x ∧ swB (fun t => J t ls st m) d ps.toList x) := by
  rfl
theorem w_ireturn {x : Int} : wpB tb hs C Q J (.ireturn :: is) ls [vi x] m = Q (.inl (some (vi x))) m := by
  rfl
theorem w_zreturn {x : Int} : wpB tb hs C Q J (.freturn :: is) ls [vi x] m = ((x = 0 ∨ x = 1) ∧ Q (.inl (some (vi x))) m) := by
  rfl
theorem w_breturn {x : Int} : wpB tb hs C Q J (.dreturn :: is) ls [vi x] m = ((-128 ≤ x ∧ x < 128) ∧ Q (.inl (some (vi x))) m) := by
  rfl
theorem w_creturn {x : Int} : wpB tb hs C Q J (.lreturn :: is) ls [vi x] m = ((0 ≤ x ∧ x < 65536) ∧ Q (.inl (some (vi x))) m) := by
  rfl
theorem w_areturn {a : Nat} : wpB tb hs C Q J (.areturn :: is) ls [vr a] m = Q (.inl (some (vr a))) m := by
  rfl
theorem w_areturnn  : wpB tb hs C Q J (.areturn :: is) ls [vn] m = Q (.inl (some vn)) m := by
  rfl
theorem w_return  : wpB tb hs C Q J (.return_ :: is) ls [] m = Q (.inl none) m := by
  rfl
theorem w_throw {E : Nat} : wpB tb hs C Q J (.invokedynamic E :: is) ls [] m = Q (.inr E) (mthrow m) := by
  rfl
theorem w_call {mid n : Nat} : wpB tb hs C Q J (.invokeinterface mid n :: is) ls st m = ((n ≤ st.length ∧ (st.length ≤ n + 4 ∨ (noLg (st.drop n) = true ∧ st.length ≤ n + 8))) ∧ C mid (st.take n).reverse m (fun o m9 => match o with
    | .inl r => wpB tb hs C Q J is ls (r.toList ++ st.drop n) m9
    | .inr E => match hs E with
      | none => Q (.inr E) m9
      | some (k, L) => J L (ls.set k vu) [] m9)) := by
  rfl
end Rules
theorem mset_1 {m : AM} {a b : Nat} {c : AC} : (mset m a c).1 b = if b = a then c else m.1 b := rfl
theorem mset_2 {m : AM} {a : Nat} {c : AC} : (mset m a c).2 = m.2 := rfl
theorem mnew_1 {m : AM} {b w : Nat} {c : AC} : (mnew m c w).1 b = if b = m.2.1 then c else m.1 b := rfl
theorem mnew_2 {m : AM} {w : Nat} {c : AC} : (mnew m c w).2 = (m.2.1 + 1, m.2.2.1 + 1, m.2.2.2 + w) := rfl
/-- at a label of a method -/
def At (tb : Tab) (d M : Nat) (K : Out → AM → Prop) (L : Nat) (ls st : List AV) (m : AM) : Prop := Ex tb (pg.2.1 M) (Runs tb pg d) (pg.1 M) K L ls st m
def In (tb : Tab) (d M : Nat) (K : Out → AM → Prop) (is : List Instr) (ls st : List AV) (m : AM) : Prop := wpB tb (pg.2.1 M) (Runs tb pg d) K (At tb d M K) is ls st m
theorem At.of {tb : Tab} {d M : Nat} {K : Out → AM → Prop} {L : Nat} {ls st : List AV} {m : AM} {is : List Instr} (hc : pg.1 M L = is) (h : wpB tb (pg.2.1 M) (Runs tb pg d) K (At tb d M K) is ls st m) : At tb d M K L ls st m := by
  subst hc
  exact Ex_fold (CMono.refl_of d) h
theorem Runs.of {tb : Tab} {d M : Nat} {args : List AV} {m : AM} {K : Out → AM → Prop} {al : List AV} {n : Nat} (hr : recv (rcvM M) args m) (ha : argL args = al) (hn : (mt M).2.2.1 = al.length + n) (hg : lgOK (pg.2.2.2.2 M) 0 al) (h : At tb d M K 0 (al ++ List.replicate n vu) [] m) : Runs tb pg (d + 1) M args m K := by
  have e : pg.2.2.1 M = al.length + n := hn
  refine ⟨⟨hr, ?_, ?_⟩, ?_⟩
  · rw [ha, e]; exact Nat.le_add_right _ _
  · rw [ha]; exact hg
  · rw [ha, e, Nat.add_sub_cancel_left]; exact h
