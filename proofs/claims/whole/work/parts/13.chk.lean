/-! ===== CHECKS BY PROGRAM: that blocks stand in the bytes ===== -/
/-- the words that a pool entry of a kind needs: (kind, value) -/
def cpW (mt : MTab) (own : String) (idx : Nat) (kind : Nat) (v : Int) : Jvm.Cond := match kind with
  | 1 => match vwCl[v.toNat / 100]? with
    | some r => .fieldLink own idx (r.2.1 (v.toNat % 100)).1 (r.2.1 (v.toNat % 100)).2.1 (r.2.1 (v.toNat % 100)).2.2.1
    | none => .returned
  | 2 => .methodLink own idx (mt v.toNat).1
  | 3 => match vwCl[v.toNat]? with
    | some r => .classLink own idx r.1
    | none => .returned
  | 5 => .methodLink own idx Lib.Math.min.name
  | 6 => .methodLink own idx Lib.Math.max.name
  | 7 => .methodLink own idx arraycopyName
  | 8 => .methodLink own idx Lib.objectInit
  | 9 => .methodLink own idx ⟨"[I", "clone", "()Ljava/lang/Object;"⟩
  | 11 => .classLink own idx "[I"
  | 12 => .classLink own idx (excN v.toNat)
  | 13 => .fieldLink own idx "SnowNames$Strikes" "WORTH" "[I"
  | 14 => .fieldLink own idx "java/lang/String" "COMPACT_STRINGS" "Z"
  | 15 => .fieldLink own idx "jdk/internal/util/Preconditions" "SIOOBE_FORMATTER" "Ljava/util/function/BiFunction;"
  | 16 => .fieldLink own idx "java/lang/String" "value" "[B"
  | 17 => .fieldLink own idx "java/lang/String" "coder" "B"
  | 18 => .constant own idx (Int32.ofInt v)
  | 19 => .constantLong own idx (Int64.ofInt v)
  | 21 => .methodLink own idx (Bundle.initS (excN v.toNat))
  | _ => .returned
/-- a word stands at a place of the tables -/
def memAt (i : Nat) (w : Jvm.Cond) : Bool := decide (lw_tbl[i]? = some w) && goodWord w
theorem memAt_ok {i : Nat} {w : Jvm.Cond} (h : memAt i w = true) : w ∈ AWs := by
  unfold memAt at h
  rw [Bool.and_eq_true] at h
  exact List.mem_filter.mpr ⟨List.mem_of_getElem? (of_decide_eq_true h.1), h.2⟩
/-- a pool entry: index, kind, value, the place of its word -/
abbrev CPE : Type := Nat × Nat × Int × Nat
def cpCk (mt : MTab) (own : String) (q : CPE) : Bool := match q.2.1 with
  | 4 => decide ((own, q.1, q.2.2.1.toNat) ∈ strT)
  | 20 => decide (Jvm.Cond.methodLinkNest own q.1 (mt q.2.2.1.toNat).1 "SnowNames" ∈ nwL)
  | k => memAt q.2.2.2 (cpW mt own q.1 k q.2.2.1)
def cpOK (mt : MTab) (own : String) (idx kind : Nat) (v : Int) : Prop := match kind with
  | 4 => (own, idx, v.toNat) ∈ strT
  | 20 => Jvm.Cond.methodLinkNest own idx (mt v.toNat).1 "SnowNames" ∈ nwL
  | k => cpW mt own idx k v ∈ AWs
theorem cpCk_ok {mt : MTab} {own : String} {q : CPE} (h : cpCk mt own q = true) : cpOK mt own q.1 q.2.1 q.2.2.1 := by
  unfold cpCk at h
  unfold cpOK
  split at h
  next e => exact of_decide_eq_true h
  next e => exact of_decide_eq_true h
  next e1 e2 => exact memAt_ok h
def lk (idx : Nat) : List CPE → Option (Nat × Int)
  | [] => none
  | q :: qs => if Nat.beq q.1 idx = true then some (q.2.1, q.2.2.1) else lk idx qs
theorem lk_ok {mt : MTab} {own : String} {idx kind : Nat} {v : Int} : ∀ {l : List CPE}, (l.all (cpCk mt own)) = true → lk idx l = some (kind, v) → cpOK mt own idx kind v := by
  intro l
  induction l with
  | nil => intro _ h; cases h
  | cons q qs ih =>
    intro ha h
    rw [List.all_cons, Bool.and_eq_true] at ha
    unfold lk at h
    split at h
    next e =>
      have e2 := Nat.eq_of_beq_eq_true e
      cases h
      rw [← e2]
      exact cpCk_ok ha.1
    next => exact ih ha.2 h
/-- a field: kind of its type (0 int, 1 reference, 2 boolean), whether it is final -/
def fkOK (g : Nat) (q : Nat × Bool) : Prop := ∃ r, vwCl[g / 100]? = some r ∧ g % 100 < r.2.2 ∧ (r.2.1 (g % 100)).1 = r.1 ∧ (r.2.1 (g % 100)).2.2.2 = q.2 ∧
  ((q.1 = 0 ∧ parseFieldDescriptor (r.2.1 (g % 100)).2.2.1 = some .int) ∨ (q.1 = 2 ∧ parseFieldDescriptor (r.2.1 (g % 100)).2.2.1 = some .boolean) ∨ (q.1 = 1 ∧ ((∃ n, parseFieldDescriptor (r.2.1 (g % 100)).2.2.1 = some (.object n)) ∨ ∃ t, parseFieldDescriptor (r.2.1 (g % 100)).2.2.1 = some (.array t))))
def fkCk (g : Nat) (q : Nat × Bool) : Bool := match vwCl[g / 100]? with
  | none => false
  | some r => decide (g % 100 < r.2.2) && decide ((r.2.1 (g % 100)).1 = r.1) && decide ((r.2.1 (g % 100)).2.2.2 = q.2) && (match q.1, parseFieldDescriptor (r.2.1 (g % 100)).2.2.1 with
    | 0, some .int => true
    | 2, some .boolean => true
    | 1, some (.object _) => true
    | 1, some (.array _) => true
    | _, _ => false)
theorem fkCk_ok {g : Nat} {q : Nat × Bool} (h : fkCk g q = true) : fkOK g q := by
  unfold fkCk at h
  split at h
  next => cases h
  next r e =>
    simp only [Bool.and_eq_true, decide_eq_true_eq] at h
    obtain ⟨⟨⟨h1, h2⟩, h3⟩, h4⟩ := h
    refine ⟨r, e, h1, h2, h3, ?_⟩
    split at h4
    next e1 e2 => exact Or.inl ⟨e1, e2⟩
    next e1 e2 => exact Or.inr (Or.inl ⟨e1, e2⟩)
    next n e1 e2 => exact Or.inr (Or.inr ⟨e1, Or.inl ⟨n, e2⟩⟩)
    next n e1 e2 => exact Or.inr (Or.inr ⟨e1, Or.inr ⟨n, e2⟩⟩)
    next => cases h4
def fkL (l : List (Nat × Nat × Bool)) (g : Nat) : Option (Nat × Bool) := match l with
  | [] => none
  | q :: qs => if Nat.beq q.1 g = true then some q.2 else fkL qs g
theorem fkL_ok {g : Nat} {q : Nat × Bool} : ∀ {l : List (Nat × Nat × Bool)}, (l.all fun z => fkCk z.1 z.2) = true → fkL l g = some q → fkOK g q := by
  intro l
  induction l with
  | nil => intro _ h; cases h
  | cons z zs ih =>
    intro ha h
    rw [List.all_cons, Bool.and_eq_true] at ha
    unfold fkL at h
    split at h
    next e =>
      cases h
      rw [← Nat.eq_of_beq_eq_true e]
      exact fkCk_ok ha.1
    next => exact ih ha.2 h
/-- an instruction within a block -/
def iCk (cp : List CPE) (fk : List (Nat × Nat × Bool)) (oci : Nat) (ini : Bool) (lgs : List Nat) (nL : Nat) (raw : Instr) (len : Nat) (i : Instr) : Bool :=
  let lgn : Nat → Bool := fun k => lgs.all fun j => !(Nat.beq (j + 1) k)
  match i with
  | .bipush n => match raw with
    | .iconst n' => decide (n = n') && Nat.beq len 1
    | .bipush n' => decide (n = n') && Nat.beq len 2 && decide ((Int8.ofInt n).toInt32 = Int32.ofInt n)
    | .sipush n' => decide (n = n') && Nat.beq len 3 && decide ((Int16.ofInt n).toInt32 = Int32.ofInt n)
    | .ldc k => Nat.beq len 2 && decide (lk k cp = some (18, n))
    | .ldc_w k => Nat.beq len 3 && decide (lk k cp = some (18, n))
    | _ => false
  | .sipush n => match raw with
    | .lconst f => Nat.beq len 1 && decide (Int64.ofNat (f : Nat) = Int64.ofInt n)
    | .ldc2_w k => Nat.beq len 3 && decide (lk k cp = some (19, n))
    | _ => false
  | .aconst_null => match raw with
    | .aconst_null => Nat.beq len 1
    | _ => false
  | .ldc k => match raw with
    | .ldc q => Nat.beq len 2 && decide (lk q cp = some (4, (k : Int)))
    | .ldc_w q => Nat.beq len 3 && decide (lk q cp = some (4, (k : Int)))
    | _ => false
  | .getstatic k => match raw with
    | .getstatic q => Nat.beq len 3 && (match k with
      | 0 => decide (lk q cp = some (13, 0))
      | 1 => decide (lk q cp = some (14, 0))
      | 2 => decide (lk q cp = some (15, 0))
      | _ => false)
    | _ => false
  | .iload k => match raw with
    | .iload_n f => Nat.beq (f : Nat) k && Nat.beq len 1
    | .iload k' => Nat.beq k' k && Nat.beq len 2
    | _ => false
  | .lload k => match raw with
    | .lload_n f => Nat.beq (f : Nat) k && Nat.beq len 1
    | .lload k' => Nat.beq k' k && Nat.beq len 2
    | _ => false
  | .aload k => match raw with
    | .aload_n f => Nat.beq (f : Nat) k && Nat.beq len 1
    | .aload k' => Nat.beq k' k && Nat.beq len 2
    | _ => false
  | .istore k => match raw with
    | .istore_n f => Nat.beq (f : Nat) k && Nat.beq len 1 && (Nat.ble (k + 1) nL && lgn k)
    | .istore k' => Nat.beq k' k && Nat.beq len 2 && (Nat.ble (k + 1) nL && lgn k)
    | _ => false
  | .fstore k => match raw with
    | .istore_n f => Nat.beq (f : Nat) k && Nat.beq len 1 && Nat.ble (k + 1) nL
    | .istore k' => Nat.beq k' k && Nat.beq len 2 && Nat.ble (k + 1) nL
    | _ => false
  | .lstore k => match raw with
    | .lstore_n f => Nat.beq (f : Nat) k && Nat.beq len 1 && (Nat.ble (k + 2) nL && lgs.contains k && lgn k)
    | .lstore k' => Nat.beq k' k && Nat.beq len 2 && (Nat.ble (k + 2) nL && lgs.contains k && lgn k)
    | _ => false
  | .astore k => match raw with
    | .astore_n f => Nat.beq (f : Nat) k && Nat.beq len 1 && (Nat.ble (k + 1) nL && lgn k)
    | .astore k' => Nat.beq k' k && Nat.beq len 2 && (Nat.ble (k + 1) nL && lgn k)
    | _ => false
  | .iinc k n => match raw with
    | .iinc k' n' => Nat.beq k' k && decide (n' = n) && Nat.beq len 3 && Nat.ble (k + 1) nL
    | _ => false
  | .getfield g => match raw with
    | .getfield q => Nat.beq len 3 && decide (lk q cp = some (1, (g : Int))) && (fkL fk g).isSome
    | _ => false
  | .putfield g => match raw with
    | .putfield q => Nat.beq len 3 && decide (lk q cp = some (1, (g : Int))) && (match fkL fk g with
      | some (0, fin) => !fin || (ini && Nat.beq (g / 100) oci)
      | _ => false)
    | _ => false
  | .dstore g => match raw with
    | .putfield q => Nat.beq len 3 && decide (lk q cp = some (1, (g : Int))) && (match fkL fk g with
      | some (2, fin) => !fin || (ini && Nat.beq (g / 100) oci)
      | _ => false)
    | _ => false
  | .putstatic g => match raw with
    | .putfield q => Nat.beq len 3 && decide (lk q cp = some (1, (g : Int))) && (match fkL fk g with
      | some (1, fin) => !fin || (ini && Nat.beq (g / 100) oci)
      | _ => false)
    | _ => false
  | .fload k => match raw with
    | .getfield q => Nat.beq len 3 && (match k with
      | 0 => decide (lk q cp = some (16, 0))
      | 1 => decide (lk q cp = some (17, 0))
      | _ => false)
    | _ => false
  | .newarray t => match raw with
    | .newarray t' => decide (t' = t) && Nat.beq len 2
    | _ => false
  | .anewarray _ => match raw with
    | .anewarray q => Nat.beq len 3 && decide (lk q cp = some (3, 8))
    | _ => false
  | .new ci => match raw with
    | .new q => Nat.beq len 3 && decide (lk q cp = some (3, (ci : Int))) && (vwCl[ci]?).isSome
    | _ => false
  | .invokespecial _ => match raw with
    | .invokespecial q => Nat.beq len 3 && decide (lk q cp = some (8, 0))
    | _ => false
  | .invokestatic k => match raw with
    | .invokestatic q => Nat.beq len 3 && (match k with
      | 0 => decide (lk q cp = some (5, 0))
      | 1 => decide (lk q cp = some (6, 0))
      | 2 => decide (lk q cp = some (7, 0))
      | _ => false)
    | .invokevirtual q => Nat.beq len 3 && (match k with
      | 3 => decide (lk q cp = some (9, 0))
      | _ => false)
    | _ => false
  | .checkcast _ => match raw with
    | .checkcast q => Nat.beq len 3 && decide (lk q cp = some (11, 0))
    | _ => false
  | .iadd | .isub | .imul | .ineg | .idiv | .irem | .iand | .ior | .ixor | .ishl | .ishr | .iushr | .ladd | .lsub | .lmul | .ldiv | .i2l | .l2i | .i2c | .lcmp | .dup | .dup2 | .pop | .iaload | .laload | .baload | .aaload | .iastore | .lastore | .bastore | .aastore | .arraylength => decide (raw = i) && Nat.beq len 1
  | _ => false
theorem lgn_ok {lgs : List Nat} {k : Nat} (h : (lgs.all fun j => !(Nat.beq (j + 1) k)) = true) : ∀ j, lgs.contains j = true → j + 1 ≠ k := by
  intro j hj e
  have h1 := List.all_eq_true.mp h j (List.contains_iff_mem.mp hj)
  rw [e] at h1
  simp at h1
set_option maxHeartbeats 16000000 in
theorem iCk_ok {mt : MTab} {own : String} {cp : List CPE} {fk : List (Nat × Nat × Bool)} {oci : Nat} {ini : Bool} {lgs : List Nat} {nL : Nat} {raw : Instr} {len : Nat} {i : Instr} (hcp : cp.all (cpCk mt own) = true) (hfk : (fk.all fun z => fkCk z.1 z.2) = true) (hoc : ∀ r, vwCl[oci]? = some r → r.1 = own)
    (h : iCk cp fk oci ini lgs nL raw len i = true) : iOK own ini lgs.contains nL raw len i := by
  have fw : ∀ {q g : Nat} {z : Nat × Bool}, lk q cp = some (1, (g : Int)) → fkL fk g = some z → ∃ r, vwCl[g / 100]? = some r ∧ g % 100 < r.2.2 ∧ Cond.fieldLink own q (r.2.1 (g % 100)).1 (r.2.1 (g % 100)).2.1 (r.2.1 (g % 100)).2.2.1 ∈ AWs ∧ (r.2.1 (g % 100)).1 = r.1 ∧ (r.2.1 (g % 100)).2.2.2 = z.2 ∧
      ((z.1 = 0 ∧ parseFieldDescriptor (r.2.1 (g % 100)).2.2.1 = some .int) ∨ (z.1 = 2 ∧ parseFieldDescriptor (r.2.1 (g % 100)).2.2.1 = some .boolean) ∨ (z.1 = 1 ∧ ((∃ n, parseFieldDescriptor (r.2.1 (g % 100)).2.2.1 = some (.object n)) ∨ ∃ t, parseFieldDescriptor (r.2.1 (g % 100)).2.2.1 = some (.array t)))) := by
    intro q g z h1 h2
    obtain ⟨r, e1, e2, e3, e4, e5⟩ := fkL_ok hfk h2
    have h3 := lk_ok hcp h1
    have h4 : cpW mt own q 1 (g : Int) ∈ AWs := h3
    unfold cpW at h4
    simp only [Int.toNat_natCast, e1] at h4
    exact ⟨r, e1, e2, h4, e3, e4, e5⟩
  have fin9 : ∀ {g : Nat} {r : vw_C} {fin : Bool}, vwCl[g / 100]? = some r → (r.2.1 (g % 100)).1 = r.1 → (r.2.1 (g % 100)).2.2.2 = fin → (!fin || (ini && Nat.beq (g / 100) oci)) = true → ((r.2.1 (g % 100)).2.2.2 = false ∨ ((r.2.1 (g % 100)).2.2.2 = true ∧ ini = true ∧ (r.2.1 (g % 100)).1 = own)) := by
    intro g r fin e1 e3 e4 h9
    cases fin with
    | false => exact Or.inl e4
    | true =>
      simp only [Bool.not_true, Bool.false_or, Bool.and_eq_true] at h9
      refine Or.inr ⟨e4, h9.1, ?_⟩
      rw [e3]
      rw [Nat.eq_of_beq_eq_true h9.2] at e1
      exact hoc r e1
  unfold iCk at h
  dsimp only at h
  split at h
  · -- bipush
    split at h <;> (try simp only [Bool.and_eq_true, decide_eq_true_eq] at h)
    · obtain ⟨rfl, h2⟩ := h
      exact Or.inl ⟨rfl, Nat.eq_of_beq_eq_true h2⟩
    · obtain ⟨⟨rfl, h2⟩, h3⟩ := h
      exact Or.inr (Or.inl ⟨rfl, Nat.eq_of_beq_eq_true h2, h3⟩)
    · obtain ⟨⟨rfl, h2⟩, h3⟩ := h
      exact Or.inr (Or.inr (Or.inl ⟨rfl, Nat.eq_of_beq_eq_true h2, h3⟩))
    · exact Or.inr (Or.inr (Or.inr (Or.inl ⟨_, rfl, Nat.eq_of_beq_eq_true h.1, lk_ok hcp h.2⟩)))
    · exact Or.inr (Or.inr (Or.inr (Or.inr ⟨_, rfl, Nat.eq_of_beq_eq_true h.1, lk_ok hcp h.2⟩)))
    · cases h
  · -- sipush
    split at h <;> (try simp only [Bool.and_eq_true, decide_eq_true_eq] at h)
    · exact Or.inl ⟨_, rfl, Nat.eq_of_beq_eq_true h.1, h.2⟩
    · exact Or.inr ⟨_, rfl, Nat.eq_of_beq_eq_true h.1, lk_ok hcp h.2⟩
    · cases h
  · split at h
    · exact ⟨rfl, Nat.eq_of_beq_eq_true h⟩
    · cases h
  · -- ldc
    split at h <;> (try simp only [Bool.and_eq_true, decide_eq_true_eq] at h)
    · have h3 := lk_ok hcp h.2
      unfold cpOK at h3
      simp only [Int.toNat_natCast] at h3
      exact ⟨_, Or.inl ⟨rfl, Nat.eq_of_beq_eq_true h.1⟩, h3⟩
    · have h3 := lk_ok hcp h.2
      unfold cpOK at h3
      simp only [Int.toNat_natCast] at h3
      exact ⟨_, Or.inr ⟨rfl, Nat.eq_of_beq_eq_true h.1⟩, h3⟩
    · cases h
  · -- getstatic
    split at h
    · rw [Bool.and_eq_true] at h
      obtain ⟨h1, h2⟩ := h
      split at h2
      · exact ⟨_, rfl, Nat.eq_of_beq_eq_true h1, lk_ok hcp (of_decide_eq_true h2)⟩
      · exact ⟨_, rfl, Nat.eq_of_beq_eq_true h1, lk_ok hcp (of_decide_eq_true h2)⟩
      · exact ⟨_, rfl, Nat.eq_of_beq_eq_true h1, lk_ok hcp (of_decide_eq_true h2)⟩
      · cases h2
    · cases h
  · split at h <;> (try simp only [Bool.and_eq_true] at h)
    · exact Or.inl ⟨_, rfl, Nat.eq_of_beq_eq_true h.1, Nat.eq_of_beq_eq_true h.2⟩
    · obtain ⟨h1, h2⟩ := h
      cases Nat.eq_of_beq_eq_true h1
      exact Or.inr ⟨rfl, Nat.eq_of_beq_eq_true h2⟩
    · cases h
  · split at h <;> (try simp only [Bool.and_eq_true] at h)
    · exact Or.inl ⟨_, rfl, Nat.eq_of_beq_eq_true h.1, Nat.eq_of_beq_eq_true h.2⟩
    · obtain ⟨h1, h2⟩ := h
      cases Nat.eq_of_beq_eq_true h1
      exact Or.inr ⟨rfl, Nat.eq_of_beq_eq_true h2⟩
    · cases h
  · split at h <;> (try simp only [Bool.and_eq_true] at h)
    · exact Or.inl ⟨_, rfl, Nat.eq_of_beq_eq_true h.1, Nat.eq_of_beq_eq_true h.2⟩
    · obtain ⟨h1, h2⟩ := h
      cases Nat.eq_of_beq_eq_true h1
      exact Or.inr ⟨rfl, Nat.eq_of_beq_eq_true h2⟩
    · cases h
  · -- istore
    split at h <;> (try simp only [Bool.and_eq_true] at h)
    · exact ⟨Or.inl ⟨_, rfl, Nat.eq_of_beq_eq_true h.1.1, Nat.eq_of_beq_eq_true h.1.2⟩, Nat.le_of_ble_eq_true h.2.1, lgn_ok h.2.2⟩
    · obtain ⟨⟨h1, h2⟩, h3, h4⟩ := h
      cases Nat.eq_of_beq_eq_true h1
      exact ⟨Or.inr ⟨rfl, Nat.eq_of_beq_eq_true h2⟩, Nat.le_of_ble_eq_true h3, lgn_ok h4⟩
    · cases h
  · -- fstore
    split at h <;> (try simp only [Bool.and_eq_true] at h)
    · exact ⟨Or.inl ⟨_, rfl, Nat.eq_of_beq_eq_true h.1.1, Nat.eq_of_beq_eq_true h.1.2⟩, Nat.le_of_ble_eq_true h.2⟩
    · obtain ⟨⟨h1, h2⟩, h3⟩ := h
      cases Nat.eq_of_beq_eq_true h1
      exact ⟨Or.inr ⟨rfl, Nat.eq_of_beq_eq_true h2⟩, Nat.le_of_ble_eq_true h3⟩
    · cases h
  · -- lstore
    split at h <;> (try simp only [Bool.and_eq_true] at h)
    · exact ⟨Or.inl ⟨_, rfl, Nat.eq_of_beq_eq_true h.1.1, Nat.eq_of_beq_eq_true h.1.2⟩, Nat.le_of_ble_eq_true h.2.1.1, h.2.1.2, lgn_ok h.2.2⟩
    · obtain ⟨⟨h1, h2⟩, ⟨h3, h5⟩, h4⟩ := h
      cases Nat.eq_of_beq_eq_true h1
      exact ⟨Or.inr ⟨rfl, Nat.eq_of_beq_eq_true h2⟩, Nat.le_of_ble_eq_true h3, h5, lgn_ok h4⟩
    · cases h
  · -- astore
    split at h <;> (try simp only [Bool.and_eq_true] at h)
    · exact ⟨Or.inl ⟨_, rfl, Nat.eq_of_beq_eq_true h.1.1, Nat.eq_of_beq_eq_true h.1.2⟩, Nat.le_of_ble_eq_true h.2.1, lgn_ok h.2.2⟩
    · obtain ⟨⟨h1, h2⟩, h3, h4⟩ := h
      cases Nat.eq_of_beq_eq_true h1
      exact ⟨Or.inr ⟨rfl, Nat.eq_of_beq_eq_true h2⟩, Nat.le_of_ble_eq_true h3, lgn_ok h4⟩
    · cases h
  · -- iinc
    split at h <;> (try simp only [Bool.and_eq_true, decide_eq_true_eq] at h)
    · obtain ⟨⟨⟨h1, rfl⟩, h2⟩, h3⟩ := h
      cases Nat.eq_of_beq_eq_true h1
      exact ⟨rfl, Nat.eq_of_beq_eq_true h2, Nat.le_of_ble_eq_true h3⟩
    · cases h
  · -- getfield
    split at h <;> (try simp only [Bool.and_eq_true, decide_eq_true_eq] at h)
    · obtain ⟨⟨h1, h2⟩, h3⟩ := h
      obtain ⟨z, hz⟩ := Option.isSome_iff_exists.mp h3
      obtain ⟨r, e1, e2, e3, -⟩ := fw h2 hz
      exact ⟨_, r, rfl, Nat.eq_of_beq_eq_true h1, e1, e2, e3⟩
    · cases h
  · -- putfield
    split at h <;> (try simp only [Bool.and_eq_true, decide_eq_true_eq] at h)
    · obtain ⟨⟨h1, h2⟩, h3⟩ := h
      split at h3
      next fin hz =>
        obtain ⟨r, e1, e2, e3, e4, e5, e6⟩ := fw h2 hz
        rcases e6 with ⟨-, e6⟩ | ⟨e6, -⟩ | ⟨e6, -⟩
        · exact ⟨_, r, rfl, Nat.eq_of_beq_eq_true h1, e1, e2, e3, e6, fin9 e1 e4 e5 h3⟩
        · cases e6
        · cases e6
      next => cases h3
    · cases h
  · -- dstore
    split at h <;> (try simp only [Bool.and_eq_true, decide_eq_true_eq] at h)
    · obtain ⟨⟨h1, h2⟩, h3⟩ := h
      split at h3
      next fin hz =>
        obtain ⟨r, e1, e2, e3, e4, e5, e6⟩ := fw h2 hz
        rcases e6 with ⟨e6, -⟩ | ⟨-, e6⟩ | ⟨e6, -⟩
        · cases e6
        · exact ⟨_, r, rfl, Nat.eq_of_beq_eq_true h1, e1, e2, e3, e6, fin9 e1 e4 e5 h3⟩
        · cases e6
      next => cases h3
    · cases h
  · -- putstatic
    split at h <;> (try simp only [Bool.and_eq_true, decide_eq_true_eq] at h)
    · obtain ⟨⟨h1, h2⟩, h3⟩ := h
      split at h3
      next fin hz =>
        obtain ⟨r, e1, e2, e3, e4, e5, e6⟩ := fw h2 hz
        rcases e6 with ⟨e6, -⟩ | ⟨e6, -⟩ | ⟨-, e6⟩
        · cases e6
        · cases e6
        · exact ⟨_, r, rfl, Nat.eq_of_beq_eq_true h1, e1, e2, e3, e6, fin9 e1 e4 e5 h3⟩
      next => cases h3
    · cases h
  · -- fload
    split at h
    · rw [Bool.and_eq_true] at h
      obtain ⟨h1, h2⟩ := h
      split at h2
      · exact ⟨_, rfl, Nat.eq_of_beq_eq_true h1, lk_ok hcp (of_decide_eq_true h2)⟩
      · exact ⟨_, rfl, Nat.eq_of_beq_eq_true h1, lk_ok hcp (of_decide_eq_true h2)⟩
      · cases h2
    · cases h
  · split at h <;> (try simp only [Bool.and_eq_true, decide_eq_true_eq] at h)
    · exact ⟨by rw [h.1], Nat.eq_of_beq_eq_true h.2⟩
    · cases h
  · split at h <;> (try simp only [Bool.and_eq_true, decide_eq_true_eq] at h)
    · exact ⟨_, rfl, Nat.eq_of_beq_eq_true h.1, lk_ok hcp h.2⟩
    · cases h
  · -- new
    split at h <;> (try simp only [Bool.and_eq_true, decide_eq_true_eq] at h)
    · obtain ⟨⟨h1, h2⟩, h3⟩ := h
      obtain ⟨r, hr⟩ := Option.isSome_iff_exists.mp h3
      have h4 := lk_ok hcp h2
      unfold cpOK cpW at h4
      simp only [Int.toNat_natCast, hr] at h4
      exact ⟨_, r, rfl, Nat.eq_of_beq_eq_true h1, hr, h4⟩
    · cases h
  · split at h <;> (try simp only [Bool.and_eq_true, decide_eq_true_eq] at h)
    · exact ⟨_, rfl, Nat.eq_of_beq_eq_true h.1, lk_ok hcp h.2⟩
    · cases h
  · -- invokestatic
    split at h
    · rw [Bool.and_eq_true] at h
      obtain ⟨h1, h2⟩ := h
      split at h2
      · exact ⟨_, rfl, Nat.eq_of_beq_eq_true h1, lk_ok hcp (of_decide_eq_true h2)⟩
      · exact ⟨_, rfl, Nat.eq_of_beq_eq_true h1, lk_ok hcp (of_decide_eq_true h2)⟩
      · exact ⟨_, rfl, Nat.eq_of_beq_eq_true h1, lk_ok hcp (of_decide_eq_true h2)⟩
      · cases h2
    · rw [Bool.and_eq_true] at h
      obtain ⟨h1, h2⟩ := h
      split at h2
      · exact ⟨_, rfl, Nat.eq_of_beq_eq_true h1, lk_ok hcp (of_decide_eq_true h2)⟩
      · cases h2
    · cases h
  · split at h <;> (try simp only [Bool.and_eq_true, decide_eq_true_eq] at h)
    · exact ⟨_, rfl, Nat.eq_of_beq_eq_true h.1, lk_ok hcp h.2⟩
    · cases h
  all_goals first
    | (rw [Bool.and_eq_true] at h; exact ⟨of_decide_eq_true h.1, Nat.eq_of_beq_eq_true h.2⟩)
    | cases h
