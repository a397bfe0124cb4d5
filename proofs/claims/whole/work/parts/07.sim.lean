/-! ===== THE SIMULATION: a run of the abstract machine is one of the real machine ===== -/
def LeM (m m' : AM) : Prop := m.2.1 ≤ m'.2.1 ∧ m.2.2.1 ≤ m'.2.2.1 ∧ m.2.2.2 ≤ m'.2.2.2
theorem LeM.rf {m : AM} : LeM m m := ⟨Nat.le_refl _, Nat.le_refl _, Nat.le_refl _⟩
theorem LeM.tr {a b c : AM} (h : LeM a b) (h2 : LeM b c) : LeM a c := ⟨Nat.le_trans h.1 h2.1, Nat.le_trans h.2.1 h2.2.1, Nat.le_trans h.2.2 h2.2.2⟩
theorem LeM.set {m : AM} {a : Nat} {c : AC} : LeM m (mset m a c) := ⟨Nat.le_refl _, Nat.le_refl _, Nat.le_refl _⟩
theorem LeM.new {m : AM} {c : AC} {w : Nat} : LeM m (mnew m c w) := ⟨Nat.le_succ _, Nat.le_succ _, Nat.le_add_right _ _⟩
theorem LeM.thr {m : AM} : LeM m (mthrow m) := ⟨Nat.le_refl _, Nat.le_succ _, Nat.le_add_right _ _⟩
set_option maxHeartbeats 8000000 in
theorem sI_le {tb : Tab} {i : Instr} {ls st : List AV} {m : AM} {φ : Prop} {ls' st' : List AV} {m' : AM} (h : sI tb i ls st m = some (φ, ls', st', m')) : LeM m m' := by
  have key : ∀ {a b c}, (some (a, b, c, m) : Option (Prop × List AV × List AV × AM)) = some (φ, ls', st', m') → LeM m m' := by
    intro a b c h
    cases h
    exact LeM.rf
  have keyS : ∀ {a b c q x}, (some (a, b, c, mset m q x) : Option (Prop × List AV × List AV × AM)) = some (φ, ls', st', m') → LeM m m' := by
    intro a b c q x h
    cases h
    exact LeM.set
  have keyN : ∀ {a b c x w}, (some (a, b, c, mnew m x w) : Option (Prop × List AV × List AV × AM)) = some (φ, ls', st', m') → LeM m m' := by
    intro a b c x w h
    cases h
    exact LeM.new
  unfold sI at h
  repeat' split at h
  all_goals first | exact key h | exact keyS h | exact keyN h | cases h
def CLe (C : Nat → List AV → AM → (Out → AM → Prop) → Prop) : Prop := ∀ M args m K, C M args m K → ∃ o m', K o m' ∧ LeM m m'
theorem swB_any {J : Nat → Prop} {P : Prop} (d x : Int) (h : ∀ t, J t → P) : ∀ ps, swB J d ps x → P := by
  intro ps
  induction ps with
  | nil => exact fun q => h _ q
  | cons p ps ih =>
    intro q
    by_cases e : x = p.1
    · exact h _ (q.1 e)
    · exact ih (q.2 e)
theorem wpB_le {tb : Tab} {hs : Nat → Option (Nat × Nat)} {C : Nat → List AV → AM → (Out → AM → Prop) → Prop} {o : Out} {mf : AM} {J : Nat → List AV → List AV → AM → Prop}
    (hC : CLe C) (hJ : ∀ L ls st m, J L ls st m → LeM m mf) : ∀ is ls st m, wpB tb hs C (one o mf) J is ls st m → LeM m mf := by
  intro is
  induction is with
  | nil => exact fun _ _ _ h => h.elim
  | cons i is ih =>
    intro ls st m h
    unfold wpB at h
    have two : ∀ {φ c : Prop} {Lt : Nat} {ls st ls2 st2}, (φ ∧ (c → J Lt ls st m) ∧ (¬ c → wpB tb hs C (one o mf) J is ls2 st2 m)) → LeM m mf := by
      intro φ c Lt ls st ls2 st2 h
      by_cases e : c
      · exact hJ _ _ _ _ (h.2.1 e)
      · exact ih _ _ _ (h.2.2 e)
    have en : ∀ {o'}, one o mf o' m → LeM m mf := fun q => q.2 ▸ LeM.rf
    split at h
    · exact hJ _ _ _ _ h
    · exact hJ _ _ _ _ h
    · split at h
      · exact two h
      · exact h.elim
    · split at h
      · exact two h
      · exact h.elim
    · split at h
      · exact ih _ _ _ h
      · exact hJ _ _ _ _ h
      · exact h.elim
    · split at h
      · exact hJ _ _ _ _ h
      · exact ih _ _ _ h
      · exact h.elim
    · split at h
      · exact swB_any _ _ (fun t q => hJ _ _ _ _ q) _ h.2
      · exact h.elim
    · split at h
      · exact en h
      · exact h.elim
    · split at h
      · exact en h.2
      · exact h.elim
    · split at h
      · exact en h.2
      · exact h.elim
    · split at h
      · exact en h.2
      · exact h.elim
    · split at h
      · exact en h
      · exact en h
      · exact h.elim
    · split at h
      · exact en h
      · exact h.elim
    · obtain ⟨o1, m1, k1, k2⟩ := hC _ _ _ _ h.2
      rcases o1 with r | E
      · exact k2.tr (ih _ _ _ k1)
      · dsimp only at k1
        split at k1
        · exact k1.2 ▸ k2
        · exact k2.tr (hJ _ _ _ _ k1)
    · split at h
      · exact h.2 ▸ LeM.thr
      · exact h.elim
    · split at h
      · exact h.elim
      next e => exact (sI_le e).tr (ih _ _ _ h.2)
theorem Runs.le_c {tb : Tab} {pg : Prg} : ∀ d, CLe (Runs tb pg d)
  | 0 => fun _ _ _ _ h => h.elim
  | d + 1 => fun M args m K h => by
    obtain ⟨o, m', h1, h2⟩ := Runs.det (d + 1) M args m K h
    refine ⟨o, m', h1, h2.2 (fun L ls st m => LeM m m') (fun L ls st m q => wpB_le (Runs.le_c d) (fun _ _ _ _ z => z) _ _ _ _ q)⟩
/-- of a method: its name, bytes, how many locals, what it returns, its table, how it is called (0 static, 1 virtual, 2 as a constructor, 3 static and with a table), how many parameters -/
abbrev MTab : Type := Nat → MethodName × (ByteArray × (Nat × (Option FieldType × (List (Nat × Nat × Nat × Nat) × (Nat × Nat)))))
def isCtl : Instr → Bool
  | .goto _ | .ifCond .. | .if_icmp .. | .ifnull _ | .ifnonnull _ | .lookupswitch .. | .ireturn | .freturn | .dreturn | .lreturn | .areturn | .return_ | .invokeinterface .. | .invokedynamic _ => true
  | _ => false
def isPs : Instr → Bool
  | .jsr _ | .ret _ => true
  | _ => false
def excN : Nat → String := fun k => match k with
  | 0 => "java/lang/IllegalStateException"
  | 1 => "java/lang/IllegalArgumentException"
  | 2 => "java/lang/IndexOutOfBoundsException"
  | 3 => "java/lang/UnsupportedOperationException"
  | 4 => "java/util/NoSuchElementException"
  | _ => ""
def excU : Nat → List String := fun _ => ["java/lang/RuntimeException", "java/lang/Exception"]
/-- a row of a table that doesn't take an exception of class E -/
def passes (own : String) (pc E : Nat) (z : ExceptionTableEntry) : Prop := covers z pc = false ∨ (z.catchType ≠ 0 ∧ ∃ F, F < 5 ∧ F ≠ E ∧ Cond.classLink own z.catchType (excN F) ∈ AWs)
def cOK (mt : MTab) (rcv : Nat → Option Nat) (hs : Nat → Option (Nat × Nat)) (own : String) (cc : ByteArray) (nL : Nat) (lg : Nat → Bool) (ret : Option FieldType) (hh : List (Nat × Nat × Nat × Nat)) (pc : Nat) (raw : Instr) (len : Nat) : Instr → Prop
  | .goto t => ∃ off, raw = .goto off ∧ len = 3 ∧ (pc : Int) + off = t ∧ 0 ≤ t
  | .ifCond c t => ∃ off, raw = .ifCond c off ∧ len = 3 ∧ (pc : Int) + off = t ∧ 0 ≤ t
  | .if_icmp c t => ∃ off, raw = .if_icmp c off ∧ len = 3 ∧ (pc : Int) + off = t ∧ 0 ≤ t
  | .ifnull t => ∃ off, raw = .ifnull off ∧ len = 3 ∧ (pc : Int) + off = t ∧ 0 ≤ t
  | .ifnonnull t => ∃ off, raw = .ifnonnull off ∧ len = 3 ∧ (pc : Int) + off = t ∧ 0 ≤ t
  | .lookupswitch d ps => (0 ≤ d ∧ ∀ q ∈ ps.toList, 0 ≤ q.2) ∧ ((∃ d0 ps0, raw = .lookupswitch d0 ps0 ∧ (ps0.toList.zip (ps0.toList.drop 1)).all (fun (a, next) => a.1 < next.1) = true ∧ (pc : Int) + d0 = d ∧ ps.toList = ps0.toList.map fun q => (q.1, (pc : Int) + q.2)) ∨
      ∃ d0 lo hi offs, raw = .tableswitch d0 lo hi offs ∧ (pc : Int) + d0 = d ∧ hi = lo + offs.size - 1 ∧ ps.toList = (List.range offs.size).map fun (j : Nat) => (lo + (j : Int), (pc : Int) + offs.getD j 0))
  | .ireturn => raw = .ireturn ∧ len = 1 ∧ ret = some .int
  | .freturn => raw = .ireturn ∧ len = 1 ∧ ret = some .boolean
  | .dreturn => raw = .ireturn ∧ len = 1 ∧ ret = some .byte
  | .lreturn => raw = .ireturn ∧ len = 1 ∧ ret = some .char
  | .areturn => raw = .areturn ∧ len = 1 ∧ ∃ rt, ret = some rt ∧ ((∃ n, rt = .object n) ∨ ∃ t, rt = .array t)
  | .return_ => raw = .return_ ∧ len = 1 ∧ ret = none
  | .invokeinterface k n => len = 3 ∧ (∀ E, E < 5 → match hs E with
      | none => ∀ z ∈ tableOf hh, passes own pc E z
      | some (j, L) => ∃ pre x suf, tableOf hh = pre ++ x :: suf ∧ (∀ z ∈ pre, passes own pc E z) ∧ covers x pc = true ∧ x.catchType ≠ 0 ∧ Cond.classLink own x.catchType (excN E) ∈ AWs ∧ Cond.castable (excN E) (excN E) ∈ nwL ∧ j < nL ∧ (∀ i, lg i = true → i + 1 ≠ j) ∧
          ((decode cc x.handlerPc = .ok (.astore j, 2) ∧ x.handlerPc + 2 = L) ∨ ∃ f : Fin 4, (f : Nat) = j ∧ decode cc x.handlerPc = .ok (.astore_n f, 1) ∧ x.handlerPc + 1 = L)) ∧
      (((mt k).2.2.2.2.2.1 = 0 ∧ n = (mt k).2.2.2.2.2.2 ∧ ∃ q, raw = .invokestatic q ∧ Cond.methodLink own q (mt k).1 ∈ AWs ∧ Cond.static (mt k).1 ∈ AWs) ∨
      ((mt k).2.2.2.2.2.1 = 1 ∧ n = (mt k).2.2.2.2.2.2 + 1 ∧ (∃ q, raw = .invokevirtual q ∧ Cond.methodLink own q (mt k).1 ∈ AWs ∧ Cond.instanceMethod (mt k).1 ∈ AWs ∧ Cond.selects (mt k).1.cls (mt k).1 (mt k).1 ∈ AWs) ∧ ((∃ ci r, rcv k = some ci ∧ ci ≠ 100 ∧ vwCl[ci]? = some r ∧ r.1 = (mt k).1.cls) ∨ (rcv k = some 100 ∧ (mt k).1.cls = "java/lang/String"))) ∨
      ((mt k).2.2.2.2.2.1 = 2 ∧ n = (mt k).2.2.2.2.2.2 + 1 ∧ (mt k).2.2.2.1 = none ∧ (mt k).1.name = "<init>" ∧ (∃ ci, rcv k = some ci ∧ ci ≠ 100) ∧ ∃ q, raw = .invokespecial q ∧ Cond.instanceMethod (mt k).1 ∈ AWs ∧ (Cond.methodLink own q (mt k).1 ∈ AWs ∨ Cond.methodLinkNest own q (mt k).1 "SnowNames" ∈ nwL)) ∨
      ((mt k).2.2.2.2.2.1 = 3 ∧ n = (mt k).2.2.2.2.2.2 ∧ ∃ q, raw = .invokestatic q ∧ Cond.methodLink own q (mt k).1 ∈ AWs ∧ Cond.static (mt k).1 ∈ AWs))
  | .invokedynamic E => hh = [] ∧ E < 5 ∧ ∃ ik is ic k, Cond.classLink own ik (excN E) ∈ AWs ∧ Cond.initialized (excN E) ∈ AWs ∧ (own, is, k) ∈ strT ∧ (∀ w ∈ vx_atS own ic (excN E) (excU E), w ∈ AWs ∨ (w ∈ nwL ∧ w.onTables = true)) ∧
      decode cc pc = .ok (.new ik, 3) ∧ decode cc (pc + 3) = .ok (.dup, 1) ∧ ((decode cc (pc + 4) = .ok (.ldc is, 2) ∧ decode cc (pc + 6) = .ok (.invokespecial ic, 3) ∧ decode cc (pc + 9) = .ok (.athrow, 1)) ∨ (decode cc (pc + 4) = .ok (.ldc_w is, 3) ∧ decode cc (pc + 7) = .ok (.invokespecial ic, 3) ∧ decode cc (pc + 10) = .ok (.athrow, 1)))
  | _ => False
/-- a block of the abstract code stands in the real one, from pc on -/
def bOK (mt : MTab) (rcv : Nat → Option Nat) (hs : Nat → Option (Nat × Nat)) (own : String) (ini : Bool) (cc : ByteArray) (nL : Nat) (lg : Nat → Bool) (ret : Option FieldType) (hh : List (Nat × Nat × Nat × Nat)) : Nat → List Instr → Prop
  | _, [] => True
  | pc, i :: is => if isPs i = true then (∀ t, i = .jsr t → t = pc) ∧ bOK mt rcv hs own ini cc nL lg ret hh pc is
    else ∃ raw len, decode cc pc = .ok (raw, len) ∧ (if isCtl i = true then cOK mt rcv hs own cc nL lg ret hh pc raw len i else iOK own ini lg nL raw len i) ∧ bOK mt rcv hs own ini cc nL lg ret hh (pc + len) is
/-- what is asked of each method -/
def MFacts (mt : MTab) (pg : Prg) (lgM : Nat → Nat → Bool) : Prop := ∀ M L, pg.1 M L ≠ [] → plainName (mt M).1.cls = true ∧ ((mt M).1.cls ≠ "java/lang/invoke/MethodHandle" ∧ (mt M).1.cls ≠ "java/lang/invoke/VarHandle") ∧ Cond.initialized (mt M).1.cls ∈ AWs ∧ (∀ sig, parseMethodDescriptor (mt M).1.desc = some sig → (mt M).2.2.2.2.2.2 = sig.parameters.length) ∧ (mt M).2.2.1 ≤ 70 ∧ pg.2.2.1 M = (mt M).2.2.1 ∧
  (((mt M).2.2.2.2.2.1 ≠ 3 ∧ (mt M).2.2.2.2.1 = [] ∧ Cond.code (mt M).1 (mt M).2.1 (mt M).2.2.1 (mt M).2.2.2.1 ∈ AWs) ∨ ((mt M).2.2.2.2.2.1 = 3 ∧ Cond.codeWith (mt M).1 (mt M).2.1 (mt M).2.2.1 (mt M).2.2.2.1 (mt M).2.2.2.2.1 ∈ AWs)) ∧
  bOK mt pg.2.2.2.1 (pg.2.1 M) (mt M).1.cls (decide ((mt M).1.name = "<init>")) (mt M).2.1 (mt M).2.2.1 (lgM M) (mt M).2.2.2.1 (mt M).2.2.2.2.1 L (pg.1 M L)
abbrev rmD (d mc ms : Nat) : Room := { frames := d + 20, cells := mc, slots := ms, locals := 100 * d + 400 }
/-- the world behind a method -/
def EndD (D : va_G) (ka : KA) (xa : Nat → Nat) (zv : Value) (A : Nat → Prop) (ad' : Nat → Nat) (mf : AM) (st t : State) : Prop := va_P D vwCl (wsA ad' xa zv ka mf) t.heap ∧ va_D A (wsA ad' xa zv ka mf) ∧ okM mf ∧ va_F A st t
def PcD (tb : Tab) (D : va_G) (ka : KA) (xa : Nat → Nat) (zv : Value) (b0 : Nat) (ad : Nat → Nat) (args : List AV) (m : AM) : Array Value → State → Prop :=
  va_Pc (args.map (rv ad xa zv)) (fun U => va_P D vwCl (wsA ad xa zv ka m) U.heap ∧ va_D (fun q => b0 ≤ q) (wsA ad xa zv ka m) ∧ GF tb D ka xa zv (fun q => b0 ≤ q) U U.heap ∧ b0 ≤ U.heap.size)
def QcD (D : va_G) (ka : KA) (xa : Nat → Nat) (zv : Value) (b0 : Nat) (ad : Nat → Nat) (m : AM) (o : Out) (mf : AM) : Array Value → State → Outcome → State → Prop := fun _ st oc t =>
  ∃ r, o = .inl r ∧ ∃ ad', (∀ k, k < m.2.1 → ad' k = ad k) ∧ oc = .returned (r.map (rv ad' xa zv)) ∧ (∀ v, r = some v → okV mf.2.1 v) ∧ EndD D ka xa zv (fun q => b0 ≤ q) ad' mf st t
def XcD (D : va_G) (ka : KA) (xa : Nat → Nat) (zv : Value) (b0 : Nat) (ad : Nat → Nat) (m : AM) (o : Out) (mf : AM) : String → State → State → Prop := fun E st t =>
  ∃ k, o = .inr k ∧ k < 5 ∧ E = excN k ∧ ∃ ad', (∀ j, j < m.2.1 → ad' j = ad j) ∧ EndD D ka xa zv (fun q => b0 ≤ q) ad' mf st t
def MetC (l : Launch) (mt : MTab) (tb : Tab) (D : va_G) (ka : KA) (xa : Nat → Nat) (zv : Value) (b0 d M : Nat) (args : List AV) (m : AM) (o : Out) (mf : AM) : Prop :=
  ∀ ad, vx_Met l (mt M).1 AWs (rmD d (mf.2.2.1 - m.2.2.1) (mf.2.2.2 - m.2.2.2)) (PcD tb D ka xa zv b0 ad args m) (QcD D ka xa zv b0 ad m o mf) (XcD D ka xa zv b0 ad m o mf) (mf.2.2.1 - m.2.2.1) (mf.2.2.2 - m.2.2.2) (fun q => b0 ≤ q)
theorem goodAW : GoodIn AWs AWs := fun w hw => ⟨hw, good_of_word (List.mem_filter.mp hw).2⟩
theorem wp_split (tb : Tab) (hs : Nat → Option (Nat × Nat)) (C : Nat → List AV → AM → (Out → AM → Prop) → Prop) (Q : Out → AM → Prop) (J : Nat → List AV → List AV → AM → Prop) (i : Instr) (is : List Instr) (ls st : List AV) (m : AM) (h : isCtl i = false) (h2 : ∀ t, i ≠ .jsr t) :
    wpB tb hs C Q J (i :: is) ls st m = (match sI tb i ls st m with
      | none => False
      | some (φ, ls', st', m') => φ ∧ wpB tb hs C Q J is ls' st' m') := by
  cases i <;> first | exact absurd rfl (h2 _) | rfl | cases h
