/-! ===== ONE STEP: an instruction of the abstract machine is what the real one does ===== -/
/-- what the tables say of the classes of objects -/
def CFacts (tb : Tab) : Prop := tb.2.1 = strB ∧ ∀ ci r, vwCl[ci]? = some r → (∀ w ∈ u_ws r.1 r.2.1 r.2.2, w ∈ AWs) ∧ Cond.instantiable r.1 r.2.2 ∈ AWs ∧ Cond.initialized r.1 ∈ AWs ∧ ((tb.1 ci).length = r.2.2 ∧ ∀ v ∈ tb.1 ci, okV 0 v) ∧
  ∃ ty0 : Nat → FieldType, (∀ k, k < r.2.2 → parseFieldDescriptor (r.2.1 k).2.2.1 = some (ty0 k)) ∧ (∀ a, a < r.2.2 → ∀ b, b < r.2.2 → a ≠ b → (r.2.1 a).2.1 ≠ (r.2.1 b).2.1) ∧ ∀ ad xa zv j, j < r.2.2 → defaultValue (ty0 j) = vp_V ((tb.1 ci).map (rv ad xa zv)) j
/-- the words of the JDK's own things -/
def JFacts : Prop := (∀ w ∈ [Cond.static Lib.Math.min.name, Cond.initialized "java/lang/Math", Cond.code Lib.Math.min.name Lib.Math.min.code 2 (some .int), Cond.static Lib.Math.max.name, Cond.code Lib.Math.max.name Lib.Math.max.code 2 (some .int), Cond.native arraycopyName, Cond.static arraycopyName, Cond.initialized "java/lang/System", Cond.instanceMethod Lib.objectInit, Cond.code Lib.objectInit ⟨#[0xb1]⟩ 1 none,
  Cond.arrayClass .int, Cond.arrayClass .long, Cond.arrayClass .boolean, Cond.sameMethod "[I" "java/lang/Object" "clone" "()Ljava/lang/Object;", Cond.native ⟨"java/lang/Object", "clone", "()Ljava/lang/Object;"⟩, Cond.instanceMethod ⟨"java/lang/Object", "clone", "()Ljava/lang/Object;"⟩, Cond.selects "[I" ⟨"[I", "clone", "()Ljava/lang/Object;"⟩ ⟨"java/lang/Object", "clone", "()Ljava/lang/Object;"⟩], w ∈ AWs)
/-- a real instruction (and how long it is) that is the abstract one -/
def iOK (own : String) (ini : Bool) (lg : Nat → Bool) (nL : Nat) (raw : Instr) (len : Nat) : Instr → Prop
  | .bipush n => (raw = .iconst n ∧ len = 1) ∨ (raw = .bipush n ∧ len = 2 ∧ (Int8.ofInt n).toInt32 = Int32.ofInt n) ∨ (raw = .sipush n ∧ len = 3 ∧ (Int16.ofInt n).toInt32 = Int32.ofInt n) ∨ (∃ k, raw = .ldc k ∧ len = 2 ∧ Cond.constant own k (Int32.ofInt n) ∈ AWs) ∨ (∃ k, raw = .ldc_w k ∧ len = 3 ∧ Cond.constant own k (Int32.ofInt n) ∈ AWs)
  | .sipush n => (∃ f : Fin 2, raw = .lconst f ∧ len = 1 ∧ Int64.ofNat (f : Nat) = Int64.ofInt n) ∨ (∃ k, raw = .ldc2_w k ∧ len = 3 ∧ Cond.constantLong own k (Int64.ofInt n) ∈ AWs)
  | .aconst_null => raw = .aconst_null ∧ len = 1
  | .ldc k => ∃ q, ((raw = .ldc q ∧ len = 2) ∨ (raw = .ldc_w q ∧ len = 3)) ∧ (own, q, k) ∈ strT
  | .getstatic 0 => ∃ q, raw = .getstatic q ∧ len = 3 ∧ Cond.fieldLink own q "SnowNames$Strikes" "WORTH" "[I" ∈ AWs
  | .getstatic 1 => ∃ q, raw = .getstatic q ∧ len = 3 ∧ Cond.fieldLink own q "java/lang/String" "COMPACT_STRINGS" "Z" ∈ AWs
  | .getstatic 2 => ∃ q, raw = .getstatic q ∧ len = 3 ∧ Cond.fieldLink own q "jdk/internal/util/Preconditions" "SIOOBE_FORMATTER" "Ljava/util/function/BiFunction;" ∈ AWs
  | .iload k => (∃ f : Fin 4, raw = .iload_n f ∧ (f : Nat) = k ∧ len = 1) ∨ (raw = .iload k ∧ len = 2)
  | .lload k => (∃ f : Fin 4, raw = .lload_n f ∧ (f : Nat) = k ∧ len = 1) ∨ (raw = .lload k ∧ len = 2)
  | .aload k => (∃ f : Fin 4, raw = .aload_n f ∧ (f : Nat) = k ∧ len = 1) ∨ (raw = .aload k ∧ len = 2)
  | .istore k => ((∃ f : Fin 4, raw = .istore_n f ∧ (f : Nat) = k ∧ len = 1) ∨ (raw = .istore k ∧ len = 2)) ∧ k < nL ∧ ∀ j, lg j = true → j + 1 ≠ k
  | .fstore k => ((∃ f : Fin 4, raw = .istore_n f ∧ (f : Nat) = k ∧ len = 1) ∨ (raw = .istore k ∧ len = 2)) ∧ k < nL
  | .lstore k => ((∃ f : Fin 4, raw = .lstore_n f ∧ (f : Nat) = k ∧ len = 1) ∨ (raw = .lstore k ∧ len = 2)) ∧ k + 1 < nL ∧ lg k = true ∧ ∀ j, lg j = true → j + 1 ≠ k
  | .astore k => ((∃ f : Fin 4, raw = .astore_n f ∧ (f : Nat) = k ∧ len = 1) ∨ (raw = .astore k ∧ len = 2)) ∧ k < nL ∧ ∀ j, lg j = true → j + 1 ≠ k
  | .iinc k n => raw = .iinc k n ∧ len = 3 ∧ k < nL
  | .getfield g => ∃ q r, raw = .getfield q ∧ len = 3 ∧ vwCl[g / 100]? = some r ∧ g % 100 < r.2.2 ∧ Cond.fieldLink own q (r.2.1 (g % 100)).1 (r.2.1 (g % 100)).2.1 (r.2.1 (g % 100)).2.2.1 ∈ AWs
  | .putfield g => ∃ q r, raw = .putfield q ∧ len = 3 ∧ vwCl[g / 100]? = some r ∧ g % 100 < r.2.2 ∧ Cond.fieldLink own q (r.2.1 (g % 100)).1 (r.2.1 (g % 100)).2.1 (r.2.1 (g % 100)).2.2.1 ∈ AWs ∧ parseFieldDescriptor (r.2.1 (g % 100)).2.2.1 = some .int ∧ ((r.2.1 (g % 100)).2.2.2 = false ∨ ((r.2.1 (g % 100)).2.2.2 = true ∧ ini = true ∧ (r.2.1 (g % 100)).1 = own))
  | .dstore g => ∃ q r, raw = .putfield q ∧ len = 3 ∧ vwCl[g / 100]? = some r ∧ g % 100 < r.2.2 ∧ Cond.fieldLink own q (r.2.1 (g % 100)).1 (r.2.1 (g % 100)).2.1 (r.2.1 (g % 100)).2.2.1 ∈ AWs ∧ parseFieldDescriptor (r.2.1 (g % 100)).2.2.1 = some .boolean ∧ ((r.2.1 (g % 100)).2.2.2 = false ∨ ((r.2.1 (g % 100)).2.2.2 = true ∧ ini = true ∧ (r.2.1 (g % 100)).1 = own))
  | .putstatic g => ∃ q r, raw = .putfield q ∧ len = 3 ∧ vwCl[g / 100]? = some r ∧ g % 100 < r.2.2 ∧ Cond.fieldLink own q (r.2.1 (g % 100)).1 (r.2.1 (g % 100)).2.1 (r.2.1 (g % 100)).2.2.1 ∈ AWs ∧ ((∃ n, parseFieldDescriptor (r.2.1 (g % 100)).2.2.1 = some (.object n)) ∨ ∃ t, parseFieldDescriptor (r.2.1 (g % 100)).2.2.1 = some (.array t)) ∧ ((r.2.1 (g % 100)).2.2.2 = false ∨ ((r.2.1 (g % 100)).2.2.2 = true ∧ ini = true ∧ (r.2.1 (g % 100)).1 = own))
  | .fload 0 => ∃ q, raw = .getfield q ∧ len = 3 ∧ Cond.fieldLink own q "java/lang/String" "value" "[B" ∈ AWs
  | .fload 1 => ∃ q, raw = .getfield q ∧ len = 3 ∧ Cond.fieldLink own q "java/lang/String" "coder" "B" ∈ AWs
  | .newarray t => raw = .newarray t ∧ len = 2
  | .anewarray _ => ∃ q, raw = .anewarray q ∧ len = 3 ∧ Cond.classLink own q "SnowNames$World" ∈ AWs
  | .new ci => ∃ q r, raw = .new q ∧ len = 3 ∧ vwCl[ci]? = some r ∧ Cond.classLink own q r.1 ∈ AWs
  | .invokespecial _ => ∃ q, raw = .invokespecial q ∧ len = 3 ∧ Cond.methodLink own q Lib.objectInit ∈ AWs
  | .invokestatic 0 => ∃ q, raw = .invokestatic q ∧ len = 3 ∧ Cond.methodLink own q Lib.Math.min.name ∈ AWs
  | .invokestatic 1 => ∃ q, raw = .invokestatic q ∧ len = 3 ∧ Cond.methodLink own q Lib.Math.max.name ∈ AWs
  | .invokestatic 2 => ∃ q, raw = .invokestatic q ∧ len = 3 ∧ Cond.methodLink own q arraycopyName ∈ AWs
  | .invokestatic 3 => ∃ q, raw = .invokevirtual q ∧ len = 3 ∧ Cond.methodLink own q ⟨"[I", "clone", "()Ljava/lang/Object;"⟩ ∈ AWs
  | .checkcast _ => ∃ q, raw = .checkcast q ∧ len = 3 ∧ Cond.classLink own q "[I" ∈ AWs
  | .ret _ => len = 0
  | .iadd => raw = .iadd ∧ len = 1
  | .isub => raw = .isub ∧ len = 1
  | .imul => raw = .imul ∧ len = 1
  | .ineg => raw = .ineg ∧ len = 1
  | .idiv => raw = .idiv ∧ len = 1
  | .irem => raw = .irem ∧ len = 1
  | .iand => raw = .iand ∧ len = 1
  | .ior => raw = .ior ∧ len = 1
  | .ixor => raw = .ixor ∧ len = 1
  | .ishl => raw = .ishl ∧ len = 1
  | .ishr => raw = .ishr ∧ len = 1
  | .iushr => raw = .iushr ∧ len = 1
  | .ladd => raw = .ladd ∧ len = 1
  | .lsub => raw = .lsub ∧ len = 1
  | .lmul => raw = .lmul ∧ len = 1
  | .ldiv => raw = .ldiv ∧ len = 1
  | .i2l => raw = .i2l ∧ len = 1
  | .l2i => raw = .l2i ∧ len = 1
  | .i2c => raw = .i2c ∧ len = 1
  | .lcmp => raw = .lcmp ∧ len = 1
  | .dup => raw = .dup ∧ len = 1
  | .dup2 => raw = .dup2 ∧ len = 1
  | .pop => raw = .pop ∧ len = 1
  | .iaload => raw = .iaload ∧ len = 1
  | .laload => raw = .laload ∧ len = 1
  | .baload => raw = .baload ∧ len = 1
  | .aaload => raw = .aaload ∧ len = 1
  | .iastore => raw = .iastore ∧ len = 1
  | .lastore => raw = .lastore ∧ len = 1
  | .bastore => raw = .bastore ∧ len = 1
  | .aastore => raw = .aastore ∧ len = 1
  | .arraylength => raw = .arraylength ∧ len = 1
  | _ => False
/-- a method's frame, whatever it does -/
def FX (p : Program) (R : Room) (s : State) (mI : MethodId) (args : Array Value) (meth : Method) (c : Code) (cc : ByteArray) (nL : Nat) (own : String) (ini : Bool) : Prop :=
  p.tables.exec = Jvm.exec ∧ c.code = cc ∧ c.maxLocals = nL ∧ s.vm.findClass own = some mI.cls ∧ (∀ w ∈ AWs, w.before args s = true) ∧ meth.locks = false ∧ (ini = true → meth.name = "<init>") ∧ (1 ≤ R.frames ∧ 400 ≤ R.locals)
def ST (D : va_G) (ka : KA) (xa : Nat → Nat) (zv : Value) (A : Nat → Prop) (s : State) (lg : Nat → Bool) (nL c0 w0 : Nat) (ad : Nat → Nat) (lsR : Array Slot) (ls : List AV) (m : AM) (H : Heap) (locs : List Loc) (cells slots : Nat) : Prop :=
  LR ad xa zv lsR nL ls ∧ va_P D vwCl (wsA ad xa zv ka m) H ∧ va_D A (wsA ad xa zv ka m) ∧ okM m ∧ (∀ v ∈ ls, okV m.2.1 v) ∧ LG lg ls ∧ va_S A s.heap H locs ∧ cells + c0 = m.2.2.1 ∧ slots + w0 = m.2.2.2
section SimStep
variable {p : Program} {l : Launch} {e : Env} {R : Room} {s : State} {mI : MethodId} {args : Array Value} {below : List Frame} {meth : Method} {c : Code} {H : Heap} {locs : List Loc} {cells slots : Nat} {Q : State → Prop}
variable {cc : ByteArray} {nL c0 w0 pc len : Nat} {own : String} {ini : Bool} {lg : Nat → Bool} {tb : Tab} {D : va_G} {ka : KA} {xa : Nat → Nat} {zv : Value} {A : Nat → Prop} {ad : Nat → Nat} {lsR : Array Slot} {ls ls' st st' : List AV} {m m' : AM} {raw : Instr} {φ : Prop}
theorem sm_ldcSW (hexec : p.tables.exec = Jvm.exec) (hb : c.code = cc) {tx : String} {index q : Nat} {lr : Array Slot} {rest : List Value} (hown : s.vm.findClass own = some mI.cls) (hZ : vk_R own index tx q s) (hdg : decode cc pc = .ok (.ldc_w index, 3))
    (kk : W p l e R s mI args below meth c H locs cells slots Q (F0 mI (pc + 3) lr (.ref q :: rest))) : W p l e R s mI args below meth c H locs cells slots Q (F0 mI pc lr rest) := by
  intro T hT X
  obtain ⟨t, a1, b1⟩ := kk T hT X
  exact ⟨t, X.ldcStringW hexec hown (text := tx) (a := q) hZ.1 hZ.2 (g := F0 mI pc lr rest) rfl (by rw [hb]; exact hdg) t a1, b1⟩
theorem sm_lt {m : AM} (h : okM m) {a ci : Nat} {fs : List AV} {r : vw_C} (hc : m.1 a = co ci fs) (hr : vwCl[ci]? = some r) : a < m.2.1 := by
  refine h.lt hc (fun q => ?_)
  have e : ci = 999 := by
    have := Sum.inl.inj q
    exact congrArg Prod.fst this
  rw [e] at hr
  cases hr
theorem sm_ltA {m : AM} (h : okM m) {a : Nat} {x} (hc : m.1 a = .inr x) : a < m.2.1 := h.lt hc (fun q => nomatch q)

set_option maxHeartbeats 4000000 in
theorem sm_iadd (hF : FX p R s mI args meth c cc nL own ini) (hG : GF tb D ka xa zv A s s.heap) (hA : ∀ q, s.heap.size ≤ q → A q) (hC : CFacts tb) (hJ : JFacts) (hS : ST D ka xa zv A s lg nL c0 w0 ad lsR ls m H locs cells slots) (hst : ∀ v ∈ st, okV m.2.1 v)
    (h : sI tb (.iadd) ls st m = some (φ, ls', st', m')) (hφ : φ) (hd : decode cc pc = .ok (raw, len)) (hk : iOK own ini lg nL raw len (.iadd)) (hr : m'.2.2.1 ≤ R.cells + c0 ∧ m'.2.2.2 ≤ R.slots + w0)
    (kk : ∀ ad' lsR' H' locs' cells' slots', (∀ k, k < m.2.1 → ad' k = ad k) → ST D ka xa zv A s lg nL c0 w0 ad' lsR' ls' m' H' locs' cells' slots' → (∀ v ∈ st', okV m'.2.1 v) → W p l e R s mI args below meth c H' locs' cells' slots' Q (F0 mI (pc + len) lsR' (st'.map (rv ad' xa zv)))) :
    W p l e R s mI args below meth c H locs cells slots Q (F0 mI pc lsR (st.map (rv ad xa zv))) := by
  obtain ⟨hx, hb, hml, hown, hts, hlocks, hin, hfr, hlo⟩ := hF
  obtain ⟨hL, hP, hD, hM, hokL, hLG, hVS, hc0, hw0⟩ := id hS
  dsimp only [sI] at h
  obtain ⟨rfl, rfl⟩ := hk
  split at h
  next y x st0 =>
    obtain ⟨rfl, rfl, rfl, rfl⟩ := h
    refine lv_iadd hx hb hd ?_
    rw [← Int32.ofInt_add]
    exact kk ad lsR H locs cells slots (fun _ _ => rfl) hS (fun v hv => (List.mem_cons.mp hv).elim (fun q => by rw [q]; trivial) (fun hv => hst v (List.mem_cons_of_mem _ (List.mem_cons_of_mem _ hv))))
  next => cases h

set_option maxHeartbeats 4000000 in
theorem sm_isub (hF : FX p R s mI args meth c cc nL own ini) (hG : GF tb D ka xa zv A s s.heap) (hA : ∀ q, s.heap.size ≤ q → A q) (hC : CFacts tb) (hJ : JFacts) (hS : ST D ka xa zv A s lg nL c0 w0 ad lsR ls m H locs cells slots) (hst : ∀ v ∈ st, okV m.2.1 v)
    (h : sI tb (.isub) ls st m = some (φ, ls', st', m')) (hφ : φ) (hd : decode cc pc = .ok (raw, len)) (hk : iOK own ini lg nL raw len (.isub)) (hr : m'.2.2.1 ≤ R.cells + c0 ∧ m'.2.2.2 ≤ R.slots + w0)
    (kk : ∀ ad' lsR' H' locs' cells' slots', (∀ k, k < m.2.1 → ad' k = ad k) → ST D ka xa zv A s lg nL c0 w0 ad' lsR' ls' m' H' locs' cells' slots' → (∀ v ∈ st', okV m'.2.1 v) → W p l e R s mI args below meth c H' locs' cells' slots' Q (F0 mI (pc + len) lsR' (st'.map (rv ad' xa zv)))) :
    W p l e R s mI args below meth c H locs cells slots Q (F0 mI pc lsR (st.map (rv ad xa zv))) := by
  obtain ⟨hx, hb, hml, hown, hts, hlocks, hin, hfr, hlo⟩ := hF
  obtain ⟨hL, hP, hD, hM, hokL, hLG, hVS, hc0, hw0⟩ := id hS
  dsimp only [sI] at h
  obtain ⟨rfl, rfl⟩ := hk
  split at h
  next y x st0 =>
    obtain ⟨rfl, rfl, rfl, rfl⟩ := h
    refine lv_isub hx hb hd ?_
    rw [← Int32.ofInt_sub]
    exact kk ad lsR H locs cells slots (fun _ _ => rfl) hS (fun v hv => (List.mem_cons.mp hv).elim (fun q => by rw [q]; trivial) (fun hv => hst v (List.mem_cons_of_mem _ (List.mem_cons_of_mem _ hv))))
  next => cases h

set_option maxHeartbeats 4000000 in
theorem sm_imul (hF : FX p R s mI args meth c cc nL own ini) (hG : GF tb D ka xa zv A s s.heap) (hA : ∀ q, s.heap.size ≤ q → A q) (hC : CFacts tb) (hJ : JFacts) (hS : ST D ka xa zv A s lg nL c0 w0 ad lsR ls m H locs cells slots) (hst : ∀ v ∈ st, okV m.2.1 v)
    (h : sI tb (.imul) ls st m = some (φ, ls', st', m')) (hφ : φ) (hd : decode cc pc = .ok (raw, len)) (hk : iOK own ini lg nL raw len (.imul)) (hr : m'.2.2.1 ≤ R.cells + c0 ∧ m'.2.2.2 ≤ R.slots + w0)
    (kk : ∀ ad' lsR' H' locs' cells' slots', (∀ k, k < m.2.1 → ad' k = ad k) → ST D ka xa zv A s lg nL c0 w0 ad' lsR' ls' m' H' locs' cells' slots' → (∀ v ∈ st', okV m'.2.1 v) → W p l e R s mI args below meth c H' locs' cells' slots' Q (F0 mI (pc + len) lsR' (st'.map (rv ad' xa zv)))) :
    W p l e R s mI args below meth c H locs cells slots Q (F0 mI pc lsR (st.map (rv ad xa zv))) := by
  obtain ⟨hx, hb, hml, hown, hts, hlocks, hin, hfr, hlo⟩ := hF
  obtain ⟨hL, hP, hD, hM, hokL, hLG, hVS, hc0, hw0⟩ := id hS
  dsimp only [sI] at h
  obtain ⟨rfl, rfl⟩ := hk
  split at h
  next y x st0 =>
    obtain ⟨rfl, rfl, rfl, rfl⟩ := h
    refine lv_imul hx hb hd ?_
    rw [← Int32.ofInt_mul]
    exact kk ad lsR H locs cells slots (fun _ _ => rfl) hS (fun v hv => (List.mem_cons.mp hv).elim (fun q => by rw [q]; trivial) (fun hv => hst v (List.mem_cons_of_mem _ (List.mem_cons_of_mem _ hv))))
  next => cases h

set_option maxHeartbeats 4000000 in
theorem sm_iand (hF : FX p R s mI args meth c cc nL own ini) (hG : GF tb D ka xa zv A s s.heap) (hA : ∀ q, s.heap.size ≤ q → A q) (hC : CFacts tb) (hJ : JFacts) (hS : ST D ka xa zv A s lg nL c0 w0 ad lsR ls m H locs cells slots) (hst : ∀ v ∈ st, okV m.2.1 v)
    (h : sI tb (.iand) ls st m = some (φ, ls', st', m')) (hφ : φ) (hd : decode cc pc = .ok (raw, len)) (hk : iOK own ini lg nL raw len (.iand)) (hr : m'.2.2.1 ≤ R.cells + c0 ∧ m'.2.2.2 ≤ R.slots + w0)
    (kk : ∀ ad' lsR' H' locs' cells' slots', (∀ k, k < m.2.1 → ad' k = ad k) → ST D ka xa zv A s lg nL c0 w0 ad' lsR' ls' m' H' locs' cells' slots' → (∀ v ∈ st', okV m'.2.1 v) → W p l e R s mI args below meth c H' locs' cells' slots' Q (F0 mI (pc + len) lsR' (st'.map (rv ad' xa zv)))) :
    W p l e R s mI args below meth c H locs cells slots Q (F0 mI pc lsR (st.map (rv ad xa zv))) := by
  obtain ⟨hx, hb, hml, hown, hts, hlocks, hin, hfr, hlo⟩ := hF
  obtain ⟨hL, hP, hD, hM, hokL, hLG, hVS, hc0, hw0⟩ := id hS
  dsimp only [sI] at h
  obtain ⟨rfl, rfl⟩ := hk
  split at h
  next y x st0 =>
    obtain ⟨rfl, rfl, rfl, rfl⟩ := h
    refine lv_iand hx hb hd ?_
    rw [← nt_and]
    exact kk ad lsR H locs cells slots (fun _ _ => rfl) hS (fun v hv => (List.mem_cons.mp hv).elim (fun q => by rw [q]; trivial) (fun hv => hst v (List.mem_cons_of_mem _ (List.mem_cons_of_mem _ hv))))
  next => cases h

set_option maxHeartbeats 4000000 in
theorem sm_ior (hF : FX p R s mI args meth c cc nL own ini) (hG : GF tb D ka xa zv A s s.heap) (hA : ∀ q, s.heap.size ≤ q → A q) (hC : CFacts tb) (hJ : JFacts) (hS : ST D ka xa zv A s lg nL c0 w0 ad lsR ls m H locs cells slots) (hst : ∀ v ∈ st, okV m.2.1 v)
    (h : sI tb (.ior) ls st m = some (φ, ls', st', m')) (hφ : φ) (hd : decode cc pc = .ok (raw, len)) (hk : iOK own ini lg nL raw len (.ior)) (hr : m'.2.2.1 ≤ R.cells + c0 ∧ m'.2.2.2 ≤ R.slots + w0)
    (kk : ∀ ad' lsR' H' locs' cells' slots', (∀ k, k < m.2.1 → ad' k = ad k) → ST D ka xa zv A s lg nL c0 w0 ad' lsR' ls' m' H' locs' cells' slots' → (∀ v ∈ st', okV m'.2.1 v) → W p l e R s mI args below meth c H' locs' cells' slots' Q (F0 mI (pc + len) lsR' (st'.map (rv ad' xa zv)))) :
    W p l e R s mI args below meth c H locs cells slots Q (F0 mI pc lsR (st.map (rv ad xa zv))) := by
  obtain ⟨hx, hb, hml, hown, hts, hlocks, hin, hfr, hlo⟩ := hF
  obtain ⟨hL, hP, hD, hM, hokL, hLG, hVS, hc0, hw0⟩ := id hS
  dsimp only [sI] at h
  obtain ⟨rfl, rfl⟩ := hk
  split at h
  next y x st0 =>
    obtain ⟨rfl, rfl, rfl, rfl⟩ := h
    refine lv_ior hx hb hd ?_
    rw [← nt_or]
    exact kk ad lsR H locs cells slots (fun _ _ => rfl) hS (fun v hv => (List.mem_cons.mp hv).elim (fun q => by rw [q]; trivial) (fun hv => hst v (List.mem_cons_of_mem _ (List.mem_cons_of_mem _ hv))))
  next => cases h

set_option maxHeartbeats 4000000 in
theorem sm_ixor (hF : FX p R s mI args meth c cc nL own ini) (hG : GF tb D ka xa zv A s s.heap) (hA : ∀ q, s.heap.size ≤ q → A q) (hC : CFacts tb) (hJ : JFacts) (hS : ST D ka xa zv A s lg nL c0 w0 ad lsR ls m H locs cells slots) (hst : ∀ v ∈ st, okV m.2.1 v)
    (h : sI tb (.ixor) ls st m = some (φ, ls', st', m')) (hφ : φ) (hd : decode cc pc = .ok (raw, len)) (hk : iOK own ini lg nL raw len (.ixor)) (hr : m'.2.2.1 ≤ R.cells + c0 ∧ m'.2.2.2 ≤ R.slots + w0)
    (kk : ∀ ad' lsR' H' locs' cells' slots', (∀ k, k < m.2.1 → ad' k = ad k) → ST D ka xa zv A s lg nL c0 w0 ad' lsR' ls' m' H' locs' cells' slots' → (∀ v ∈ st', okV m'.2.1 v) → W p l e R s mI args below meth c H' locs' cells' slots' Q (F0 mI (pc + len) lsR' (st'.map (rv ad' xa zv)))) :
    W p l e R s mI args below meth c H locs cells slots Q (F0 mI pc lsR (st.map (rv ad xa zv))) := by
  obtain ⟨hx, hb, hml, hown, hts, hlocks, hin, hfr, hlo⟩ := hF
  obtain ⟨hL, hP, hD, hM, hokL, hLG, hVS, hc0, hw0⟩ := id hS
  dsimp only [sI] at h
  obtain ⟨rfl, rfl⟩ := hk
  split at h
  next y x st0 =>
    obtain ⟨rfl, rfl, rfl, rfl⟩ := h
    refine lv_ixor hx hb hd ?_
    rw [← nt_xor]
    exact kk ad lsR H locs cells slots (fun _ _ => rfl) hS (fun v hv => (List.mem_cons.mp hv).elim (fun q => by rw [q]; trivial) (fun hv => hst v (List.mem_cons_of_mem _ (List.mem_cons_of_mem _ hv))))
  next => cases h

set_option maxHeartbeats 4000000 in
theorem sm_ishl (hF : FX p R s mI args meth c cc nL own ini) (hG : GF tb D ka xa zv A s s.heap) (hA : ∀ q, s.heap.size ≤ q → A q) (hC : CFacts tb) (hJ : JFacts) (hS : ST D ka xa zv A s lg nL c0 w0 ad lsR ls m H locs cells slots) (hst : ∀ v ∈ st, okV m.2.1 v)
    (h : sI tb (.ishl) ls st m = some (φ, ls', st', m')) (hφ : φ) (hd : decode cc pc = .ok (raw, len)) (hk : iOK own ini lg nL raw len (.ishl)) (hr : m'.2.2.1 ≤ R.cells + c0 ∧ m'.2.2.2 ≤ R.slots + w0)
    (kk : ∀ ad' lsR' H' locs' cells' slots', (∀ k, k < m.2.1 → ad' k = ad k) → ST D ka xa zv A s lg nL c0 w0 ad' lsR' ls' m' H' locs' cells' slots' → (∀ v ∈ st', okV m'.2.1 v) → W p l e R s mI args below meth c H' locs' cells' slots' Q (F0 mI (pc + len) lsR' (st'.map (rv ad' xa zv)))) :
    W p l e R s mI args below meth c H locs cells slots Q (F0 mI pc lsR (st.map (rv ad xa zv))) := by
  obtain ⟨hx, hb, hml, hown, hts, hlocks, hin, hfr, hlo⟩ := hF
  obtain ⟨hL, hP, hD, hM, hokL, hLG, hVS, hc0, hw0⟩ := id hS
  dsimp only [sI] at h
  obtain ⟨rfl, rfl⟩ := hk
  split at h
  next y x st0 =>
    obtain ⟨rfl, rfl, rfl, rfl⟩ := h
    refine lv_ishl hx hb hd ?_
    rw [← nt_shl]
    exact kk ad lsR H locs cells slots (fun _ _ => rfl) hS (fun v hv => (List.mem_cons.mp hv).elim (fun q => by rw [q]; trivial) (fun hv => hst v (List.mem_cons_of_mem _ (List.mem_cons_of_mem _ hv))))
  next => cases h

set_option maxHeartbeats 4000000 in
theorem sm_ishr (hF : FX p R s mI args meth c cc nL own ini) (hG : GF tb D ka xa zv A s s.heap) (hA : ∀ q, s.heap.size ≤ q → A q) (hC : CFacts tb) (hJ : JFacts) (hS : ST D ka xa zv A s lg nL c0 w0 ad lsR ls m H locs cells slots) (hst : ∀ v ∈ st, okV m.2.1 v)
    (h : sI tb (.ishr) ls st m = some (φ, ls', st', m')) (hφ : φ) (hd : decode cc pc = .ok (raw, len)) (hk : iOK own ini lg nL raw len (.ishr)) (hr : m'.2.2.1 ≤ R.cells + c0 ∧ m'.2.2.2 ≤ R.slots + w0)
    (kk : ∀ ad' lsR' H' locs' cells' slots', (∀ k, k < m.2.1 → ad' k = ad k) → ST D ka xa zv A s lg nL c0 w0 ad' lsR' ls' m' H' locs' cells' slots' → (∀ v ∈ st', okV m'.2.1 v) → W p l e R s mI args below meth c H' locs' cells' slots' Q (F0 mI (pc + len) lsR' (st'.map (rv ad' xa zv)))) :
    W p l e R s mI args below meth c H locs cells slots Q (F0 mI pc lsR (st.map (rv ad xa zv))) := by
  obtain ⟨hx, hb, hml, hown, hts, hlocks, hin, hfr, hlo⟩ := hF
  obtain ⟨hL, hP, hD, hM, hokL, hLG, hVS, hc0, hw0⟩ := id hS
  dsimp only [sI] at h
  obtain ⟨rfl, rfl⟩ := hk
  split at h
  next y x st0 =>
    obtain ⟨rfl, rfl, rfl, rfl⟩ := h
    refine lv_ishr hx hb hd ?_
    rw [← nt_shr]
    exact kk ad lsR H locs cells slots (fun _ _ => rfl) hS (fun v hv => (List.mem_cons.mp hv).elim (fun q => by rw [q]; trivial) (fun hv => hst v (List.mem_cons_of_mem _ (List.mem_cons_of_mem _ hv))))
  next => cases h

set_option maxHeartbeats 4000000 in
theorem sm_iushr (hF : FX p R s mI args meth c cc nL own ini) (hG : GF tb D ka xa zv A s s.heap) (hA : ∀ q, s.heap.size ≤ q → A q) (hC : CFacts tb) (hJ : JFacts) (hS : ST D ka xa zv A s lg nL c0 w0 ad lsR ls m H locs cells slots) (hst : ∀ v ∈ st, okV m.2.1 v)
    (h : sI tb (.iushr) ls st m = some (φ, ls', st', m')) (hφ : φ) (hd : decode cc pc = .ok (raw, len)) (hk : iOK own ini lg nL raw len (.iushr)) (hr : m'.2.2.1 ≤ R.cells + c0 ∧ m'.2.2.2 ≤ R.slots + w0)
    (kk : ∀ ad' lsR' H' locs' cells' slots', (∀ k, k < m.2.1 → ad' k = ad k) → ST D ka xa zv A s lg nL c0 w0 ad' lsR' ls' m' H' locs' cells' slots' → (∀ v ∈ st', okV m'.2.1 v) → W p l e R s mI args below meth c H' locs' cells' slots' Q (F0 mI (pc + len) lsR' (st'.map (rv ad' xa zv)))) :
    W p l e R s mI args below meth c H locs cells slots Q (F0 mI pc lsR (st.map (rv ad xa zv))) := by
  obtain ⟨hx, hb, hml, hown, hts, hlocks, hin, hfr, hlo⟩ := hF
  obtain ⟨hL, hP, hD, hM, hokL, hLG, hVS, hc0, hw0⟩ := id hS
  dsimp only [sI] at h
  obtain ⟨rfl, rfl⟩ := hk
  split at h
  next y x st0 =>
    obtain ⟨rfl, rfl, rfl, rfl⟩ := h
    refine lv_iushr (v := Int32.ofInt (ushrI x y)) hx hb hd (nt_ushr x y).symm ?_
    exact kk ad lsR H locs cells slots (fun _ _ => rfl) hS (fun v hv => (List.mem_cons.mp hv).elim (fun q => by rw [q]; trivial) (fun hv => hst v (List.mem_cons_of_mem _ (List.mem_cons_of_mem _ hv))))
  next => cases h

set_option maxHeartbeats 4000000 in
theorem sm_idiv (hF : FX p R s mI args meth c cc nL own ini) (hG : GF tb D ka xa zv A s s.heap) (hA : ∀ q, s.heap.size ≤ q → A q) (hC : CFacts tb) (hJ : JFacts) (hS : ST D ka xa zv A s lg nL c0 w0 ad lsR ls m H locs cells slots) (hst : ∀ v ∈ st, okV m.2.1 v)
    (h : sI tb (.idiv) ls st m = some (φ, ls', st', m')) (hφ : φ) (hd : decode cc pc = .ok (raw, len)) (hk : iOK own ini lg nL raw len (.idiv)) (hr : m'.2.2.1 ≤ R.cells + c0 ∧ m'.2.2.2 ≤ R.slots + w0)
    (kk : ∀ ad' lsR' H' locs' cells' slots', (∀ k, k < m.2.1 → ad' k = ad k) → ST D ka xa zv A s lg nL c0 w0 ad' lsR' ls' m' H' locs' cells' slots' → (∀ v ∈ st', okV m'.2.1 v) → W p l e R s mI args below meth c H' locs' cells' slots' Q (F0 mI (pc + len) lsR' (st'.map (rv ad' xa zv)))) :
    W p l e R s mI args below meth c H locs cells slots Q (F0 mI pc lsR (st.map (rv ad xa zv))) := by
  obtain ⟨hx, hb, hml, hown, hts, hlocks, hin, hfr, hlo⟩ := hF
  obtain ⟨hL, hP, hD, hM, hokL, hLG, hVS, hc0, hw0⟩ := id hS
  dsimp only [sI] at h
  obtain ⟨rfl, rfl⟩ := hk
  split at h
  next y x st0 =>
    obtain ⟨rfl, rfl, rfl, rfl⟩ := h
    refine lv_idiv hx hb hd (nt_ne0 hφ.2) ?_
    rw [nt_div hφ.1 hφ.2]
    exact kk ad lsR H locs cells slots (fun _ _ => rfl) hS (fun v hv => (List.mem_cons.mp hv).elim (fun q => by rw [q]; trivial) (fun hv => hst v (List.mem_cons_of_mem _ (List.mem_cons_of_mem _ hv))))
  next => cases h

set_option maxHeartbeats 4000000 in
theorem sm_irem (hF : FX p R s mI args meth c cc nL own ini) (hG : GF tb D ka xa zv A s s.heap) (hA : ∀ q, s.heap.size ≤ q → A q) (hC : CFacts tb) (hJ : JFacts) (hS : ST D ka xa zv A s lg nL c0 w0 ad lsR ls m H locs cells slots) (hst : ∀ v ∈ st, okV m.2.1 v)
    (h : sI tb (.irem) ls st m = some (φ, ls', st', m')) (hφ : φ) (hd : decode cc pc = .ok (raw, len)) (hk : iOK own ini lg nL raw len (.irem)) (hr : m'.2.2.1 ≤ R.cells + c0 ∧ m'.2.2.2 ≤ R.slots + w0)
    (kk : ∀ ad' lsR' H' locs' cells' slots', (∀ k, k < m.2.1 → ad' k = ad k) → ST D ka xa zv A s lg nL c0 w0 ad' lsR' ls' m' H' locs' cells' slots' → (∀ v ∈ st', okV m'.2.1 v) → W p l e R s mI args below meth c H' locs' cells' slots' Q (F0 mI (pc + len) lsR' (st'.map (rv ad' xa zv)))) :
    W p l e R s mI args below meth c H locs cells slots Q (F0 mI pc lsR (st.map (rv ad xa zv))) := by
  obtain ⟨hx, hb, hml, hown, hts, hlocks, hin, hfr, hlo⟩ := hF
  obtain ⟨hL, hP, hD, hM, hokL, hLG, hVS, hc0, hw0⟩ := id hS
  dsimp only [sI] at h
  obtain ⟨rfl, rfl⟩ := hk
  split at h
  next y x st0 =>
    obtain ⟨rfl, rfl, rfl, rfl⟩ := h
    refine lv_irem hx hb hd (nt_ne0 hφ.2) ?_
    rw [nt_rem hφ.1 hφ.2]
    exact kk ad lsR H locs cells slots (fun _ _ => rfl) hS (fun v hv => (List.mem_cons.mp hv).elim (fun q => by rw [q]; trivial) (fun hv => hst v (List.mem_cons_of_mem _ (List.mem_cons_of_mem _ hv))))
  next => cases h

set_option maxHeartbeats 4000000 in
theorem sm_ladd (hF : FX p R s mI args meth c cc nL own ini) (hG : GF tb D ka xa zv A s s.heap) (hA : ∀ q, s.heap.size ≤ q → A q) (hC : CFacts tb) (hJ : JFacts) (hS : ST D ka xa zv A s lg nL c0 w0 ad lsR ls m H locs cells slots) (hst : ∀ v ∈ st, okV m.2.1 v)
    (h : sI tb (.ladd) ls st m = some (φ, ls', st', m')) (hφ : φ) (hd : decode cc pc = .ok (raw, len)) (hk : iOK own ini lg nL raw len (.ladd)) (hr : m'.2.2.1 ≤ R.cells + c0 ∧ m'.2.2.2 ≤ R.slots + w0)
    (kk : ∀ ad' lsR' H' locs' cells' slots', (∀ k, k < m.2.1 → ad' k = ad k) → ST D ka xa zv A s lg nL c0 w0 ad' lsR' ls' m' H' locs' cells' slots' → (∀ v ∈ st', okV m'.2.1 v) → W p l e R s mI args below meth c H' locs' cells' slots' Q (F0 mI (pc + len) lsR' (st'.map (rv ad' xa zv)))) :
    W p l e R s mI args below meth c H locs cells slots Q (F0 mI pc lsR (st.map (rv ad xa zv))) := by
  obtain ⟨hx, hb, hml, hown, hts, hlocks, hin, hfr, hlo⟩ := hF
  obtain ⟨hL, hP, hD, hM, hokL, hLG, hVS, hc0, hw0⟩ := id hS
  dsimp only [sI] at h
  obtain ⟨rfl, rfl⟩ := hk
  split at h
  next y x st0 =>
    obtain ⟨rfl, rfl, rfl, rfl⟩ := h
    refine lv_ladd hx hb hd ?_
    rw [← Int64.ofInt_add]
    exact kk ad lsR H locs cells slots (fun _ _ => rfl) hS (fun v hv => (List.mem_cons.mp hv).elim (fun q => by rw [q]; trivial) (fun hv => hst v (List.mem_cons_of_mem _ (List.mem_cons_of_mem _ hv))))
  next => cases h

set_option maxHeartbeats 4000000 in
theorem sm_lsub (hF : FX p R s mI args meth c cc nL own ini) (hG : GF tb D ka xa zv A s s.heap) (hA : ∀ q, s.heap.size ≤ q → A q) (hC : CFacts tb) (hJ : JFacts) (hS : ST D ka xa zv A s lg nL c0 w0 ad lsR ls m H locs cells slots) (hst : ∀ v ∈ st, okV m.2.1 v)
    (h : sI tb (.lsub) ls st m = some (φ, ls', st', m')) (hφ : φ) (hd : decode cc pc = .ok (raw, len)) (hk : iOK own ini lg nL raw len (.lsub)) (hr : m'.2.2.1 ≤ R.cells + c0 ∧ m'.2.2.2 ≤ R.slots + w0)
    (kk : ∀ ad' lsR' H' locs' cells' slots', (∀ k, k < m.2.1 → ad' k = ad k) → ST D ka xa zv A s lg nL c0 w0 ad' lsR' ls' m' H' locs' cells' slots' → (∀ v ∈ st', okV m'.2.1 v) → W p l e R s mI args below meth c H' locs' cells' slots' Q (F0 mI (pc + len) lsR' (st'.map (rv ad' xa zv)))) :
    W p l e R s mI args below meth c H locs cells slots Q (F0 mI pc lsR (st.map (rv ad xa zv))) := by
  obtain ⟨hx, hb, hml, hown, hts, hlocks, hin, hfr, hlo⟩ := hF
  obtain ⟨hL, hP, hD, hM, hokL, hLG, hVS, hc0, hw0⟩ := id hS
  dsimp only [sI] at h
  obtain ⟨rfl, rfl⟩ := hk
  split at h
  next y x st0 =>
    obtain ⟨rfl, rfl, rfl, rfl⟩ := h
    refine lv_lsub hx hb hd ?_
    rw [← Int64.ofInt_sub]
    exact kk ad lsR H locs cells slots (fun _ _ => rfl) hS (fun v hv => (List.mem_cons.mp hv).elim (fun q => by rw [q]; trivial) (fun hv => hst v (List.mem_cons_of_mem _ (List.mem_cons_of_mem _ hv))))
  next => cases h

set_option maxHeartbeats 4000000 in
theorem sm_lmul (hF : FX p R s mI args meth c cc nL own ini) (hG : GF tb D ka xa zv A s s.heap) (hA : ∀ q, s.heap.size ≤ q → A q) (hC : CFacts tb) (hJ : JFacts) (hS : ST D ka xa zv A s lg nL c0 w0 ad lsR ls m H locs cells slots) (hst : ∀ v ∈ st, okV m.2.1 v)
    (h : sI tb (.lmul) ls st m = some (φ, ls', st', m')) (hφ : φ) (hd : decode cc pc = .ok (raw, len)) (hk : iOK own ini lg nL raw len (.lmul)) (hr : m'.2.2.1 ≤ R.cells + c0 ∧ m'.2.2.2 ≤ R.slots + w0)
    (kk : ∀ ad' lsR' H' locs' cells' slots', (∀ k, k < m.2.1 → ad' k = ad k) → ST D ka xa zv A s lg nL c0 w0 ad' lsR' ls' m' H' locs' cells' slots' → (∀ v ∈ st', okV m'.2.1 v) → W p l e R s mI args below meth c H' locs' cells' slots' Q (F0 mI (pc + len) lsR' (st'.map (rv ad' xa zv)))) :
    W p l e R s mI args below meth c H locs cells slots Q (F0 mI pc lsR (st.map (rv ad xa zv))) := by
  obtain ⟨hx, hb, hml, hown, hts, hlocks, hin, hfr, hlo⟩ := hF
  obtain ⟨hL, hP, hD, hM, hokL, hLG, hVS, hc0, hw0⟩ := id hS
  dsimp only [sI] at h
  obtain ⟨rfl, rfl⟩ := hk
  split at h
  next y x st0 =>
    obtain ⟨rfl, rfl, rfl, rfl⟩ := h
    refine lv_lmul hx hb hd ?_
    rw [← Int64.ofInt_mul]
    exact kk ad lsR H locs cells slots (fun _ _ => rfl) hS (fun v hv => (List.mem_cons.mp hv).elim (fun q => by rw [q]; trivial) (fun hv => hst v (List.mem_cons_of_mem _ (List.mem_cons_of_mem _ hv))))
  next => cases h

set_option maxHeartbeats 4000000 in
theorem sm_ldiv (hF : FX p R s mI args meth c cc nL own ini) (hG : GF tb D ka xa zv A s s.heap) (hA : ∀ q, s.heap.size ≤ q → A q) (hC : CFacts tb) (hJ : JFacts) (hS : ST D ka xa zv A s lg nL c0 w0 ad lsR ls m H locs cells slots) (hst : ∀ v ∈ st, okV m.2.1 v)
    (h : sI tb (.ldiv) ls st m = some (φ, ls', st', m')) (hφ : φ) (hd : decode cc pc = .ok (raw, len)) (hk : iOK own ini lg nL raw len (.ldiv)) (hr : m'.2.2.1 ≤ R.cells + c0 ∧ m'.2.2.2 ≤ R.slots + w0)
    (kk : ∀ ad' lsR' H' locs' cells' slots', (∀ k, k < m.2.1 → ad' k = ad k) → ST D ka xa zv A s lg nL c0 w0 ad' lsR' ls' m' H' locs' cells' slots' → (∀ v ∈ st', okV m'.2.1 v) → W p l e R s mI args below meth c H' locs' cells' slots' Q (F0 mI (pc + len) lsR' (st'.map (rv ad' xa zv)))) :
    W p l e R s mI args below meth c H locs cells slots Q (F0 mI pc lsR (st.map (rv ad xa zv))) := by
  obtain ⟨hx, hb, hml, hown, hts, hlocks, hin, hfr, hlo⟩ := hF
  obtain ⟨hL, hP, hD, hM, hokL, hLG, hVS, hc0, hw0⟩ := id hS
  dsimp only [sI] at h
  obtain ⟨rfl, rfl⟩ := hk
  split at h
  next y x st0 =>
    obtain ⟨rfl, rfl, rfl, rfl⟩ := h
    refine lv_ldiv hx hb hd (nt_ne0L hφ.2) ?_
    rw [nt_divL hφ.1 hφ.2]
    exact kk ad lsR H locs cells slots (fun _ _ => rfl) hS (fun v hv => (List.mem_cons.mp hv).elim (fun q => by rw [q]; trivial) (fun hv => hst v (List.mem_cons_of_mem _ (List.mem_cons_of_mem _ hv))))
  next => cases h

set_option maxHeartbeats 4000000 in
theorem sm_lcmp (hF : FX p R s mI args meth c cc nL own ini) (hG : GF tb D ka xa zv A s s.heap) (hA : ∀ q, s.heap.size ≤ q → A q) (hC : CFacts tb) (hJ : JFacts) (hS : ST D ka xa zv A s lg nL c0 w0 ad lsR ls m H locs cells slots) (hst : ∀ v ∈ st, okV m.2.1 v)
    (h : sI tb (.lcmp) ls st m = some (φ, ls', st', m')) (hφ : φ) (hd : decode cc pc = .ok (raw, len)) (hk : iOK own ini lg nL raw len (.lcmp)) (hr : m'.2.2.1 ≤ R.cells + c0 ∧ m'.2.2.2 ≤ R.slots + w0)
    (kk : ∀ ad' lsR' H' locs' cells' slots', (∀ k, k < m.2.1 → ad' k = ad k) → ST D ka xa zv A s lg nL c0 w0 ad' lsR' ls' m' H' locs' cells' slots' → (∀ v ∈ st', okV m'.2.1 v) → W p l e R s mI args below meth c H' locs' cells' slots' Q (F0 mI (pc + len) lsR' (st'.map (rv ad' xa zv)))) :
    W p l e R s mI args below meth c H locs cells slots Q (F0 mI pc lsR (st.map (rv ad xa zv))) := by
  obtain ⟨hx, hb, hml, hown, hts, hlocks, hin, hfr, hlo⟩ := hF
  obtain ⟨hL, hP, hD, hM, hokL, hLG, hVS, hc0, hw0⟩ := id hS
  dsimp only [sI] at h
  obtain ⟨rfl, rfl⟩ := hk
  split at h
  next y x st0 =>
    obtain ⟨rfl, rfl, rfl, rfl⟩ := h
    refine W.lcmp hx hb hd ?_
    rw [nt_cmp hφ.1 hφ.2]
    exact kk ad lsR H locs cells slots (fun _ _ => rfl) hS (fun v hv => (List.mem_cons.mp hv).elim (fun q => by rw [q]; trivial) (fun hv => hst v (List.mem_cons_of_mem _ (List.mem_cons_of_mem _ hv))))
  next => cases h

set_option maxHeartbeats 4000000 in
theorem sm_ineg (hF : FX p R s mI args meth c cc nL own ini) (hG : GF tb D ka xa zv A s s.heap) (hA : ∀ q, s.heap.size ≤ q → A q) (hC : CFacts tb) (hJ : JFacts) (hS : ST D ka xa zv A s lg nL c0 w0 ad lsR ls m H locs cells slots) (hst : ∀ v ∈ st, okV m.2.1 v)
    (h : sI tb (.ineg) ls st m = some (φ, ls', st', m')) (hφ : φ) (hd : decode cc pc = .ok (raw, len)) (hk : iOK own ini lg nL raw len (.ineg)) (hr : m'.2.2.1 ≤ R.cells + c0 ∧ m'.2.2.2 ≤ R.slots + w0)
    (kk : ∀ ad' lsR' H' locs' cells' slots', (∀ k, k < m.2.1 → ad' k = ad k) → ST D ka xa zv A s lg nL c0 w0 ad' lsR' ls' m' H' locs' cells' slots' → (∀ v ∈ st', okV m'.2.1 v) → W p l e R s mI args below meth c H' locs' cells' slots' Q (F0 mI (pc + len) lsR' (st'.map (rv ad' xa zv)))) :
    W p l e R s mI args below meth c H locs cells slots Q (F0 mI pc lsR (st.map (rv ad xa zv))) := by
  obtain ⟨hx, hb, hml, hown, hts, hlocks, hin, hfr, hlo⟩ := hF
  obtain ⟨hL, hP, hD, hM, hokL, hLG, hVS, hc0, hw0⟩ := id hS
  dsimp only [sI] at h
  obtain ⟨rfl, rfl⟩ := hk
  split at h
  next x st0 =>
    obtain ⟨rfl, rfl, rfl, rfl⟩ := h
    refine lv_ineg hx hb hd ?_
    rw [← Int32.ofInt_neg]
    exact kk ad lsR H locs cells slots (fun _ _ => rfl) hS (fun v hv => (List.mem_cons.mp hv).elim (fun q => by rw [q]; trivial) (fun hv => hst v (List.mem_cons_of_mem _ hv)))
  next => cases h

set_option maxHeartbeats 4000000 in
theorem sm_i2l (hF : FX p R s mI args meth c cc nL own ini) (hG : GF tb D ka xa zv A s s.heap) (hA : ∀ q, s.heap.size ≤ q → A q) (hC : CFacts tb) (hJ : JFacts) (hS : ST D ka xa zv A s lg nL c0 w0 ad lsR ls m H locs cells slots) (hst : ∀ v ∈ st, okV m.2.1 v)
    (h : sI tb (.i2l) ls st m = some (φ, ls', st', m')) (hφ : φ) (hd : decode cc pc = .ok (raw, len)) (hk : iOK own ini lg nL raw len (.i2l)) (hr : m'.2.2.1 ≤ R.cells + c0 ∧ m'.2.2.2 ≤ R.slots + w0)
    (kk : ∀ ad' lsR' H' locs' cells' slots', (∀ k, k < m.2.1 → ad' k = ad k) → ST D ka xa zv A s lg nL c0 w0 ad' lsR' ls' m' H' locs' cells' slots' → (∀ v ∈ st', okV m'.2.1 v) → W p l e R s mI args below meth c H' locs' cells' slots' Q (F0 mI (pc + len) lsR' (st'.map (rv ad' xa zv)))) :
    W p l e R s mI args below meth c H locs cells slots Q (F0 mI pc lsR (st.map (rv ad xa zv))) := by
  obtain ⟨hx, hb, hml, hown, hts, hlocks, hin, hfr, hlo⟩ := hF
  obtain ⟨hL, hP, hD, hM, hokL, hLG, hVS, hc0, hw0⟩ := id hS
  dsimp only [sI] at h
  obtain ⟨rfl, rfl⟩ := hk
  split at h
  next x st0 =>
    obtain ⟨rfl, rfl, rfl, rfl⟩ := h
    refine lv_i2l (v := Int64.ofInt x) hx hb hd (nt_i2l hφ) ?_
    exact kk ad lsR H locs cells slots (fun _ _ => rfl) hS (fun v hv => (List.mem_cons.mp hv).elim (fun q => by rw [q]; trivial) (fun hv => hst v (List.mem_cons_of_mem _ hv)))
  next => cases h

set_option maxHeartbeats 4000000 in
theorem sm_l2i (hF : FX p R s mI args meth c cc nL own ini) (hG : GF tb D ka xa zv A s s.heap) (hA : ∀ q, s.heap.size ≤ q → A q) (hC : CFacts tb) (hJ : JFacts) (hS : ST D ka xa zv A s lg nL c0 w0 ad lsR ls m H locs cells slots) (hst : ∀ v ∈ st, okV m.2.1 v)
    (h : sI tb (.l2i) ls st m = some (φ, ls', st', m')) (hφ : φ) (hd : decode cc pc = .ok (raw, len)) (hk : iOK own ini lg nL raw len (.l2i)) (hr : m'.2.2.1 ≤ R.cells + c0 ∧ m'.2.2.2 ≤ R.slots + w0)
    (kk : ∀ ad' lsR' H' locs' cells' slots', (∀ k, k < m.2.1 → ad' k = ad k) → ST D ka xa zv A s lg nL c0 w0 ad' lsR' ls' m' H' locs' cells' slots' → (∀ v ∈ st', okV m'.2.1 v) → W p l e R s mI args below meth c H' locs' cells' slots' Q (F0 mI (pc + len) lsR' (st'.map (rv ad' xa zv)))) :
    W p l e R s mI args below meth c H locs cells slots Q (F0 mI pc lsR (st.map (rv ad xa zv))) := by
  obtain ⟨hx, hb, hml, hown, hts, hlocks, hin, hfr, hlo⟩ := hF
  obtain ⟨hL, hP, hD, hM, hokL, hLG, hVS, hc0, hw0⟩ := id hS
  dsimp only [sI] at h
  obtain ⟨rfl, rfl⟩ := hk
  split at h
  next x st0 =>
    obtain ⟨rfl, rfl, rfl, rfl⟩ := h
    refine lv_l2i (v := Int32.ofInt x) hx hb hd (nt_l2i x) ?_
    exact kk ad lsR H locs cells slots (fun _ _ => rfl) hS (fun v hv => (List.mem_cons.mp hv).elim (fun q => by rw [q]; trivial) (fun hv => hst v (List.mem_cons_of_mem _ hv)))
  next => cases h

set_option maxHeartbeats 4000000 in
theorem sm_i2c (hF : FX p R s mI args meth c cc nL own ini) (hG : GF tb D ka xa zv A s s.heap) (hA : ∀ q, s.heap.size ≤ q → A q) (hC : CFacts tb) (hJ : JFacts) (hS : ST D ka xa zv A s lg nL c0 w0 ad lsR ls m H locs cells slots) (hst : ∀ v ∈ st, okV m.2.1 v)
    (h : sI tb (.i2c) ls st m = some (φ, ls', st', m')) (hφ : φ) (hd : decode cc pc = .ok (raw, len)) (hk : iOK own ini lg nL raw len (.i2c)) (hr : m'.2.2.1 ≤ R.cells + c0 ∧ m'.2.2.2 ≤ R.slots + w0)
    (kk : ∀ ad' lsR' H' locs' cells' slots', (∀ k, k < m.2.1 → ad' k = ad k) → ST D ka xa zv A s lg nL c0 w0 ad' lsR' ls' m' H' locs' cells' slots' → (∀ v ∈ st', okV m'.2.1 v) → W p l e R s mI args below meth c H' locs' cells' slots' Q (F0 mI (pc + len) lsR' (st'.map (rv ad' xa zv)))) :
    W p l e R s mI args below meth c H locs cells slots Q (F0 mI pc lsR (st.map (rv ad xa zv))) := by
  obtain ⟨hx, hb, hml, hown, hts, hlocks, hin, hfr, hlo⟩ := hF
  obtain ⟨hL, hP, hD, hM, hokL, hLG, hVS, hc0, hw0⟩ := id hS
  dsimp only [sI] at h
  obtain ⟨rfl, rfl⟩ := hk
  split at h
  next x st0 =>
    obtain ⟨rfl, rfl, rfl, rfl⟩ := h
    refine lv_i2c (v := Int32.ofInt x) hx hb hd (nt_i2c hφ) ?_
    exact kk ad lsR H locs cells slots (fun _ _ => rfl) hS (fun v hv => (List.mem_cons.mp hv).elim (fun q => by rw [q]; trivial) (fun hv => hst v (List.mem_cons_of_mem _ hv)))
  next => cases h

set_option maxHeartbeats 4000000 in
theorem sm_bipush {n : Int} (hF : FX p R s mI args meth c cc nL own ini) (hG : GF tb D ka xa zv A s s.heap) (hA : ∀ q, s.heap.size ≤ q → A q) (hC : CFacts tb) (hJ : JFacts) (hS : ST D ka xa zv A s lg nL c0 w0 ad lsR ls m H locs cells slots) (hst : ∀ v ∈ st, okV m.2.1 v)
    (h : sI tb (.bipush n) ls st m = some (φ, ls', st', m')) (hφ : φ) (hd : decode cc pc = .ok (raw, len)) (hk : iOK own ini lg nL raw len (.bipush n)) (hr : m'.2.2.1 ≤ R.cells + c0 ∧ m'.2.2.2 ≤ R.slots + w0)
    (kk : ∀ ad' lsR' H' locs' cells' slots', (∀ k, k < m.2.1 → ad' k = ad k) → ST D ka xa zv A s lg nL c0 w0 ad' lsR' ls' m' H' locs' cells' slots' → (∀ v ∈ st', okV m'.2.1 v) → W p l e R s mI args below meth c H' locs' cells' slots' Q (F0 mI (pc + len) lsR' (st'.map (rv ad' xa zv)))) :
    W p l e R s mI args below meth c H locs cells slots Q (F0 mI pc lsR (st.map (rv ad xa zv))) := by
  obtain ⟨hx, hb, hml, hown, hts, hlocks, hin, hfr, hlo⟩ := hF
  obtain ⟨hL, hP, hD, hM, hokL, hLG, hVS, hc0, hw0⟩ := id hS
  dsimp only [sI] at h
  obtain ⟨rfl, rfl, rfl, rfl⟩ := h
  have fin := kk ad lsR H locs cells slots (fun _ _ => rfl) hS (fun v hv => (List.mem_cons.mp hv).elim (fun q => by rw [q]; trivial) (fun hv => hst v hv))
  rcases hk with ⟨rfl, rfl⟩ | ⟨rfl, rfl, e⟩ | ⟨rfl, rfl, e⟩ | ⟨k, rfl, rfl, hw⟩ | ⟨k, rfl, rfl, hw⟩
  · exact lv_iconst (v := Int32.ofInt n) hx hb hd rfl fin
  · exact lv_bipush (v := Int32.ofInt n) hx hb hd e fin
  · exact lv_sipush (v := Int32.ofInt n) hx hb hd e fin
  · exact lv_ldc hx hb hown (hts _ hw) hd fin
  · exact lv_ldcw hx hb hown (hts _ hw) hd fin

set_option maxHeartbeats 4000000 in
theorem sm_sipush {n : Int} (hF : FX p R s mI args meth c cc nL own ini) (hG : GF tb D ka xa zv A s s.heap) (hA : ∀ q, s.heap.size ≤ q → A q) (hC : CFacts tb) (hJ : JFacts) (hS : ST D ka xa zv A s lg nL c0 w0 ad lsR ls m H locs cells slots) (hst : ∀ v ∈ st, okV m.2.1 v)
    (h : sI tb (.sipush n) ls st m = some (φ, ls', st', m')) (hφ : φ) (hd : decode cc pc = .ok (raw, len)) (hk : iOK own ini lg nL raw len (.sipush n)) (hr : m'.2.2.1 ≤ R.cells + c0 ∧ m'.2.2.2 ≤ R.slots + w0)
    (kk : ∀ ad' lsR' H' locs' cells' slots', (∀ k, k < m.2.1 → ad' k = ad k) → ST D ka xa zv A s lg nL c0 w0 ad' lsR' ls' m' H' locs' cells' slots' → (∀ v ∈ st', okV m'.2.1 v) → W p l e R s mI args below meth c H' locs' cells' slots' Q (F0 mI (pc + len) lsR' (st'.map (rv ad' xa zv)))) :
    W p l e R s mI args below meth c H locs cells slots Q (F0 mI pc lsR (st.map (rv ad xa zv))) := by
  obtain ⟨hx, hb, hml, hown, hts, hlocks, hin, hfr, hlo⟩ := hF
  obtain ⟨hL, hP, hD, hM, hokL, hLG, hVS, hc0, hw0⟩ := id hS
  dsimp only [sI] at h
  obtain ⟨rfl, rfl, rfl, rfl⟩ := h
  have fin := kk ad lsR H locs cells slots (fun _ _ => rfl) hS (fun v hv => (List.mem_cons.mp hv).elim (fun q => by rw [q]; trivial) (fun hv => hst v hv))
  rcases hk with ⟨f, rfl, rfl, e⟩ | ⟨k, rfl, rfl, hw⟩
  · exact lv_lconst (v := Int64.ofInt n) hx hb hd e fin
  · exact lv_ldc2 hx hb hown (hts _ hw) hd fin

set_option maxHeartbeats 4000000 in
theorem sm_aconst_null (hF : FX p R s mI args meth c cc nL own ini) (hG : GF tb D ka xa zv A s s.heap) (hA : ∀ q, s.heap.size ≤ q → A q) (hC : CFacts tb) (hJ : JFacts) (hS : ST D ka xa zv A s lg nL c0 w0 ad lsR ls m H locs cells slots) (hst : ∀ v ∈ st, okV m.2.1 v)
    (h : sI tb (.aconst_null) ls st m = some (φ, ls', st', m')) (hφ : φ) (hd : decode cc pc = .ok (raw, len)) (hk : iOK own ini lg nL raw len (.aconst_null)) (hr : m'.2.2.1 ≤ R.cells + c0 ∧ m'.2.2.2 ≤ R.slots + w0)
    (kk : ∀ ad' lsR' H' locs' cells' slots', (∀ k, k < m.2.1 → ad' k = ad k) → ST D ka xa zv A s lg nL c0 w0 ad' lsR' ls' m' H' locs' cells' slots' → (∀ v ∈ st', okV m'.2.1 v) → W p l e R s mI args below meth c H' locs' cells' slots' Q (F0 mI (pc + len) lsR' (st'.map (rv ad' xa zv)))) :
    W p l e R s mI args below meth c H locs cells slots Q (F0 mI pc lsR (st.map (rv ad xa zv))) := by
  obtain ⟨hx, hb, hml, hown, hts, hlocks, hin, hfr, hlo⟩ := hF
  obtain ⟨hL, hP, hD, hM, hokL, hLG, hVS, hc0, hw0⟩ := id hS
  dsimp only [sI] at h
  obtain ⟨rfl, rfl⟩ := hk
  obtain ⟨rfl, rfl, rfl, rfl⟩ := h
  exact lv_null hx hb hd (kk ad lsR H locs cells slots (fun _ _ => rfl) hS (fun v hv => (List.mem_cons.mp hv).elim (fun q => by rw [q]; trivial) (fun hv => hst v hv)))

set_option maxHeartbeats 4000000 in
theorem sm_ldc {k : Nat} (hF : FX p R s mI args meth c cc nL own ini) (hG : GF tb D ka xa zv A s s.heap) (hA : ∀ q, s.heap.size ≤ q → A q) (hC : CFacts tb) (hJ : JFacts) (hS : ST D ka xa zv A s lg nL c0 w0 ad lsR ls m H locs cells slots) (hst : ∀ v ∈ st, okV m.2.1 v)
    (h : sI tb (.ldc k) ls st m = some (φ, ls', st', m')) (hφ : φ) (hd : decode cc pc = .ok (raw, len)) (hk : iOK own ini lg nL raw len (.ldc k)) (hr : m'.2.2.1 ≤ R.cells + c0 ∧ m'.2.2.2 ≤ R.slots + w0)
    (kk : ∀ ad' lsR' H' locs' cells' slots', (∀ k, k < m.2.1 → ad' k = ad k) → ST D ka xa zv A s lg nL c0 w0 ad' lsR' ls' m' H' locs' cells' slots' → (∀ v ∈ st', okV m'.2.1 v) → W p l e R s mI args below meth c H' locs' cells' slots' Q (F0 mI (pc + len) lsR' (st'.map (rv ad' xa zv)))) :
    W p l e R s mI args below meth c H locs cells slots Q (F0 mI pc lsR (st.map (rv ad xa zv))) := by
  obtain ⟨hx, hb, hml, hown, hts, hlocks, hin, hfr, hlo⟩ := hF
  obtain ⟨hL, hP, hD, hM, hokL, hLG, hVS, hc0, hw0⟩ := id hS
  dsimp only [sI] at h
  obtain ⟨rfl, rfl, rfl, rfl⟩ := h
  obtain ⟨q, hq, hw⟩ := hk
  have hZ := hG.2.2.2.1 _ hw
  have fin := kk ad lsR H locs cells slots (fun _ _ => rfl) hS (fun v hv => (List.mem_cons.mp hv).elim (fun q => by rw [q]; trivial) (fun hv => hst v hv))
  rcases hq with ⟨rfl, rfl⟩ | ⟨rfl, rfl⟩
  · exact va_ldcS hx hb hown hZ hd fin
  · exact sm_ldcSW hx hb hown hZ hd fin

set_option maxHeartbeats 4000000 in
theorem sm_getstatic0 (hF : FX p R s mI args meth c cc nL own ini) (hG : GF tb D ka xa zv A s s.heap) (hA : ∀ q, s.heap.size ≤ q → A q) (hC : CFacts tb) (hJ : JFacts) (hS : ST D ka xa zv A s lg nL c0 w0 ad lsR ls m H locs cells slots) (hst : ∀ v ∈ st, okV m.2.1 v)
    (h : sI tb (.getstatic 0) ls st m = some (φ, ls', st', m')) (hφ : φ) (hd : decode cc pc = .ok (raw, len)) (hk : iOK own ini lg nL raw len (.getstatic 0)) (hr : m'.2.2.1 ≤ R.cells + c0 ∧ m'.2.2.2 ≤ R.slots + w0)
    (kk : ∀ ad' lsR' H' locs' cells' slots', (∀ k, k < m.2.1 → ad' k = ad k) → ST D ka xa zv A s lg nL c0 w0 ad' lsR' ls' m' H' locs' cells' slots' → (∀ v ∈ st', okV m'.2.1 v) → W p l e R s mI args below meth c H' locs' cells' slots' Q (F0 mI (pc + len) lsR' (st'.map (rv ad' xa zv)))) :
    W p l e R s mI args below meth c H locs cells slots Q (F0 mI pc lsR (st.map (rv ad xa zv))) := by
  obtain ⟨hx, hb, hml, hown, hts, hlocks, hin, hfr, hlo⟩ := hF
  obtain ⟨hL, hP, hD, hM, hokL, hLG, hVS, hc0, hw0⟩ := id hS
  dsimp only [sI] at h
  obtain ⟨rfl, rfl, rfl, rfl⟩ := h
  obtain ⟨q, rfl, rfl, hw⟩ := hk
  exact va_gets hx hb hG.2.2.1.2 hVS hown (hts _ hw) (fun x h => h) hd (kk ad lsR H locs cells slots (fun _ _ => rfl) hS (fun v hv => (List.mem_cons.mp hv).elim (fun q => by rw [q]; trivial) (fun hv => hst v hv)))

set_option maxHeartbeats 4000000 in
theorem sm_getstatic1 (hF : FX p R s mI args meth c cc nL own ini) (hG : GF tb D ka xa zv A s s.heap) (hA : ∀ q, s.heap.size ≤ q → A q) (hC : CFacts tb) (hJ : JFacts) (hS : ST D ka xa zv A s lg nL c0 w0 ad lsR ls m H locs cells slots) (hst : ∀ v ∈ st, okV m.2.1 v)
    (h : sI tb (.getstatic 1) ls st m = some (φ, ls', st', m')) (hφ : φ) (hd : decode cc pc = .ok (raw, len)) (hk : iOK own ini lg nL raw len (.getstatic 1)) (hr : m'.2.2.1 ≤ R.cells + c0 ∧ m'.2.2.2 ≤ R.slots + w0)
    (kk : ∀ ad' lsR' H' locs' cells' slots', (∀ k, k < m.2.1 → ad' k = ad k) → ST D ka xa zv A s lg nL c0 w0 ad' lsR' ls' m' H' locs' cells' slots' → (∀ v ∈ st', okV m'.2.1 v) → W p l e R s mI args below meth c H' locs' cells' slots' Q (F0 mI (pc + len) lsR' (st'.map (rv ad' xa zv)))) :
    W p l e R s mI args below meth c H locs cells slots Q (F0 mI pc lsR (st.map (rv ad xa zv))) := by
  obtain ⟨hx, hb, hml, hown, hts, hlocks, hin, hfr, hlo⟩ := hF
  obtain ⟨hL, hP, hD, hM, hokL, hLG, hVS, hc0, hw0⟩ := id hS
  dsimp only [sI] at h
  obtain ⟨rfl, rfl, rfl, rfl⟩ := h
  obtain ⟨q, rfl, rfl, hw⟩ := hk
  exact va_gets hx hb hG.2.2.2.2.2.1 hVS hown (hts _ hw) (fun x h => h) hd (kk ad lsR H locs cells slots (fun _ _ => rfl) hS (fun v hv => (List.mem_cons.mp hv).elim (fun q => by rw [q]; trivial) (fun hv => hst v hv)))

set_option maxHeartbeats 4000000 in
theorem sm_getstatic2 (hF : FX p R s mI args meth c cc nL own ini) (hG : GF tb D ka xa zv A s s.heap) (hA : ∀ q, s.heap.size ≤ q → A q) (hC : CFacts tb) (hJ : JFacts) (hS : ST D ka xa zv A s lg nL c0 w0 ad lsR ls m H locs cells slots) (hst : ∀ v ∈ st, okV m.2.1 v)
    (h : sI tb (.getstatic 2) ls st m = some (φ, ls', st', m')) (hφ : φ) (hd : decode cc pc = .ok (raw, len)) (hk : iOK own ini lg nL raw len (.getstatic 2)) (hr : m'.2.2.1 ≤ R.cells + c0 ∧ m'.2.2.2 ≤ R.slots + w0)
    (kk : ∀ ad' lsR' H' locs' cells' slots', (∀ k, k < m.2.1 → ad' k = ad k) → ST D ka xa zv A s lg nL c0 w0 ad' lsR' ls' m' H' locs' cells' slots' → (∀ v ∈ st', okV m'.2.1 v) → W p l e R s mI args below meth c H' locs' cells' slots' Q (F0 mI (pc + len) lsR' (st'.map (rv ad' xa zv)))) :
    W p l e R s mI args below meth c H locs cells slots Q (F0 mI pc lsR (st.map (rv ad xa zv))) := by
  obtain ⟨hx, hb, hml, hown, hts, hlocks, hin, hfr, hlo⟩ := hF
  obtain ⟨hL, hP, hD, hM, hokL, hLG, hVS, hc0, hw0⟩ := id hS
  dsimp only [sI] at h
  obtain ⟨rfl, rfl, rfl, rfl⟩ := h
  obtain ⟨q, rfl, rfl, hw⟩ := hk
  exact va_gets hx hb hG.2.2.2.2.2.2.1.1 hVS hown (hts _ hw) (fun x h => h) hd (kk ad lsR H locs cells slots (fun _ _ => rfl) hS (fun v hv => (List.mem_cons.mp hv).elim (fun q => by rw [q]; trivial) (fun hv => hst v hv)))

set_option maxHeartbeats 4000000 in
theorem sm_iload {k : Nat} (hF : FX p R s mI args meth c cc nL own ini) (hG : GF tb D ka xa zv A s s.heap) (hA : ∀ q, s.heap.size ≤ q → A q) (hC : CFacts tb) (hJ : JFacts) (hS : ST D ka xa zv A s lg nL c0 w0 ad lsR ls m H locs cells slots) (hst : ∀ v ∈ st, okV m.2.1 v)
    (h : sI tb (.iload k) ls st m = some (φ, ls', st', m')) (hφ : φ) (hd : decode cc pc = .ok (raw, len)) (hk : iOK own ini lg nL raw len (.iload k)) (hr : m'.2.2.1 ≤ R.cells + c0 ∧ m'.2.2.2 ≤ R.slots + w0)
    (kk : ∀ ad' lsR' H' locs' cells' slots', (∀ k, k < m.2.1 → ad' k = ad k) → ST D ka xa zv A s lg nL c0 w0 ad' lsR' ls' m' H' locs' cells' slots' → (∀ v ∈ st', okV m'.2.1 v) → W p l e R s mI args below meth c H' locs' cells' slots' Q (F0 mI (pc + len) lsR' (st'.map (rv ad' xa zv)))) :
    W p l e R s mI args below meth c H locs cells slots Q (F0 mI pc lsR (st.map (rv ad xa zv))) := by
  obtain ⟨hx, hb, hml, hown, hts, hlocks, hin, hfr, hlo⟩ := hF
  obtain ⟨hL, hP, hD, hM, hokL, hLG, hVS, hc0, hw0⟩ := id hS
  dsimp only [sI] at h
  split at h
  next n e =>
    obtain ⟨rfl, rfl, rfl, rfl⟩ := h
    have g := hL.get e (fun q => nomatch q)
    have fin := kk ad lsR H locs cells slots (fun _ _ => rfl) hS (fun v hv => (List.mem_cons.mp hv).elim (fun q => by rw [q]; trivial) (fun hv => hst v hv))
    rcases hk with ⟨f, rfl, hf, rfl⟩ | ⟨rfl, rfl⟩
    · exact lv_iload_n hx hb hd hf g fin
    · exact lv_iload hx hb hd g fin
  next => cases h

set_option maxHeartbeats 4000000 in
theorem sm_lload {k : Nat} (hF : FX p R s mI args meth c cc nL own ini) (hG : GF tb D ka xa zv A s s.heap) (hA : ∀ q, s.heap.size ≤ q → A q) (hC : CFacts tb) (hJ : JFacts) (hS : ST D ka xa zv A s lg nL c0 w0 ad lsR ls m H locs cells slots) (hst : ∀ v ∈ st, okV m.2.1 v)
    (h : sI tb (.lload k) ls st m = some (φ, ls', st', m')) (hφ : φ) (hd : decode cc pc = .ok (raw, len)) (hk : iOK own ini lg nL raw len (.lload k)) (hr : m'.2.2.1 ≤ R.cells + c0 ∧ m'.2.2.2 ≤ R.slots + w0)
    (kk : ∀ ad' lsR' H' locs' cells' slots', (∀ k, k < m.2.1 → ad' k = ad k) → ST D ka xa zv A s lg nL c0 w0 ad' lsR' ls' m' H' locs' cells' slots' → (∀ v ∈ st', okV m'.2.1 v) → W p l e R s mI args below meth c H' locs' cells' slots' Q (F0 mI (pc + len) lsR' (st'.map (rv ad' xa zv)))) :
    W p l e R s mI args below meth c H locs cells slots Q (F0 mI pc lsR (st.map (rv ad xa zv))) := by
  obtain ⟨hx, hb, hml, hown, hts, hlocks, hin, hfr, hlo⟩ := hF
  obtain ⟨hL, hP, hD, hM, hokL, hLG, hVS, hc0, hw0⟩ := id hS
  dsimp only [sI] at h
  split at h
  next n e =>
    obtain ⟨rfl, rfl, rfl, rfl⟩ := h
    have g := hL.get e (fun q => nomatch q)
    have fin := kk ad lsR H locs cells slots (fun _ _ => rfl) hS (fun v hv => (List.mem_cons.mp hv).elim (fun q => by rw [q]; trivial) (fun hv => hst v hv))
    rcases hk with ⟨f, rfl, hf, rfl⟩ | ⟨rfl, rfl⟩
    · exact lv_lload_n hx hb hd hf g fin
    · exact lv_lload hx hb hd g fin
  next => cases h

set_option maxHeartbeats 4000000 in
theorem sm_aload {k : Nat} (hF : FX p R s mI args meth c cc nL own ini) (hG : GF tb D ka xa zv A s s.heap) (hA : ∀ q, s.heap.size ≤ q → A q) (hC : CFacts tb) (hJ : JFacts) (hS : ST D ka xa zv A s lg nL c0 w0 ad lsR ls m H locs cells slots) (hst : ∀ v ∈ st, okV m.2.1 v)
    (h : sI tb (.aload k) ls st m = some (φ, ls', st', m')) (hφ : φ) (hd : decode cc pc = .ok (raw, len)) (hk : iOK own ini lg nL raw len (.aload k)) (hr : m'.2.2.1 ≤ R.cells + c0 ∧ m'.2.2.2 ≤ R.slots + w0)
    (kk : ∀ ad' lsR' H' locs' cells' slots', (∀ k, k < m.2.1 → ad' k = ad k) → ST D ka xa zv A s lg nL c0 w0 ad' lsR' ls' m' H' locs' cells' slots' → (∀ v ∈ st', okV m'.2.1 v) → W p l e R s mI args below meth c H' locs' cells' slots' Q (F0 mI (pc + len) lsR' (st'.map (rv ad' xa zv)))) :
    W p l e R s mI args below meth c H locs cells slots Q (F0 mI pc lsR (st.map (rv ad xa zv))) := by
  obtain ⟨hx, hb, hml, hown, hts, hlocks, hin, hfr, hlo⟩ := hF
  obtain ⟨hL, hP, hD, hM, hokL, hLG, hVS, hc0, hw0⟩ := id hS
  dsimp only [sI] at h
  split at h
  next a e =>
    obtain ⟨rfl, rfl, rfl, rfl⟩ := h
    have g := hL.get e (fun q => nomatch q)
    have fin := kk ad lsR H locs cells slots (fun _ _ => rfl) hS (fun v hv => (List.mem_cons.mp hv).elim (fun q => by rw [q]; exact hokL _ (List.mem_of_getElem? e)) (fun hv => hst v hv))
    rcases hk with ⟨f, rfl, hf, rfl⟩ | ⟨rfl, rfl⟩
    · exact lv_aload_n hx hb hd hf g fin
    · exact lv_aload hx hb hd g fin
  next a e =>
    obtain ⟨rfl, rfl, rfl, rfl⟩ := h
    have g := hL.get e (fun q => nomatch q)
    have fin := kk ad lsR H locs cells slots (fun _ _ => rfl) hS (fun v hv => (List.mem_cons.mp hv).elim (fun q => by rw [q]; trivial) (fun hv => hst v hv))
    rcases hk with ⟨f, rfl, hf, rfl⟩ | ⟨rfl, rfl⟩
    · exact lv_aload_n hx hb hd hf g fin
    · exact lv_aload hx hb hd g fin
  next e =>
    obtain ⟨rfl, rfl, rfl, rfl⟩ := h
    have g := hL.get e (fun q => nomatch q)
    have fin := kk ad lsR H locs cells slots (fun _ _ => rfl) hS (fun v hv => (List.mem_cons.mp hv).elim (fun q => by rw [q]; trivial) (fun hv => hst v hv))
    rcases hk with ⟨f, rfl, hf, rfl⟩ | ⟨rfl, rfl⟩
    · exact lv_aload_nN hx hb hd hf g fin
    · exact lv_aloadN hx hb hd g fin
  next => cases h

set_option maxHeartbeats 4000000 in
theorem sm_istore {k : Nat} (hF : FX p R s mI args meth c cc nL own ini) (hG : GF tb D ka xa zv A s s.heap) (hA : ∀ q, s.heap.size ≤ q → A q) (hC : CFacts tb) (hJ : JFacts) (hS : ST D ka xa zv A s lg nL c0 w0 ad lsR ls m H locs cells slots) (hst : ∀ v ∈ st, okV m.2.1 v)
    (h : sI tb (.istore k) ls st m = some (φ, ls', st', m')) (hφ : φ) (hd : decode cc pc = .ok (raw, len)) (hk : iOK own ini lg nL raw len (.istore k)) (hr : m'.2.2.1 ≤ R.cells + c0 ∧ m'.2.2.2 ≤ R.slots + w0)
    (kk : ∀ ad' lsR' H' locs' cells' slots', (∀ k, k < m.2.1 → ad' k = ad k) → ST D ka xa zv A s lg nL c0 w0 ad' lsR' ls' m' H' locs' cells' slots' → (∀ v ∈ st', okV m'.2.1 v) → W p l e R s mI args below meth c H' locs' cells' slots' Q (F0 mI (pc + len) lsR' (st'.map (rv ad' xa zv)))) :
    W p l e R s mI args below meth c H locs cells slots Q (F0 mI pc lsR (st.map (rv ad xa zv))) := by
  obtain ⟨hx, hb, hml, hown, hts, hlocks, hin, hfr, hlo⟩ := hF
  obtain ⟨hL, hP, hD, hM, hokL, hLG, hVS, hc0, hw0⟩ := id hS
  dsimp only [sI] at h
  obtain ⟨hk, hkn, hlg⟩ := hk
  split at h
  next n st0 =>
    obtain ⟨rfl, rfl, rfl, rfl⟩ := h
    have fin : ∀ lsR', _ → _ := fun lsR' hL' => kk ad lsR' H locs cells slots (fun _ _ => rfl) ⟨LR.put (v := vi n) hLG hlg hL', hP, hD, hM, okL_set hokL trivial, hLG.set (fun x q => nomatch q), hVS, hc0, hw0⟩ (fun v hv => hst v (List.mem_cons_of_mem _ hv))
    rcases hk with ⟨f, rfl, hf, rfl⟩ | ⟨rfl, rfl⟩
    · exact lv_istore_n hx hb hd hf hL hkn rfl fin
    · exact lv_istore hx hb hd hL hkn rfl fin
  next => cases h

set_option maxHeartbeats 4000000 in
theorem sm_fstore {k : Nat} (hF : FX p R s mI args meth c cc nL own ini) (hG : GF tb D ka xa zv A s s.heap) (hA : ∀ q, s.heap.size ≤ q → A q) (hC : CFacts tb) (hJ : JFacts) (hS : ST D ka xa zv A s lg nL c0 w0 ad lsR ls m H locs cells slots) (hst : ∀ v ∈ st, okV m.2.1 v)
    (h : sI tb (.fstore k) ls st m = some (φ, ls', st', m')) (hφ : φ) (hd : decode cc pc = .ok (raw, len)) (hk : iOK own ini lg nL raw len (.fstore k)) (hr : m'.2.2.1 ≤ R.cells + c0 ∧ m'.2.2.2 ≤ R.slots + w0)
    (kk : ∀ ad' lsR' H' locs' cells' slots', (∀ k, k < m.2.1 → ad' k = ad k) → ST D ka xa zv A s lg nL c0 w0 ad' lsR' ls' m' H' locs' cells' slots' → (∀ v ∈ st', okV m'.2.1 v) → W p l e R s mI args below meth c H' locs' cells' slots' Q (F0 mI (pc + len) lsR' (st'.map (rv ad' xa zv)))) :
    W p l e R s mI args below meth c H locs cells slots Q (F0 mI pc lsR (st.map (rv ad xa zv))) := by
  obtain ⟨hx, hb, hml, hown, hts, hlocks, hin, hfr, hlo⟩ := hF
  obtain ⟨hL, hP, hD, hM, hokL, hLG, hVS, hc0, hw0⟩ := id hS
  dsimp only [sI] at h
  obtain ⟨hk, hkn⟩ := hk
  split at h
  next n st0 =>
    obtain ⟨rfl, rfl, rfl, rfl⟩ := h
    have hg9 : LG (lgB ls) ls := fun j x q => by
      unfold lgB
      rw [q]
    have hφ' : lgB ls (k - 1) = false := hφ
    have hlg : ∀ j, lgB ls j = true → j + 1 ≠ k := fun j q e => by
      rw [← e, Nat.add_sub_cancel, q] at hφ'
      cases hφ'
    have fin : ∀ lsR', _ → _ := fun lsR' hL' => kk ad lsR' H locs cells slots (fun _ _ => rfl) ⟨LR.put (v := vi n) hg9 hlg hL', hP, hD, hM, okL_set hokL trivial, hLG.set (fun x q => nomatch q), hVS, hc0, hw0⟩ (fun v hv => hst v (List.mem_cons_of_mem _ hv))
    rcases hk with ⟨f, rfl, hf, rfl⟩ | ⟨rfl, rfl⟩
    · exact lv_istore_n hx hb hd hf hL hkn rfl fin
    · exact lv_istore hx hb hd hL hkn rfl fin
  next => cases h

set_option maxHeartbeats 4000000 in
theorem sm_lstore {k : Nat} (hF : FX p R s mI args meth c cc nL own ini) (hG : GF tb D ka xa zv A s s.heap) (hA : ∀ q, s.heap.size ≤ q → A q) (hC : CFacts tb) (hJ : JFacts) (hS : ST D ka xa zv A s lg nL c0 w0 ad lsR ls m H locs cells slots) (hst : ∀ v ∈ st, okV m.2.1 v)
    (h : sI tb (.lstore k) ls st m = some (φ, ls', st', m')) (hφ : φ) (hd : decode cc pc = .ok (raw, len)) (hk : iOK own ini lg nL raw len (.lstore k)) (hr : m'.2.2.1 ≤ R.cells + c0 ∧ m'.2.2.2 ≤ R.slots + w0)
    (kk : ∀ ad' lsR' H' locs' cells' slots', (∀ k, k < m.2.1 → ad' k = ad k) → ST D ka xa zv A s lg nL c0 w0 ad' lsR' ls' m' H' locs' cells' slots' → (∀ v ∈ st', okV m'.2.1 v) → W p l e R s mI args below meth c H' locs' cells' slots' Q (F0 mI (pc + len) lsR' (st'.map (rv ad' xa zv)))) :
    W p l e R s mI args below meth c H locs cells slots Q (F0 mI pc lsR (st.map (rv ad xa zv))) := by
  obtain ⟨hx, hb, hml, hown, hts, hlocks, hin, hfr, hlo⟩ := hF
  obtain ⟨hL, hP, hD, hM, hokL, hLG, hVS, hc0, hw0⟩ := id hS
  dsimp only [sI] at h
  obtain ⟨hk, hkn, hlk, hlg⟩ := hk
  split at h
  next n st0 =>
    obtain ⟨rfl, rfl, rfl, rfl⟩ := h
    have fin : ∀ lsR', _ → _ := fun lsR' hL' => kk ad lsR' H locs cells slots (fun _ _ => rfl) ⟨LR.put2 (x := n) hLG hlg hL', hP, hD, hM, okL_set (v := vu) (okL_set (v := vl n) hokL trivial) trivial, (hLG.set (fun x q => hlk)).set (fun x q => nomatch q), hVS, hc0, hw0⟩ (fun v hv => hst v (List.mem_cons_of_mem _ hv))
    rcases hk with ⟨f, rfl, hf, rfl⟩ | ⟨rfl, rfl⟩
    · exact lv_lstore_n hx hb hd hf hL hkn rfl fin
    · exact lv_lstore hx hb hd hL hkn rfl fin
  next => cases h

set_option maxHeartbeats 4000000 in
theorem sm_astore {k : Nat} (hF : FX p R s mI args meth c cc nL own ini) (hG : GF tb D ka xa zv A s s.heap) (hA : ∀ q, s.heap.size ≤ q → A q) (hC : CFacts tb) (hJ : JFacts) (hS : ST D ka xa zv A s lg nL c0 w0 ad lsR ls m H locs cells slots) (hst : ∀ v ∈ st, okV m.2.1 v)
    (h : sI tb (.astore k) ls st m = some (φ, ls', st', m')) (hφ : φ) (hd : decode cc pc = .ok (raw, len)) (hk : iOK own ini lg nL raw len (.astore k)) (hr : m'.2.2.1 ≤ R.cells + c0 ∧ m'.2.2.2 ≤ R.slots + w0)
    (kk : ∀ ad' lsR' H' locs' cells' slots', (∀ k, k < m.2.1 → ad' k = ad k) → ST D ka xa zv A s lg nL c0 w0 ad' lsR' ls' m' H' locs' cells' slots' → (∀ v ∈ st', okV m'.2.1 v) → W p l e R s mI args below meth c H' locs' cells' slots' Q (F0 mI (pc + len) lsR' (st'.map (rv ad' xa zv)))) :
    W p l e R s mI args below meth c H locs cells slots Q (F0 mI pc lsR (st.map (rv ad xa zv))) := by
  obtain ⟨hx, hb, hml, hown, hts, hlocks, hin, hfr, hlo⟩ := hF
  obtain ⟨hL, hP, hD, hM, hokL, hLG, hVS, hc0, hw0⟩ := id hS
  dsimp only [sI] at h
  obtain ⟨hk, hkn, hlg⟩ := hk
  split at h
  next a st0 =>
    obtain ⟨rfl, rfl, rfl, rfl⟩ := h
    have fin : ∀ lsR', _ → _ := fun lsR' hL' => kk ad lsR' H locs cells slots (fun _ _ => rfl) ⟨LR.put (v := vr a) hLG hlg hL', hP, hD, hM, okL_set hokL (hst _ List.mem_cons_self), hLG.set (fun x q => nomatch q), hVS, hc0, hw0⟩ (fun v hv => hst v (List.mem_cons_of_mem _ hv))
    rcases hk with ⟨f, rfl, hf, rfl⟩ | ⟨rfl, rfl⟩
    · exact lv_astore_n hx hb hd hf hL hkn rfl fin
    · exact lv_astore hx hb hd hL hkn rfl fin
  next a st0 =>
    obtain ⟨rfl, rfl, rfl, rfl⟩ := h
    have fin : ∀ lsR', _ → _ := fun lsR' hL' => kk ad lsR' H locs cells slots (fun _ _ => rfl) ⟨LR.put (v := vx a) hLG hlg hL', hP, hD, hM, okL_set hokL trivial, hLG.set (fun x q => nomatch q), hVS, hc0, hw0⟩ (fun v hv => hst v (List.mem_cons_of_mem _ hv))
    rcases hk with ⟨f, rfl, hf, rfl⟩ | ⟨rfl, rfl⟩
    · exact lv_astore_n hx hb hd hf hL hkn rfl fin
    · exact lv_astore hx hb hd hL hkn rfl fin
  next st0 =>
    obtain ⟨rfl, rfl, rfl, rfl⟩ := h
    have fin : ∀ lsR', _ → _ := fun lsR' hL' => kk ad lsR' H locs cells slots (fun _ _ => rfl) ⟨LR.put (v := vn) hLG hlg hL', hP, hD, hM, okL_set hokL trivial, hLG.set (fun x q => nomatch q), hVS, hc0, hw0⟩ (fun v hv => hst v (List.mem_cons_of_mem _ hv))
    rcases hk with ⟨f, rfl, hf, rfl⟩ | ⟨rfl, rfl⟩
    · exact lv_astore_nN hx hb hd hf hL hkn rfl fin
    · exact lv_astoreN hx hb hd hL hkn rfl fin
  next => cases h

set_option maxHeartbeats 4000000 in
theorem sm_iinc {k : Nat} {n : Int} (hF : FX p R s mI args meth c cc nL own ini) (hG : GF tb D ka xa zv A s s.heap) (hA : ∀ q, s.heap.size ≤ q → A q) (hC : CFacts tb) (hJ : JFacts) (hS : ST D ka xa zv A s lg nL c0 w0 ad lsR ls m H locs cells slots) (hst : ∀ v ∈ st, okV m.2.1 v)
    (h : sI tb (.iinc k n) ls st m = some (φ, ls', st', m')) (hφ : φ) (hd : decode cc pc = .ok (raw, len)) (hk : iOK own ini lg nL raw len (.iinc k n)) (hr : m'.2.2.1 ≤ R.cells + c0 ∧ m'.2.2.2 ≤ R.slots + w0)
    (kk : ∀ ad' lsR' H' locs' cells' slots', (∀ k, k < m.2.1 → ad' k = ad k) → ST D ka xa zv A s lg nL c0 w0 ad' lsR' ls' m' H' locs' cells' slots' → (∀ v ∈ st', okV m'.2.1 v) → W p l e R s mI args below meth c H' locs' cells' slots' Q (F0 mI (pc + len) lsR' (st'.map (rv ad' xa zv)))) :
    W p l e R s mI args below meth c H locs cells slots Q (F0 mI pc lsR (st.map (rv ad xa zv))) := by
  obtain ⟨hx, hb, hml, hown, hts, hlocks, hin, hfr, hlo⟩ := hF
  obtain ⟨hL, hP, hD, hM, hokL, hLG, hVS, hc0, hw0⟩ := id hS
  dsimp only [sI] at h
  obtain ⟨rfl, rfl, hkn⟩ := hk
  split at h
  next x e =>
    obtain ⟨rfl, rfl, rfl, rfl⟩ := h
    have hg9 : LG (lgB ls) ls := fun j x q => by
      unfold lgB
      rw [q]
    have hφ' : lgB ls (k - 1) = false := hφ
    have hlg : ∀ j, lgB ls j = true → j + 1 ≠ k := fun j q e => by
      rw [← e, Nat.add_sub_cancel, q] at hφ'
      cases hφ'
    obtain ⟨j, hj⟩ := List.getElem?_of_mem ((lvs_mem (ad := ad) (xa := xa) (zv := zv) (k, rv ad xa zv (vi x)) ls 0).mpr ⟨k, vi x, e, (fun q => nomatch q), by rw [Nat.zero_add]⟩)
    exact lv_iinc (v := Int32.ofInt (x + n)) hx hb hd hL (k := j) hj (Int32.ofInt_add x n).symm hkn rfl (fun lsR' hL' => kk ad lsR' H locs cells slots (fun _ _ => rfl) ⟨LR.put (v := vi (x + n)) hg9 hlg hL', hP, hD, hM, okL_set hokL trivial, hLG.set (fun x q => nomatch q), hVS, hc0, hw0⟩ hst)
  next => cases h

set_option maxHeartbeats 4000000 in
theorem sm_dup (hF : FX p R s mI args meth c cc nL own ini) (hG : GF tb D ka xa zv A s s.heap) (hA : ∀ q, s.heap.size ≤ q → A q) (hC : CFacts tb) (hJ : JFacts) (hS : ST D ka xa zv A s lg nL c0 w0 ad lsR ls m H locs cells slots) (hst : ∀ v ∈ st, okV m.2.1 v)
    (h : sI tb (.dup) ls st m = some (φ, ls', st', m')) (hφ : φ) (hd : decode cc pc = .ok (raw, len)) (hk : iOK own ini lg nL raw len (.dup)) (hr : m'.2.2.1 ≤ R.cells + c0 ∧ m'.2.2.2 ≤ R.slots + w0)
    (kk : ∀ ad' lsR' H' locs' cells' slots', (∀ k, k < m.2.1 → ad' k = ad k) → ST D ka xa zv A s lg nL c0 w0 ad' lsR' ls' m' H' locs' cells' slots' → (∀ v ∈ st', okV m'.2.1 v) → W p l e R s mI args below meth c H' locs' cells' slots' Q (F0 mI (pc + len) lsR' (st'.map (rv ad' xa zv)))) :
    W p l e R s mI args below meth c H locs cells slots Q (F0 mI pc lsR (st.map (rv ad xa zv))) := by
  obtain ⟨hx, hb, hml, hown, hts, hlocks, hin, hfr, hlo⟩ := hF
  obtain ⟨hL, hP, hD, hM, hokL, hLG, hVS, hc0, hw0⟩ := id hS
  dsimp only [sI] at h
  obtain ⟨rfl, rfl⟩ := hk
  split at h
  next x st0 =>
    obtain ⟨rfl, rfl, rfl, rfl⟩ := h
    exact lv_dup hx hb hd rfl (kk ad lsR H locs cells slots (fun _ _ => rfl) hS (fun v hv => (List.mem_cons.mp hv).elim (fun q => by rw [q]; trivial) (fun hv => hst v hv)))
  next x st0 =>
    obtain ⟨rfl, rfl, rfl, rfl⟩ := h
    exact lv_dup hx hb hd rfl (kk ad lsR H locs cells slots (fun _ _ => rfl) hS (fun v hv => (List.mem_cons.mp hv).elim (fun q => by rw [q]; exact hst _ List.mem_cons_self) (fun hv => hst v hv)))
  next => cases h

set_option maxHeartbeats 4000000 in
theorem sm_dup2 (hF : FX p R s mI args meth c cc nL own ini) (hG : GF tb D ka xa zv A s s.heap) (hA : ∀ q, s.heap.size ≤ q → A q) (hC : CFacts tb) (hJ : JFacts) (hS : ST D ka xa zv A s lg nL c0 w0 ad lsR ls m H locs cells slots) (hst : ∀ v ∈ st, okV m.2.1 v)
    (h : sI tb (.dup2) ls st m = some (φ, ls', st', m')) (hφ : φ) (hd : decode cc pc = .ok (raw, len)) (hk : iOK own ini lg nL raw len (.dup2)) (hr : m'.2.2.1 ≤ R.cells + c0 ∧ m'.2.2.2 ≤ R.slots + w0)
    (kk : ∀ ad' lsR' H' locs' cells' slots', (∀ k, k < m.2.1 → ad' k = ad k) → ST D ka xa zv A s lg nL c0 w0 ad' lsR' ls' m' H' locs' cells' slots' → (∀ v ∈ st', okV m'.2.1 v) → W p l e R s mI args below meth c H' locs' cells' slots' Q (F0 mI (pc + len) lsR' (st'.map (rv ad' xa zv)))) :
    W p l e R s mI args below meth c H locs cells slots Q (F0 mI pc lsR (st.map (rv ad xa zv))) := by
  obtain ⟨hx, hb, hml, hown, hts, hlocks, hin, hfr, hlo⟩ := hF
  obtain ⟨hL, hP, hD, hM, hokL, hLG, hVS, hc0, hw0⟩ := id hS
  dsimp only [sI] at h
  obtain ⟨rfl, rfl⟩ := hk
  split at h
  next x a st0 =>
    obtain ⟨rfl, rfl, rfl, rfl⟩ := h
    refine lv_dup2_11 hx hb hd rfl rfl (kk ad lsR H locs cells slots (fun _ _ => rfl) hS (fun v hv => ?_))
    rcases List.mem_cons.mp hv with rfl | hv
    · trivial
    · rcases List.mem_cons.mp hv with rfl | hv
      · exact hst _ (List.mem_cons_of_mem _ List.mem_cons_self)
      · exact hst _ hv
  next => cases h

set_option maxHeartbeats 4000000 in
theorem sm_pop (hF : FX p R s mI args meth c cc nL own ini) (hG : GF tb D ka xa zv A s s.heap) (hA : ∀ q, s.heap.size ≤ q → A q) (hC : CFacts tb) (hJ : JFacts) (hS : ST D ka xa zv A s lg nL c0 w0 ad lsR ls m H locs cells slots) (hst : ∀ v ∈ st, okV m.2.1 v)
    (h : sI tb (.pop) ls st m = some (φ, ls', st', m')) (hφ : φ) (hd : decode cc pc = .ok (raw, len)) (hk : iOK own ini lg nL raw len (.pop)) (hr : m'.2.2.1 ≤ R.cells + c0 ∧ m'.2.2.2 ≤ R.slots + w0)
    (kk : ∀ ad' lsR' H' locs' cells' slots', (∀ k, k < m.2.1 → ad' k = ad k) → ST D ka xa zv A s lg nL c0 w0 ad' lsR' ls' m' H' locs' cells' slots' → (∀ v ∈ st', okV m'.2.1 v) → W p l e R s mI args below meth c H' locs' cells' slots' Q (F0 mI (pc + len) lsR' (st'.map (rv ad' xa zv)))) :
    W p l e R s mI args below meth c H locs cells slots Q (F0 mI pc lsR (st.map (rv ad xa zv))) := by
  obtain ⟨hx, hb, hml, hown, hts, hlocks, hin, hfr, hlo⟩ := hF
  obtain ⟨hL, hP, hD, hM, hokL, hLG, hVS, hc0, hw0⟩ := id hS
  dsimp only [sI] at h
  obtain ⟨rfl, rfl⟩ := hk
  split at h
  next x st0 =>
    obtain ⟨rfl, rfl, rfl, rfl⟩ := h
    exact lv_pop hx hb hd rfl (kk ad lsR H locs cells slots (fun _ _ => rfl) hS (fun v hv => hst v (List.mem_cons_of_mem _ hv)))
  next x st0 =>
    obtain ⟨rfl, rfl, rfl, rfl⟩ := h
    have hz : zv.category = 1 := by
      rcases hG.2.2.2.2.2.2.1.2 with q | ⟨a, q⟩ <;> rw [q] <;> rfl
    have hcat : (rv ad xa zv (.inr x)).category = 1 := by
      rcases x with _ | (_ | (_ | _))
      · rfl
      · rfl
      · exact hz
      · rfl
    exact lv_pop hx hb hd hcat (kk ad lsR H locs cells slots (fun _ _ => rfl) hS (fun v hv => hst v (List.mem_cons_of_mem _ hv)))
  next => cases h

set_option maxHeartbeats 4000000 in
theorem sm_getfield {g : Nat} (hF : FX p R s mI args meth c cc nL own ini) (hG : GF tb D ka xa zv A s s.heap) (hA : ∀ q, s.heap.size ≤ q → A q) (hC : CFacts tb) (hJ : JFacts) (hS : ST D ka xa zv A s lg nL c0 w0 ad lsR ls m H locs cells slots) (hst : ∀ v ∈ st, okV m.2.1 v)
    (h : sI tb (.getfield g) ls st m = some (φ, ls', st', m')) (hφ : φ) (hd : decode cc pc = .ok (raw, len)) (hk : iOK own ini lg nL raw len (.getfield g)) (hr : m'.2.2.1 ≤ R.cells + c0 ∧ m'.2.2.2 ≤ R.slots + w0)
    (kk : ∀ ad' lsR' H' locs' cells' slots', (∀ k, k < m.2.1 → ad' k = ad k) → ST D ka xa zv A s lg nL c0 w0 ad' lsR' ls' m' H' locs' cells' slots' → (∀ v ∈ st', okV m'.2.1 v) → W p l e R s mI args below meth c H' locs' cells' slots' Q (F0 mI (pc + len) lsR' (st'.map (rv ad' xa zv)))) :
    W p l e R s mI args below meth c H locs cells slots Q (F0 mI pc lsR (st.map (rv ad xa zv))) := by
  obtain ⟨hx, hb, hml, hown, hts, hlocks, hin, hfr, hlo⟩ := hF
  obtain ⟨hL, hP, hD, hM, hokL, hLG, hVS, hc0, hw0⟩ := id hS
  dsimp only [sI] at h
  obtain ⟨q, r, rfl, rfl, hr1, hk1, hw⟩ := hk
  split at h
  next a st0 =>
    split at h
    next ci fs e1 =>
      split at h
      next v e2 =>
        obtain ⟨rfl, rfl, rfl, rfl⟩ := h
        have hci : vwCl[ci]? = some r := by rw [hφ]; exact hr1
        have ha := sm_lt hM e1 hci
        have hgt := wsA_get (ad := ad) (xa := xa) (zv := zv) (ka := ka) ha
        rw [e1] at hgt
        have hok := hM.1 a ha
        rw [e1] at hok
        refine va_get hx hb hts (hC.2 ci r hci).1 hown hG.1 hP a (fs := fs.map (rv ad xa zv)) hgt (C := r.1) (T := r.2.1) (N := r.2.2) hci (g % 100) hk1 (hts _ hw) (fun x h => h) (v := rv ad xa zv v) (by rw [List.getElem?_map, e2]; rfl) hd ?_
        exact kk ad lsR H locs cells slots (fun _ _ => rfl) hS (fun w hv => (List.mem_cons.mp hv).elim (fun q => by rw [q]; exact hok.2 v (List.mem_of_getElem? e2)) (fun hv => hst w (List.mem_cons_of_mem _ hv)))
      next => cases h
    next => cases h
  next => cases h

set_option maxHeartbeats 4000000 in
theorem sm_put (hF : FX p R s mI args meth c cc nL own ini) (hG : GF tb D ka xa zv A s s.heap) (hC : CFacts tb) (hS : ST D ka xa zv A s lg nL c0 w0 ad lsR ls m H locs cells slots) {q g a ci : Nat} {r : vw_C} {fs : List AV} {w : AV} {st0 : List AV} {ty : FieldType}
    (e1 : m.1 a = co ci fs) (hci : vwCl[ci]? = some r) (hk1 : g < r.2.2) (hw : Cond.fieldLink own q (r.2.1 g).1 (r.2.1 g).2.1 (r.2.1 g).2.2.1 ∈ AWs) (hty : parseFieldDescriptor (r.2.1 g).2.2.1 = some ty) (hfin : (r.2.1 g).2.2.2 = false ∨ ((r.2.1 g).2.2.2 = true ∧ ini = true ∧ (r.2.1 g).1 = own))
    (hn : narrow ty (rv ad xa zv w) = rv ad xa zv w) (hfit : fits ty (rv ad xa zv w) = true) (hw1 : okV m.2.1 w) (hd : decode cc pc = .ok (.putfield q, 3))
    (kk : ∀ H' locs', ST D ka xa zv A s lg nL c0 w0 ad lsR ls (mset m a (co ci (fs.set g w))) H' locs' cells slots → W p l e R s mI args below meth c H' locs' cells slots Q (F0 mI (pc + 3) lsR (st0.map (rv ad xa zv)))) :
    W p l e R s mI args below meth c H locs cells slots Q (F0 mI pc lsR (rv ad xa zv w :: .ref (ad a) :: st0.map (rv ad xa zv))) := by
  obtain ⟨hx, hb, hml, hown, hts, hlocks, hin, hfr, hlo⟩ := hF
  obtain ⟨hL, hP, hD, hM, hokL, hLG, hVS, hc0, hw0⟩ := id hS
  have ha := sm_lt hM e1 hci
  have hgt := wsA_get (ad := ad) (xa := xa) (zv := zv) (ka := ka) ha
  rw [e1] at hgt
  have hok := hM.1 a ha
  rw [e1] at hok
  obtain ⟨⟨r', hr', hlen⟩, hfs⟩ := hok
  cases Option.some.inj (hr'.symm.trans hci)
  obtain ⟨c1, c2, c3, c4, ty0, c5, c6, c7⟩ := hC.2 ci _ hci
  have ee : (ad a, (Sum.inr (ci, (fs.map (rv ad xa zv)).set g (rv ad xa zv w)) : va_E)) = (ad a, rc ad xa zv ka (co ci (fs.set g w))) := by
    show _ = (ad a, (Sum.inr (ci, (fs.set g w).map (rv ad xa zv)) : va_E))
    rw [List.map_set]
  have hl : g < (fs.map (rv ad xa zv)).length := by rw [List.length_map, hlen]; exact hk1
  have fin : ∀ (H1 : Heap) (locs1 : List Loc), va_P D vwCl ((wsA ad xa zv ka m).set a (ad a, .inr (ci, (fs.map (rv ad xa zv)).set g (rv ad xa zv w)))) H1 → va_D A ((wsA ad xa zv ka m).set a (ad a, .inr (ci, (fs.map (rv ad xa zv)).set g (rv ad xa zv w)))) → va_S A s.heap H1 locs1 → W p l e R s mI args below meth c H1 locs1 cells slots Q (F0 mI (pc + 3) lsR (st0.map (rv ad xa zv))) := by
    intro H1 locs1 hP1 hD1 hS1
    rw [ee, wsA_set] at hP1 hD1
    refine kk H1 locs1 ⟨hL, hP1, hD1, hM.set ha ⟨⟨_, hci, by rw [List.length_set]; exact hlen⟩, fun v hv => ?_⟩, hokL, hLG, hS1, hc0, hw0⟩
    rcases List.mem_or_eq_of_mem_set hv with z | z
    · exact hfs v z
    · rw [z]; exact hw1
  rcases hfin with hf | ⟨hf, hi, hown2⟩
  · exact va_put hx hb hts c1 ty0 c5 c6 hown hG.1 hP hD hVS a (fs := fs.map (rv ad xa zv)) hgt (C := r.1) (T := r.2.1) (N := r.2.2) hci g hk1 (hts _ hw) (fun x h => h) hf hty hn hfit hl hd fin
  · exact va_putF hx hb hts c1 ty0 c5 c6 hown hG.1 hP hD hVS a (fs := fs.map (rv ad xa zv)) hgt (C := r.1) (T := r.2.1) (N := r.2.2) hci g hk1 (hts _ hw) (fun x h => h) hf (hin hi) hown2 hty hn hfit hl hd fin

set_option maxHeartbeats 4000000 in
theorem sm_putfield {g : Nat} (hF : FX p R s mI args meth c cc nL own ini) (hG : GF tb D ka xa zv A s s.heap) (hA : ∀ q, s.heap.size ≤ q → A q) (hC : CFacts tb) (hJ : JFacts) (hS : ST D ka xa zv A s lg nL c0 w0 ad lsR ls m H locs cells slots) (hst : ∀ v ∈ st, okV m.2.1 v)
    (h : sI tb (.putfield g) ls st m = some (φ, ls', st', m')) (hφ : φ) (hd : decode cc pc = .ok (raw, len)) (hk : iOK own ini lg nL raw len (.putfield g)) (hr : m'.2.2.1 ≤ R.cells + c0 ∧ m'.2.2.2 ≤ R.slots + w0)
    (kk : ∀ ad' lsR' H' locs' cells' slots', (∀ k, k < m.2.1 → ad' k = ad k) → ST D ka xa zv A s lg nL c0 w0 ad' lsR' ls' m' H' locs' cells' slots' → (∀ v ∈ st', okV m'.2.1 v) → W p l e R s mI args below meth c H' locs' cells' slots' Q (F0 mI (pc + len) lsR' (st'.map (rv ad' xa zv)))) :
    W p l e R s mI args below meth c H locs cells slots Q (F0 mI pc lsR (st.map (rv ad xa zv))) := by
  obtain ⟨hx, hb, hml, hown, hts, hlocks, hin, hfr, hlo⟩ := hF
  obtain ⟨hL, hP, hD, hM, hokL, hLG, hVS, hc0, hw0⟩ := id hS
  dsimp only [sI] at h
  obtain ⟨q, r, rfl, rfl, hr1, hk1, hw, hty, hfin⟩ := hk
  split at h
  next n a st0 =>
    split at h
    next ci fs e1 =>
      obtain ⟨rfl, rfl, rfl, rfl⟩ := h
      have hci : vwCl[ci]? = some r := by rw [hφ]; exact hr1
      exact sm_put (w := vi n) ⟨hx, hb, hml, hown, hts, hlocks, hin, hfr, hlo⟩ hG hC hS e1 hci hk1 hw hty hfin (vp_nar_int _) rfl trivial hd (fun H' locs' hS' => kk ad lsR H' locs' cells slots (fun _ _ => rfl) hS' (fun v hv => hst v (List.mem_cons_of_mem _ (List.mem_cons_of_mem _ hv))))
    next => cases h
  next => cases h

set_option maxHeartbeats 4000000 in
theorem sm_dstore {g : Nat} (hF : FX p R s mI args meth c cc nL own ini) (hG : GF tb D ka xa zv A s s.heap) (hA : ∀ q, s.heap.size ≤ q → A q) (hC : CFacts tb) (hJ : JFacts) (hS : ST D ka xa zv A s lg nL c0 w0 ad lsR ls m H locs cells slots) (hst : ∀ v ∈ st, okV m.2.1 v)
    (h : sI tb (.dstore g) ls st m = some (φ, ls', st', m')) (hφ : φ) (hd : decode cc pc = .ok (raw, len)) (hk : iOK own ini lg nL raw len (.dstore g)) (hr : m'.2.2.1 ≤ R.cells + c0 ∧ m'.2.2.2 ≤ R.slots + w0)
    (kk : ∀ ad' lsR' H' locs' cells' slots', (∀ k, k < m.2.1 → ad' k = ad k) → ST D ka xa zv A s lg nL c0 w0 ad' lsR' ls' m' H' locs' cells' slots' → (∀ v ∈ st', okV m'.2.1 v) → W p l e R s mI args below meth c H' locs' cells' slots' Q (F0 mI (pc + len) lsR' (st'.map (rv ad' xa zv)))) :
    W p l e R s mI args below meth c H locs cells slots Q (F0 mI pc lsR (st.map (rv ad xa zv))) := by
  obtain ⟨hx, hb, hml, hown, hts, hlocks, hin, hfr, hlo⟩ := hF
  obtain ⟨hL, hP, hD, hM, hokL, hLG, hVS, hc0, hw0⟩ := id hS
  dsimp only [sI] at h
  obtain ⟨q, r, rfl, rfl, hr1, hk1, hw, hty, hfin⟩ := hk
  split at h
  next n a st0 =>
    split at h
    next ci fs e1 =>
      obtain ⟨rfl, rfl, rfl, rfl⟩ := h
      have hci : vwCl[ci]? = some r := by rw [hφ.2]; exact hr1
      exact sm_put (w := vi n) ⟨hx, hb, hml, hown, hts, hlocks, hin, hfr, hlo⟩ hG hC hS e1 hci hk1 hw hty hfin (nt_bool hφ.1).1 (nt_bool hφ.1).2 trivial hd (fun H' locs' hS' => kk ad lsR H' locs' cells slots (fun _ _ => rfl) hS' (fun v hv => hst v (List.mem_cons_of_mem _ (List.mem_cons_of_mem _ hv))))
    next => cases h
  next => cases h

set_option maxHeartbeats 4000000 in
theorem sm_putstatic {g : Nat} (hF : FX p R s mI args meth c cc nL own ini) (hG : GF tb D ka xa zv A s s.heap) (hA : ∀ q, s.heap.size ≤ q → A q) (hC : CFacts tb) (hJ : JFacts) (hS : ST D ka xa zv A s lg nL c0 w0 ad lsR ls m H locs cells slots) (hst : ∀ v ∈ st, okV m.2.1 v)
    (h : sI tb (.putstatic g) ls st m = some (φ, ls', st', m')) (hφ : φ) (hd : decode cc pc = .ok (raw, len)) (hk : iOK own ini lg nL raw len (.putstatic g)) (hr : m'.2.2.1 ≤ R.cells + c0 ∧ m'.2.2.2 ≤ R.slots + w0)
    (kk : ∀ ad' lsR' H' locs' cells' slots', (∀ k, k < m.2.1 → ad' k = ad k) → ST D ka xa zv A s lg nL c0 w0 ad' lsR' ls' m' H' locs' cells' slots' → (∀ v ∈ st', okV m'.2.1 v) → W p l e R s mI args below meth c H' locs' cells' slots' Q (F0 mI (pc + len) lsR' (st'.map (rv ad' xa zv)))) :
    W p l e R s mI args below meth c H locs cells slots Q (F0 mI pc lsR (st.map (rv ad xa zv))) := by
  obtain ⟨hx, hb, hml, hown, hts, hlocks, hin, hfr, hlo⟩ := hF
  obtain ⟨hL, hP, hD, hM, hokL, hLG, hVS, hc0, hw0⟩ := id hS
  dsimp only [sI] at h
  obtain ⟨q, r, rfl, rfl, hr1, hk1, hw, hty, hfin⟩ := hk
  split at h
  next v a st0 =>
    split at h
    next ci fs e1 =>
      obtain ⟨rfl, rfl, rfl, rfl⟩ := h
      have hci : vwCl[ci]? = some r := by rw [hφ]; exact hr1
      have hv : rv ad xa zv (.inr v) = .null ∨ ∃ a, rv ad xa zv (.inr v) = .ref a := by
        rcases v with k | (k | (_ | _))
        · exact Or.inr ⟨_, rfl⟩
        · exact Or.inr ⟨_, rfl⟩
        · exact hG.2.2.2.2.2.2.1.2
        · exact Or.inl rfl
      rcases hty with ⟨n, hty⟩ | ⟨t, hty⟩
      · refine sm_put (w := .inr v) ⟨hx, hb, hml, hown, hts, hlocks, hin, hfr, hlo⟩ hG hC hS e1 hci hk1 hw hty hfin ?_ ?_ (hst _ List.mem_cons_self) hd (fun H' locs' hS' => kk ad lsR H' locs' cells slots (fun _ _ => rfl) hS' (fun v hv => hst v (List.mem_cons_of_mem _ (List.mem_cons_of_mem _ hv))))
        · rcases hv with z | ⟨a, z⟩ <;> rw [z] <;> rfl
        · rcases hv with z | ⟨a, z⟩ <;> rw [z] <;> rfl
      · refine sm_put (w := .inr v) ⟨hx, hb, hml, hown, hts, hlocks, hin, hfr, hlo⟩ hG hC hS e1 hci hk1 hw hty hfin ?_ ?_ (hst _ List.mem_cons_self) hd (fun H' locs' hS' => kk ad lsR H' locs' cells slots (fun _ _ => rfl) hS' (fun v hv => hst v (List.mem_cons_of_mem _ (List.mem_cons_of_mem _ hv))))
        · rcases hv with z | ⟨a, z⟩ <;> rw [z] <;> rfl
        · rcases hv with z | ⟨a, z⟩ <;> rw [z] <;> rfl
    next => cases h
  next => cases h

end SimStep
