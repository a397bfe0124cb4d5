/-! ===== AN EXCEPTION WHOSE CONSTRUCTOR LINKS ELSEWHERE ===== -/
/-- its words: of Throwable, of its own constructor (pool index ix), of the chain above it, of its cell -/
def xw_all (own : String) (ic : Nat) (X Y : String) (r : List String) (ix : Nat) (rx : ByteArray) : List Cond :=
  (Bundle.throwableAtoms ++ Bundle.throwableSAtoms) ++ (Bundle.passSAtoms X Y ix rx ++ (Bundle.chainSAtoms Y r ++
    ((Bundle.ownAtoms own ic X []).filter fun w => decide (w ∉ Bundle.passSAtoms X Bundle.tN 7 Bundle.six))))
theorem xw_t {own X Y : String} {ic ix : Nat} {rx : ByteArray} {r : List String} {w : Cond} (h : w ∈ Bundle.throwableAtoms) : w ∈ xw_all own ic X Y r ix rx := List.mem_append_left _ (List.mem_append_left _ h)
theorem xw_s {own X Y : String} {ic ix : Nat} {rx : ByteArray} {r : List String} {w : Cond} (h : w ∈ Bundle.throwableSAtoms) : w ∈ xw_all own ic X Y r ix rx := List.mem_append_left _ (List.mem_append_right _ h)
theorem xw_p {own X Y : String} {ic ix : Nat} {rx : ByteArray} {r : List String} {w : Cond} (h : w ∈ Bundle.passSAtoms X Y ix rx) : w ∈ xw_all own ic X Y r ix rx := List.mem_append_right _ (List.mem_append_left _ h)
theorem xw_c {own X Y : String} {ic ix : Nat} {rx : ByteArray} {r : List String} {w : Cond} (h : w ∈ Bundle.chainSAtoms Y r) : w ∈ xw_all own ic X Y r ix rx := List.mem_append_right _ (List.mem_append_right _ (List.mem_append_left _ h))
theorem xw_o {own X Y : String} {ic ix : Nat} {rx : ByteArray} {r : List String} {w : Cond} (h : w ∈ Bundle.ownAtoms own ic X []) (h2 : w ∉ Bundle.passSAtoms X Bundle.tN 7 Bundle.six) : w ∈ xw_all own ic X Y r ix rx :=
  List.mem_append_right _ (List.mem_append_right _ (List.mem_append_right _ (List.mem_filter.mpr ⟨h, decide_eq_true h2⟩)))
section XThrow
variable {p : Program} {l : Launch} {e : Env} {R : Room} {s : State} {m : MethodId} {args : Array Value} {below : List Frame} {meth : Method} {c : Code} {W9 : State} {locs : List Loc} {cells slots : Nat}
set_option maxHeartbeats 4000000 in
theorem xw_ctor (X : Stand p l e R s m args below meth c W9 locs cells slots) (hexec : p.tables.exec = Jvm.exec) (htr : e.platform.stackTraces = false) {own cls Y : String} {r : List String} {ic ix : Nat} {rx : ByteArray}
    (x0 : decode rx 0 = .ok (.aload_n 0, 1)) (x1 : decode rx 1 = .ok (.aload_n 1, 1)) (x2 : decode rx 2 = .ok (.invokespecial ix, 3)) (x5 : decode rx 5 = .ok (.return_, 1))
    (hown : s.vm.findClass own = some m.cls) (hcls : Bundle.fit cls = true) (hne : cls ≠ Bundle.tN) (hY : Bundle.fit Y = true) (hnames : ∀ n ∈ r, Bundle.fit n = true)
    (h : ∀ w ∈ xw_all own ic cls Y r ix rx, w.before args s = true) (hlocs : ∀ x ∈ locs, ∀ cell, s.heap[x.base]? = some cell → cell.vm.isStatics = false)
    {a : Addr} {cX : ClassId} {kX : Class} (hfoundX : s.vm.findClass cls = some cX) (hkX : s.vm.classes[cX]? = some kX) (hcell : W9.heap[a]? = some (freshCell cX kX)) (hnew : s.heap.size ≤ a)
    {msg : Value} (hmsg : msg.isRef = true) {g : JFrame} (hg : g.method = m) (hsize : g.locals.size = c.maxLocals) (hlocked : g.locked = none) (hentered : g.entered = []) {rest : List Value} (hstack : g.stack = msg :: .ref a :: .ref a :: rest)
    (hd6 : decode c.code g.pc = .ok (.invokespecial ic, 3)) (hd9 : decode c.code (g.pc + 3) = .ok (.athrow, 1)) (hout : ∀ x ∈ c.exceptionTable.toList, covers x (g.pc + 3) = false)
    (hRframes : r.length + 1 + 3 < R.frames) (hRlocals : 2 * g.monitorRoom + ((Value.ref a :: rest).map fun v => v.category).sum + (13 * (r.length + 1 + 1) + 42) ≤ R.locals) (hlocks : meth.locks = false) :
    ∃ U : State, Steps p.tables e below (W9.setTop g) U ∧ U.status = .running ∧ Ended U below (.threw a) ∧ s.WarmedH U.vm ∧ s.sameButNew ({ U with vm := s.vm } : State) locs cells slots ∧ ∃ ce, U.heap[a]? = some ce ∧ ce.cls = cX ∧ ce.vm = .none := by
  have howns : e.platform.frameOwnsMonitors = true := by rw [X.admits.platform]
  have hfin : e.platform.finalization = false := by rw [X.admits.platform]
  have hpl : e.platform.magicAccessors = ({} : Platform).magicAccessors := by rw [X.admits.platform]
  have wo : ∀ w, w ∈ Bundle.ownAtoms own ic cls [] → w ∉ Bundle.passSAtoms cls Bundle.tN 7 Bundle.six → w.before args s = true := fun w h1 h2 => h w (xw_o h1 h2)
  obtain ⟨T, Z0, L, -, B9⟩ := ThrowableC.of_atoms (args := args) howns hfin hpl (fun x hx => h x (xw_t hx))
  obtain ⟨Z, M, LZ, LM, hnZ⟩ := Init0T.ofS_atoms (args := args) hpl L B9 (fun x hx => h x (xw_s hx))
  obtain ⟨P1, L1, hP1m, hP1s⟩ := PassC.ofS_atoms (args := args) (s := s) hpl (X := cls) (Y := Y) (Bundle.fit_spec hcls).1 (Bundle.fit_spec hY).2 x0 x1 x2 x5 (fun x hx => h x (xw_p hx))
  obtain ⟨P2, Ps, hlen, L2, hL, hP2m, hlink2, hlink⟩ := Bundle.chainS (args := args) hpl hnZ r Y hY hnames (fun x hx => h x (xw_c hx))
  have hP12 : P1.sup = P2.m := Option.some.inj (hP1s.symm.trans hP2m)
  have hfound : s.vm.findClass cls = some P1.m.cls := findClass_of_methodNamed hP1m
  cases Option.some.inj (hfoundX.symm.trans hfound)
  obtain ⟨c1, kX', hc1, hk, hord, -, -, -⟩ := Cond.instantiable_spec (wo (.instantiable cls 6) (by simp [Bundle.ownAtoms]) (by simp [Bundle.passSAtoms]))
  cases Option.some.inj (hc1.symm.trans hfound)
  cases Option.some.inj (hkX.symm.trans hk)
  have hsel0 : selectMethod e.platform s.vm P1.m.cls T.fill0 = .method T.fill0 := by
    obtain ⟨c2, r2, m2, q1, q2, q3, q4, -⟩ := Cond.selects_spec (wo (.selects cls Bundle.tFill0 Bundle.tFill0) (by simp [Bundle.ownAtoms]) (by simp [Bundle.passSAtoms]))
    cases Option.some.inj (q1.symm.trans hfound)
    cases Option.some.inj (q2.symm.trans (State.methodFound?_of_named B9.fill0 (by decide)))
    cases Option.some.inj (q3.symm.trans B9.fill0)
    rw [Launch.admits_selectMethod X.admits]; exact q4
  have hselF : selectMethod e.platform s.vm P1.m.cls T.fill = .method T.fill := by
    obtain ⟨c2, r2, m2, q1, q2, q3, q4, -⟩ := Cond.selects_spec (wo (.selects cls Bundle.tFill Bundle.tFill) (by simp [Bundle.ownAtoms]) (by simp [Bundle.passSAtoms]))
    cases Option.some.inj (q1.symm.trans hfound)
    cases Option.some.inj (q2.symm.trans (State.methodFound?_of_named B9.fill (by decide)))
    cases Option.some.inj (q3.symm.trans B9.fill)
    rw [Launch.admits_selectMethod X.admits]; exact q4
  obtain ⟨cellS0, hcS0, hiss⟩ := B9.statics
  obtain ⟨u0, hu0⟩ := Cond.staticRefV B9.unassigned L.unassignedStatic L.statics hcS0 hiss (wo (.isRef (.static Bundle.tN "UNASSIGNED_STACK" Bundle.steD)) (by simp [Bundle.ownAtoms]) (by simp [Bundle.passSAtoms]))
  obtain ⟨sen, hsen⟩ := Cond.staticRefV B9.sentinel L.sentinelStatic L.statics hcS0 hiss (wo (.isRef (.static Bundle.tN "SUPPRESSED_SENTINEL" Bundle.listD)) (by simp [Bundle.ownAtoms]) (by simp [Bundle.passSAtoms]))
  obtain ⟨ci198, i198, fB, hk198, hg198, ha198, hsB, -, hnB, htB, hffB⟩ := Cond.ownField (t := .object "java/lang/Object") B9.found L.cls (by decide +kernel) (wo (.fieldLink Bundle.tN 198 Bundle.tN "backtrace" "Ljava/lang/Object;") (by simp [Bundle.ownAtoms]) (by simp [Bundle.passSAtoms])) (wo (.lays Bundle.tN Bundle.tN "backtrace" "Ljava/lang/Object;") (by simp [Bundle.ownAtoms]) (by simp [Bundle.passSAtoms])) e.platform hpl
  obtain ⟨cellS, hcS', heS, -, hkeep⟩ := X.same.2.2.2.2.2 T.aS cellS0 hcS0
  have hcellS : W9.heap[T.aS]? = some cellS := hcS'
  have hout' : ∀ i, (⟨T.aS, i⟩ : Loc) ∉ locs := fun i hmem => by
    have := hlocs _ hmem cellS0 hcS0
    rw [hiss] at this; cases this
  have hknownS : cellS.vm ≠ .unknown := by
    rw [heS]; intro hu
    rw [show cellS0.vm = .unknown from hu] at hiss
    cases hiss
  have hneS : T.aS ≠ a := Nat.ne_of_lt (Nat.lt_of_lt_of_le (Array.getElem?_eq_some_iff.mp hcS0).1 hnew)
  obtain ⟨iM, hffM⟩ := B9.msg
  have wl : ∀ n d, Cond.lays cls Bundle.tN n d ∈ Bundle.ownAtoms own ic cls [] → (Cond.lays cls Bundle.tN n d).before args s = true := fun n d q => wo _ q (by simp [Bundle.passSAtoms])
  obtain ⟨tyC, dC, hdC, hdnC⟩ := Cond.laysAt hfound hk B9.cause (wl "cause" "Ljava/lang/Throwable;" (by simp [Bundle.ownAtoms]))
  obtain ⟨tyS, dS, hdS, hdnS⟩ := Cond.laysAt hfound hk B9.stack (wl "stackTrace" Bundle.steD (by simp [Bundle.ownAtoms]))
  obtain ⟨tyP, dP, hdP, hdnP⟩ := Cond.laysAt hfound hk B9.supp (wl "suppressedExceptions" Bundle.listD (by simp [Bundle.ownAtoms]))
  obtain ⟨tyM, dM, hdM, hdnM⟩ := Cond.laysAt hfound hk hffM (wl "detailMessage" "Ljava/lang/String;" (by simp [Bundle.ownAtoms]))
  obtain ⟨tyB, dB, hdB, hdnB⟩ := Cond.laysAt hfound hk hffB (wl "backtrace" "Ljava/lang/Object;" (by simp [Bundle.ownAtoms]))
  have bC := Cond.laysApart hdB hdC hdnB hdnC (by rw [hnB, B9.causeName]; decide)
  have bS := Cond.laysApart hdB hdS hdnB hdnS (by rw [hnB, B9.stackName]; decide)
  have bP := Cond.laysApart hdB hdP hdnB hdnP (by rw [hnB, B9.suppName]; decide)
  have hskip : SkipFacts T e.platform s (fun u => u) u0 ((preparedCellV T.toThrowableT (freshCell P1.m.cls kX) a u0 sen).withEntry W9.cur) :=
    ⟨{ ci198 := ci198, i198 := i198, fBack := fB }, ⟨hk198, hg198, ha198, hsB⟩, by
      have := fresh_default (c := P1.m.cls) tyB
      rw [htB] at this
      simpa [preparedCellV, Cell.setSlot, Cell.withEntry, Array.getElem?_setIfInBounds, bC, bS, bP, bC.symm, bS.symm, bP.symm, defaultValue] using this, fun _ _ => rfl⟩
  obtain ⟨tm, methC, cdC, kC, vm₁, hnC, -, -, -, -, -, -, -, hW₁, st1⟩ := Steps.initColdS (tb := p.tables) (e := e) (below := below) (s := s) (U := W9) X.here hexec X.warmed hpl hown (t := Bundle.initS cls) rfl rfl (Bundle.fit_spec hcls).2
    (wo (.methodLink own ic (Bundle.initS cls)) (by simp [Bundle.ownAtoms]) (fun q => by
      simp only [Bundle.passSAtoms, List.mem_cons, List.not_mem_nil, or_false, reduceCtorEq, false_or, Cond.methodLink.injEq] at q
      have q9 : Bundle.initS cls = Bundle.initS Bundle.tN := q.2.2
      have q8 : cls = Bundle.tN := congrArg MethodName.cls q9
      exact hne q8)) (h _ (xw_p (by simp [Bundle.passSAtoms]))) (bytes := rx) (maxL := 2) (h _ (xw_p (by simp [Bundle.passSAtoms])))
    (f := g) hg (a := a) (msg := msg) (rest := .ref a :: rest) hstack hd6
  cases Option.some.inj (hnC.symm.trans hP1m)
  have X₁ := X.noted hW₁
  obtain ⟨vm₂, X₂, st2⟩ := X₁.ctorMessageOffV hexec (g := { g with stack := .ref a :: rest }) hg hsize T L Z LZ M LM (P1 :: P2 :: Ps)
    (fun P hP => by
      rcases List.mem_cons.mp hP with rfl | hP
      · exact L1
      · rcases List.mem_cons.mp hP with rfl | hP
        · exact L2
        · exact hL P hP) ⟨hP12, hlink2, hlink⟩ (u0 := u0) (sen := sen) (self := a) hmsg (cell := freshCell P1.m.cls kX) (cellS := cellS)
    hcell (fun _ => by simp) (by simp) rfl rfl hsel0 hselF hcellS hneS hknownS (by rw [hkeep _ (hout' _)]; exact hu0) (by rw [hkeep _ (hout' _)]; exact hsen)
    (Takes.of_laid hk hord tyC (by rw [B9.causeType]; rfl)) (Takes.of_laid hk hord tyS (by rw [B9.stackType]; exact fits_refV_array _ u0)) (Takes.of_laid hk hord tyP (by rw [B9.suppType]; exact fits_refV_object _ sen))
    (Takes.of_laid hk hord tyM (by rw [B9.msgType]; exact fits_refV_object _ ⟨msg, hmsg⟩)) B9.objLocals hskip htr [] hd6
    (by simp only [List.length_cons, hlen]; omega) (by simp only [List.length_cons, hlen]; exact hRlocals)
  obtain ⟨hwalk, hrun, hended, hWU, hsame⟩ := X₂.athrowLeaves hexec (g := { g with stack := .ref a :: rest, pc := g.pc + 3 }) hg hlocked hentered hout (a := a) (rest := rest) rfl hd9
  have hlt : a < ((W9.setVm vm₁).setVm vm₂).heap.size := (Array.getElem?_eq_some_iff.mp hcell).1
  have hU := heapAt_setCell_self (s := (W9.setVm vm₁).setVm vm₂) (plainBareV T.toThrowableT (freshCell P1.m.cls kX) a u0 sen msg) hlt
  refine ⟨_, st1 _ (fun acts => ?_), hrun, hended, hWU, hsame.weaken (fun y hy hlt' => ?_) (Nat.le_refl _) (Nat.le_refl _), _, hU, rfl, rfl⟩
  · rw [doInvoke_state]
    exact st2 _ hwalk
  · rcases List.mem_append.mp hy with h1 | h1
    · exact h1
    · exfalso
      have hb : y.base = a := by
        simp only [List.mem_cons, List.not_mem_nil, or_false] at h1
        rcases h1 with rfl | rfl | rfl | rfl | rfl <;> rfl
      rw [hb] at hlt'
      exact Nat.not_lt.mpr hnew hlt'
end XThrow
section XThrow2
variable {p : Program} {l : Launch} {e : Env} {R : Room} {s : State} {m : MethodId} {args : Array Value} {below : List Frame} {meth : Method} {c : Code} {H : Heap} {locs : List Loc} {cells slots : Nat} {free : Addr → Prop} {ls : Array Slot} {rest : List Value} {Qc : Array Value → State → Outcome → State → Prop} {XC : String → State → State → Prop}
set_option maxHeartbeats 4000000 in
theorem xw_throw {cc : ByteArray} {pc : Nat} (hexec : p.tables.exec = Jvm.exec) (hb : c.code = cc) (hl : l.stackTraces = false) {own cls text Y : String} {r : List String} {ix : Nat} {rx : ByteArray} {ik is ic mc ms sa : Nat} {A : Nat → Prop}
    (x0 : decode rx 0 = .ok (.aload_n 0, 1)) (x1 : decode rx 1 = .ok (.aload_n 1, 1)) (x2 : decode rx 2 = .ok (.invokespecial ix, 3)) (x5 : decode rx 5 = .ok (.return_, 1))
    (hown : s.vm.findClass own = some m.cls) (hcls : Bundle.fit cls = true) (hne : cls ≠ Bundle.tN) (hY : Bundle.fit Y = true) (hnames : ∀ n ∈ r, Bundle.fit n = true)
    (hk : (Cond.classLink own ik cls).before args s = true) (hini : (Cond.initialized cls).before args s = true) (hstr : vk_R own is text sa s) (hat : ∀ w ∈ (xw_all own ic cls Y r ix rx).filter vx_no, w.before args s = true)
    (hgood : ∀ w ∈ Cond.classLink own ik cls :: Cond.initialized cls :: (xw_all own ic cls Y r ix rx).filter vx_no, vx_ot w = true)
    (hU : vx_Zq Bundle.tN "UNASSIGNED_STACK" Bundle.steD A s s.heap) (hN : vx_Zq Bundle.tN "SUPPRESSED_SENTINEL" Bundle.listD A s s.heap) (hS : va_S A s.heap H locs) (hsize : ls.size = c.maxLocals)
    (d0 : decode cc pc = .ok (.new ik, 3)) (d3 : decode cc (pc + 3) = .ok (.dup, 1))
    (dd : (decode cc (pc + 4) = .ok (.ldc is, 2) ∧ decode cc (pc + 6) = .ok (.invokespecial ic, 3) ∧ decode cc (pc + 9) = .ok (.athrow, 1)) ∨ (decode cc (pc + 4) = .ok (.ldc_w is, 3) ∧ decode cc (pc + 7) = .ok (.invokespecial ic, 3) ∧ decode cc (pc + 10) = .ok (.athrow, 1)))
    (hout : ∀ q : Nat, ∀ x ∈ c.exceptionTable.toList, covers x q = false)
    (hRframes : r.length + 1 + 3 < R.frames) (hRlocals : (rest.map fun v => v.category).sum + (13 * (r.length + 1 + 1) + 43) ≤ R.locals) (hRcells : cells + 1 ≤ R.cells) (hRslots : slots + 6 ≤ R.slots) (hlocks : meth.locks = false)
    (hx : ∀ t : State, s.vm.Alike t.vm → H.size ≤ t.heap.size → (∀ q : Nat, q < H.size → t.heap[q]? = H[q]?) → XC cls s t)
    (hf : ∀ z ∈ locs, free z.base) (hc : cells + 1 ≤ mc) (hs : slots + 6 ≤ ms) :
    W p l e R s m args below meth c H locs cells slots (vx_MQ below Qc XC args s mc ms free) (F0 m pc ls rest) := by
  intro T hT X
  have htr : e.platform.stackTraces = false := (show e.platform.stackTraces = l.stackTraces by rw [X.admits.platform]).trans hl
  have B9 := vx_rebase X (R' := { frames := R.frames, locals := R.locals, cells := 1, slots := 6 }) (Nat.le_refl _) (Nat.le_refl _) hRcells hRslots
  obtain ⟨s', hA⟩ : ∃ z, z = (T.setVm s.vm).setFrames (.invoking m args :: below) := ⟨_, rfl⟩
  rw [← hA] at B9
  have hvm : s'.vm = s.vm := by rw [hA]; rfl
  have hhp : s'.heap = H := by rw [hA]; exact hT
  have hW0 : s.WarmedH s'.vm := by rw [hvm]; exact State.WarmedH.refl s
  have carry : ∀ w ∈ Cond.classLink own ik cls :: Cond.initialized cls :: (xw_all own ic cls Y r ix rx).filter vx_no, w.before args s = true → w.before args s' = true := fun w hw q => vx_ot_at hW0 hvm.symm (hgood w hw) q
  have hU' : vx_Zq Bundle.tN "UNASSIGNED_STACK" Bundle.steD A s' s'.heap := by rw [hhp]; exact vx_Zq.moved hW0.alike (hU.kept hS.2.1)
  have hN' : vx_Zq Bundle.tN "SUPPRESSED_SENTINEL" Bundle.listD A s' s'.heap := by rw [hhp]; exact vx_Zq.moved hW0.alike (hN.kept hS.2.1)
  have h : ∀ w ∈ xw_all own ic cls Y r ix rx, w.before args s' = true := vx_own (fun w hw => carry w (List.mem_cons_of_mem _ (List.mem_cons_of_mem _ hw)) (hat w hw)) (vx_isRefq hU'.1) (vx_isRefq hN'.1) hU'.2.word hN'.2.word
  have hown' : s'.vm.findClass own = some m.cls := by rw [hvm]; exact hown
  have hins : (Cond.instantiable cls 6).before args s' = true := h _ (xw_o (by simp [Bundle.ownAtoms]) (by simp [Bundle.passSAtoms]))
  obtain ⟨vm₁, cX, kX, hfX, hkX, -, -, X₁, st1⟩ := B9.newCold hexec (own := own) (C := cls) (index := ik) (n := 6) hown' (carry _ List.mem_cons_self hk) hins (carry _ (List.mem_cons_of_mem _ List.mem_cons_self) hini)
    (g := F0 m pc ls rest) rfl (by rw [hb]; exact d0) (Nat.le_refl _) (Nat.le_refl _)
  generalize hT1 : (T.setVm vm₁).pushCell { cls := cX, slots := kX.instanceTypes.map defaultValue, vm := .none } = T1 at X₁ st1
  have hcat : (Value.ref T.heap.size).category = 1 := rfl
  have hcellA : T1.heap[T.heap.size]? = some (freshCell cX kX) := by rw [← hT1]; exact State.heap_pushCell_size _ _
  have d3' : decode c.code (pc + 3) = .ok (.dup, 1) := by rw [hb]; exact d3
  have hstr' : vk_R own is text sa s' := vk_R.warm hW0 hstr
  have main : ∀ k, decode cc (pc + k) = .ok (.invokespecial ic, 3) → decode cc (pc + k + 3) = .ok (.athrow, 1) →
      (∀ target, Steps p.tables e below (T1.setTop { method := m, pc := pc + k, locals := ls, stack := .ref sa :: .ref T.heap.size :: .ref T.heap.size :: rest, locked := none }) target → Steps p.tables e below (T1.setTop { method := m, pc := pc + 4, locals := ls, stack := .ref T.heap.size :: .ref T.heap.size :: rest, locked := none }) target) →
      ∃ t : State, Steps p.tables e below (T.setTop (F0 m pc ls rest)) t ∧ vx_MQ below Qc XC args s mc ms free t := by
    intro k d6 d9 hld
    obtain ⟨U, hsteps, hrun, hend, hW, hsame, ce, hce, hO1, hO2⟩ := xw_ctor X₁ hexec htr x0 x1 x2 x5 (own := own) (cls := cls) (ic := ic) hown' hcls hne hY hnames h (fun x hx => nomatch hx) hfX hkX hcellA (by rw [hhp, hT]; exact Nat.le_refl _) (msg := .ref sa) rfl
      (g := { method := m, pc := pc + k, locals := ls, stack := .ref sa :: .ref T.heap.size :: .ref T.heap.size :: rest, locked := none }) rfl hsize rfl rfl (rest := rest) rfl
      (by rw [hb]; exact d6) (by rw [hb]; exact d9) (hout _) hRframes (by simp only [List.map_cons, List.sum_cons, hcat]; omega) hlocks
    obtain ⟨f1, f2⟩ := vx_frame hsame
    rw [hhp] at f1 f2
    have hWs : s.WarmedH U.vm := State.WarmedH.trans hW0 hW
    have hcl : s.vm.findClass cls = some ce.cls := by
      rw [hO1, ← hvm]
      exact hfX
    have hall : s.sameButNew ({ U with vm := s.vm } : State) locs mc ms := by
      subst hA
      obtain ⟨e1, e2⟩ := hsame
      rw [State.setFrames_setFrames] at e1
      have h2 : (T.setVm s.vm).sameButNew ({ U with vm := s.vm } : State) [] (0 + 1) (0 + 6) := ⟨e1, e2⟩
      have h3 := X.same.trans h2
      rw [List.append_nil] at h3
      exact h3.mono hc hs
    refine ⟨U, ?_, .threw T.heap.size, hrun, hend, Or.inr ⟨T.heap.size, rfl, cls, ce, locs, hx U hWs.alike f1 (fun q hq => f2 q hq (fun z hz => nomatch hz)), hce, hO2, hcl, hWs, hall, hf⟩⟩
    refine st1 _ ?_
    show Steps p.tables e below (T1.setTop { method := m, pc := pc + 3, locals := ls, stack := .ref T.heap.size :: rest, locked := none }) _
    jvm_step X₁.here [X₁.here.top, hexec, d3', Value.category]
    exact hld _ hsteps
  rcases dd with ⟨d4, d6, d9⟩ | ⟨d4, d6, d9⟩
  · have d4' : decode c.code (pc + 4) = .ok (.ldc is, 2) := by rw [hb]; exact d4
    exact main 6 d6 d9 (fun target q => X₁.ldcString hexec (own := own) (text := text) (index := is) (a := sa) hown' hstr'.1 hstr'.2
      (g := { method := m, pc := pc + 4, locals := ls, stack := .ref T.heap.size :: .ref T.heap.size :: rest, locked := none }) rfl d4' _ q)
  · have d4' : decode c.code (pc + 4) = .ok (.ldc_w is, 3) := by rw [hb]; exact d4
    exact main 7 d6 d9 (fun target q => X₁.ldcStringW hexec (own := own) (text := text) (index := is) (a := sa) hown' hstr'.1 hstr'.2
      (g := { method := m, pc := pc + 4, locals := ls, stack := .ref T.heap.size :: .ref T.heap.size :: rest, locked := none }) rfl d4' _ q)
end XThrow2
/-! ===== THE SIMULATION: a run of the abstract machine is one of the real machine ===== -/
def LeM (m m' : AM) : Prop := m.2.1 ≤ m'.2.1 ∧ m.2.2.1 ≤ m'.2.2.1 ∧ m.2.2.2 ≤ m'.2.2.2
theorem LeM.rf {m : AM} : LeM m m := ⟨Nat.le_refl _, Nat.le_refl _, Nat.le_refl _⟩
theorem LeM.tr {a b c : AM} (h : LeM a b) (h2 : LeM b c) : LeM a c := ⟨Nat.le_trans h.1 h2.1, Nat.le_trans h.2.1 h2.2.1, Nat.le_trans h.2.2 h2.2.2⟩
theorem LeM.set {m : AM} {a : Nat} {c : AC} : LeM m (mset m a c) := ⟨Nat.le_refl _, Nat.le_refl _, Nat.le_refl _⟩
theorem LeM.new {m : AM} {c : AC} {w : Nat} : LeM m (mnew m c w) := ⟨Nat.le_succ _, Nat.le_succ _, Nat.le_add_right _ _⟩
theorem LeM.thr {m : AM} : LeM m (mthrow m) := ⟨Nat.le_refl _, Nat.le_succ _, Nat.le_add_right _ _⟩
set_option maxHeartbeats 8000000 in
theorem sI_le {tb : Tab} {i : Instr} {ls st : List AV} {m : AM} {φ : Prop} {ls' st' : List AV} {m' : AM} (h : sI tb i ls st m = some (φ, ls', st', m')) : LeM m m' := by
  have key : ∀ {a b c}, (some (a, b, c, m) : Option (Prop × List AV × List AV × AM)) = some (φ, ls', st', m') → LeM m m' := by
    intro a b c h
    cases h
    exact LeM.rf
  have keyS : ∀ {a b c q x}, (some (a, b, c, mset m q x) : Option (Prop × List AV × List AV × AM)) = some (φ, ls', st', m') → LeM m m' := by
    intro a b c q x h
    cases h
    exact LeM.set
  have keyN : ∀ {a b c x w}, (some (a, b, c, mnew m x w) : Option (Prop × List AV × List AV × AM)) = some (φ, ls', st', m') → LeM m m' := by
    intro a b c x w h
    cases h
    exact LeM.new
  unfold sI at h
  repeat' split at h
  all_goals first | exact key h | exact keyS h | exact keyN h | cases h
def CLe (C : Nat → List AV → AM → (Out → AM → Prop) → Prop) : Prop := ∀ M args m K, C M args m K → ∃ o m', K o m' ∧ LeM m m'
theorem swB_any {J : Nat → Prop} {P : Prop} (d x : Int) (h : ∀ t, J t → P) : ∀ ps, swB J d ps x → P := by
  intro ps
  induction ps with
  | nil => exact fun q => h _ q
  | cons p ps ih =>
    intro q
    by_cases e : x = p.1
    · exact h _ (q.1 e)
    · exact ih (q.2 e)
theorem wpB_le {tb : Tab} {hs : Nat → Option (Nat × Nat)} {C : Nat → List AV → AM → (Out → AM → Prop) → Prop} {o : Out} {mf : AM} {J : Nat → List AV → List AV → AM → Prop}
    (hC : CLe C) (hJ : ∀ L ls st m, J L ls st m → LeM m mf) : ∀ is ls st m, wpB tb hs C (one o mf) J is ls st m → LeM m mf := by
  intro is
  induction is with
  | nil => exact fun _ _ _ h => h.elim
  | cons i is ih =>
    intro ls st m h
    unfold wpB at h
    have two : ∀ {φ c : Prop} {Lt : Nat} {ls st ls2 st2}, (φ ∧ (c → J Lt ls st m) ∧ (¬ c → wpB tb hs C (one o mf) J is ls2 st2 m)) → LeM m mf := by
      intro φ c Lt ls st ls2 st2 h
      by_cases e : c
      · exact hJ _ _ _ _ (h.2.1 e)
      · exact ih _ _ _ (h.2.2 e)
    have en : ∀ {o'}, one o mf o' m → LeM m mf := fun q => q.2 ▸ LeM.rf
    split at h
    · exact hJ _ _ _ _ h
    · exact hJ _ _ _ _ h
    · split at h
      · exact two h
      · exact h.elim
    · split at h
      · exact two h
      · exact h.elim
    · split at h
      · exact ih _ _ _ h
      · exact hJ _ _ _ _ h
      · exact h.elim
    · split at h
      · exact hJ _ _ _ _ h
      · exact ih _ _ _ h
      · exact h.elim
    · split at h
      · exact swB_any _ _ (fun t q => hJ _ _ _ _ q) _ h.2
      · exact h.elim
    · split at h
      · exact en h
      · exact h.elim
    · split at h
      · exact en h.2
      · exact h.elim
    · split at h
      · exact en h.2
      · exact h.elim
    · split at h
      · exact en h.2
      · exact h.elim
    · split at h
      · exact en h
      · exact en h
      · exact h.elim
    · split at h
      · exact en h
      · exact h.elim
    · obtain ⟨o1, m1, k1, k2⟩ := hC _ _ _ _ h.2
      rcases o1 with r | E
      · exact k2.tr (ih _ _ _ k1)
      · dsimp only at k1
        split at k1
        · exact k1.2 ▸ k2
        · exact k2.tr (hJ _ _ _ _ k1)
    · split at h
      · exact h.2 ▸ LeM.thr
      · exact h.elim
    · split at h
      · exact h.elim
      next e => exact (sI_le e).tr (ih _ _ _ h.2)
theorem Runs.le_c {tb : Tab} {pg : Prg} : ∀ d, CLe (Runs tb pg d)
  | 0 => fun _ _ _ _ h => h.elim
  | d + 1 => fun M args m K h => by
    obtain ⟨o, m', h1, h2⟩ := Runs.det (d + 1) M args m K h
    refine ⟨o, m', h1, h2.2 (fun L ls st m => LeM m m') (fun L ls st m q => wpB_le (Runs.le_c d) (fun _ _ _ _ z => z) _ _ _ _ q)⟩
/-- of a method: its name, bytes, how many locals, what it returns, its table, how it is called (0 static, 1 virtual, 2 as a constructor, 3 static and with a table), how many parameters -/
abbrev MTab : Type := Nat → MethodName × (ByteArray × (Nat × (Option FieldType × (List (Nat × Nat × Nat × Nat) × (Nat × Nat)))))
def isCtl : Instr → Bool
  | .goto _ | .ifCond .. | .if_icmp .. | .ifnull _ | .ifnonnull _ | .lookupswitch .. | .ireturn | .freturn | .dreturn | .lreturn | .areturn | .return_ | .invokeinterface .. | .invokedynamic _ => true
  | _ => false
def isPs : Instr → Bool
  | .jsr _ | .ret _ => true
  | _ => false
def excN : Nat → String := fun k => match k with
  | 0 => "java/lang/IllegalStateException"
  | 1 => "java/lang/IllegalArgumentException"
  | 2 => "java/lang/IndexOutOfBoundsException"
  | 3 => "java/lang/UnsupportedOperationException"
  | 4 => "java/util/NoSuchElementException"
  | _ => ""
def excU : Nat → List String := fun _ => ["java/lang/RuntimeException", "java/lang/Exception"]
def rx13 : ByteArray := ⟨#[0x2a, 0x2b, 0xb7, 0x00, 0x0d, 0xb1]⟩
/-- the words of an exception thrown -/
def vx_atE (own : String) (ic E : Nat) : List Cond := if E = 4 then (xw_all own ic (excN 4) "java/lang/RuntimeException" ["java/lang/Exception"] 13 rx13).filter vx_no else vx_atS own ic (excN E) (excU E)
/-- a row of a table that doesn't take an exception of class E -/
def passes (own : String) (pc E : Nat) (z : ExceptionTableEntry) : Prop := covers z pc = false ∨ (z.catchType ≠ 0 ∧ ∃ F, F < 5 ∧ F ≠ E ∧ Cond.classLink own z.catchType (excN F) ∈ AWs)
def cOK (mt : MTab) (rcv : Nat → Option Nat) (hs : Nat → Option (Nat × Nat)) (own : String) (cc : ByteArray) (nL : Nat) (lg : Nat → Bool) (ret : Option FieldType) (hh : List (Nat × Nat × Nat × Nat)) (pc : Nat) (raw : Instr) (len : Nat) : Instr → Prop
  | .goto t => ∃ off, raw = .goto off ∧ len = 3 ∧ (pc : Int) + off = t ∧ 0 ≤ t
  | .ifCond c t => ∃ off, raw = .ifCond c off ∧ len = 3 ∧ (pc : Int) + off = t ∧ 0 ≤ t
  | .if_icmp c t => ∃ off, raw = .if_icmp c off ∧ len = 3 ∧ (pc : Int) + off = t ∧ 0 ≤ t
  | .ifnull t => ∃ off, raw = .ifnull off ∧ len = 3 ∧ (pc : Int) + off = t ∧ 0 ≤ t
  | .ifnonnull t => ∃ off, raw = .ifnonnull off ∧ len = 3 ∧ (pc : Int) + off = t ∧ 0 ≤ t
  | .lookupswitch d ps => (0 ≤ d ∧ ∀ q ∈ ps.toList, 0 ≤ q.2) ∧ ((∃ d0 ps0, raw = .lookupswitch d0 ps0 ∧ (ps0.toList.zip (ps0.toList.drop 1)).all (fun (a, next) => a.1 < next.1) = true ∧ (pc : Int) + d0 = d ∧ ps.toList = ps0.toList.map fun q => (q.1, (pc : Int) + q.2)) ∨
      ∃ d0 lo hi offs, raw = .tableswitch d0 lo hi offs ∧ (pc : Int) + d0 = d ∧ hi = lo + offs.size - 1 ∧ ps.toList = (List.range offs.size).map fun (j : Nat) => (lo + (j : Int), (pc : Int) + offs.getD j 0))
  | .ireturn => raw = .ireturn ∧ len = 1 ∧ ret = some .int
  | .freturn => raw = .ireturn ∧ len = 1 ∧ ret = some .boolean
  | .dreturn => raw = .ireturn ∧ len = 1 ∧ ret = some .byte
  | .lreturn => raw = .ireturn ∧ len = 1 ∧ ret = some .char
  | .areturn => raw = .areturn ∧ len = 1 ∧ ∃ rt, ret = some rt ∧ ((∃ n, rt = .object n) ∨ ∃ t, rt = .array t)
  | .return_ => raw = .return_ ∧ len = 1 ∧ ret = none
  | .invokeinterface k n => len = 3 ∧ (∀ E, E < 5 → match hs E with
      | none => ∀ z ∈ tableOf hh, passes own pc E z
      | some (j, L) => ∃ pre x suf, tableOf hh = pre ++ x :: suf ∧ (∀ z ∈ pre, passes own pc E z) ∧ covers x pc = true ∧ x.catchType ≠ 0 ∧ Cond.classLink own x.catchType (excN E) ∈ AWs ∧ Cond.castable (excN E) (excN E) ∈ nwL ∧ j < nL ∧ (∀ i, lg i = true → i + 1 ≠ j) ∧
          ((decode cc x.handlerPc = .ok (.astore j, 2) ∧ x.handlerPc + 2 = L) ∨ ∃ f : Fin 4, (f : Nat) = j ∧ decode cc x.handlerPc = .ok (.astore_n f, 1) ∧ x.handlerPc + 1 = L)) ∧
      (((mt k).2.2.2.2.2.1 = 0 ∧ n = (mt k).2.2.2.2.2.2 ∧ ∃ q, raw = .invokestatic q ∧ Cond.methodLink own q (mt k).1 ∈ AWs ∧ Cond.static (mt k).1 ∈ AWs) ∨
      ((mt k).2.2.2.2.2.1 = 1 ∧ n = (mt k).2.2.2.2.2.2 + 1 ∧ (∃ q, raw = .invokevirtual q ∧ Cond.methodLink own q (mt k).1 ∈ AWs ∧ Cond.instanceMethod (mt k).1 ∈ AWs ∧ Cond.selects (mt k).1.cls (mt k).1 (mt k).1 ∈ AWs) ∧ ((∃ ci r, rcv k = some ci ∧ ci ≠ 100 ∧ vwCl[ci]? = some r ∧ r.1 = (mt k).1.cls) ∨ (rcv k = some 100 ∧ (mt k).1.cls = "java/lang/String"))) ∨
      ((mt k).2.2.2.2.2.1 = 2 ∧ n = (mt k).2.2.2.2.2.2 + 1 ∧ (mt k).2.2.2.1 = none ∧ (mt k).1.name = "<init>" ∧ (∃ ci, rcv k = some ci ∧ ci ≠ 100) ∧ ∃ q, raw = .invokespecial q ∧ Cond.instanceMethod (mt k).1 ∈ AWs ∧ (Cond.methodLink own q (mt k).1 ∈ AWs ∨ Cond.methodLinkNest own q (mt k).1 "SnowNames" ∈ nwL)) ∨
      ((mt k).2.2.2.2.2.1 = 3 ∧ n = (mt k).2.2.2.2.2.2 ∧ ∃ q, raw = .invokestatic q ∧ Cond.methodLink own q (mt k).1 ∈ AWs ∧ Cond.static (mt k).1 ∈ AWs))
  | .invokedynamic E => hh = [] ∧ E < 5 ∧ ∃ ik is ic k, Cond.classLink own ik (excN E) ∈ AWs ∧ Cond.initialized (excN E) ∈ AWs ∧ (own, is, k) ∈ strT ∧ (∀ w ∈ vx_atE own ic E, w ∈ AWs ∨ (w ∈ nwL ∧ w.onTables = true)) ∧
      decode cc pc = .ok (.new ik, 3) ∧ decode cc (pc + 3) = .ok (.dup, 1) ∧ ((decode cc (pc + 4) = .ok (.ldc is, 2) ∧ decode cc (pc + 6) = .ok (.invokespecial ic, 3) ∧ decode cc (pc + 9) = .ok (.athrow, 1)) ∨ (decode cc (pc + 4) = .ok (.ldc_w is, 3) ∧ decode cc (pc + 7) = .ok (.invokespecial ic, 3) ∧ decode cc (pc + 10) = .ok (.athrow, 1)))
  | _ => False
/-- a block of the abstract code stands in the real one, from pc on -/
def bOK (mt : MTab) (rcv : Nat → Option Nat) (hs : Nat → Option (Nat × Nat)) (own : String) (ini : Bool) (cc : ByteArray) (nL : Nat) (lg : Nat → Bool) (ret : Option FieldType) (hh : List (Nat × Nat × Nat × Nat)) : Nat → List Instr → Prop
  | _, [] => True
  | pc, i :: is => if isPs i = true then (∀ t, i = .jsr t → t = pc) ∧ bOK mt rcv hs own ini cc nL lg ret hh pc is
    else ∃ raw len, decode cc pc = .ok (raw, len) ∧ (if isCtl i = true then cOK mt rcv hs own cc nL lg ret hh pc raw len i else iOK own ini lg nL raw len i) ∧ bOK mt rcv hs own ini cc nL lg ret hh (pc + len) is
/-- what is asked of each method -/
def MFacts (mt : MTab) (pg : Prg) (lgM : Nat → Nat → Bool) : Prop := ∀ M L, pg.1 M L ≠ [] → plainName (mt M).1.cls = true ∧ ((mt M).1.cls ≠ "java/lang/invoke/MethodHandle" ∧ (mt M).1.cls ≠ "java/lang/invoke/VarHandle") ∧ Cond.initialized (mt M).1.cls ∈ AWs ∧ (∀ sig, parseMethodDescriptor (mt M).1.desc = some sig → (mt M).2.2.2.2.2.2 = sig.parameters.length) ∧ (mt M).2.2.1 ≤ 70 ∧ pg.2.2.1 M = (mt M).2.2.1 ∧
  (((mt M).2.2.2.2.2.1 ≠ 3 ∧ (mt M).2.2.2.2.1 = [] ∧ Cond.code (mt M).1 (mt M).2.1 (mt M).2.2.1 (mt M).2.2.2.1 ∈ AWs) ∨ ((mt M).2.2.2.2.2.1 = 3 ∧ Cond.codeWith (mt M).1 (mt M).2.1 (mt M).2.2.1 (mt M).2.2.2.1 (mt M).2.2.2.2.1 ∈ AWs)) ∧
  bOK mt pg.2.2.2.1 (pg.2.1 M) (mt M).1.cls (decide ((mt M).1.name = "<init>")) (mt M).2.1 (mt M).2.2.1 (lgM M) (mt M).2.2.2.1 (mt M).2.2.2.2.1 L (pg.1 M L)
abbrev rmD (d mc ms : Nat) : Room := { frames := d + 20, cells := mc, slots := ms, locals := 100 * d + 400 }
/-- the world behind a method -/
def EndD (D : va_G) (ka : KA) (xa : Nat → Nat) (zv : Value) (A : Nat → Prop) (ad' : Nat → Nat) (mf : AM) (st t : State) : Prop := va_P D vwCl (wsA ad' xa zv ka mf) t.heap ∧ va_D A (wsA ad' xa zv ka mf) ∧ okM mf ∧ va_F A st t
def PcD (tb : Tab) (D : va_G) (ka : KA) (xa : Nat → Nat) (zv : Value) (b0 : Nat) (ad : Nat → Nat) (args : List AV) (m : AM) : Array Value → State → Prop :=
  va_Pc (args.map (rv ad xa zv)) (fun U => va_P D vwCl (wsA ad xa zv ka m) U.heap ∧ va_D (fun q => b0 ≤ q) (wsA ad xa zv ka m) ∧ GF tb D ka xa zv (fun q => b0 ≤ q) U U.heap ∧ b0 ≤ U.heap.size)
def QcD (D : va_G) (ka : KA) (xa : Nat → Nat) (zv : Value) (b0 : Nat) (ad : Nat → Nat) (m : AM) (o : Out) (mf : AM) : Array Value → State → Outcome → State → Prop := fun _ st oc t =>
  ∃ r, o = .inl r ∧ ∃ ad', (∀ k, k < m.2.1 → ad' k = ad k) ∧ oc = .returned (r.map (rv ad' xa zv)) ∧ (∀ v, r = some v → okV mf.2.1 v) ∧ EndD D ka xa zv (fun q => b0 ≤ q) ad' mf st t
def XcD (D : va_G) (ka : KA) (xa : Nat → Nat) (zv : Value) (b0 : Nat) (ad : Nat → Nat) (m : AM) (o : Out) (mf : AM) : String → State → State → Prop := fun E st t =>
  ∃ k, o = .inr k ∧ k < 5 ∧ E = excN k ∧ ∃ ad', (∀ j, j < m.2.1 → ad' j = ad j) ∧ EndD D ka xa zv (fun q => b0 ≤ q) ad' mf st t
def MetC (l : Launch) (mt : MTab) (tb : Tab) (D : va_G) (ka : KA) (xa : Nat → Nat) (zv : Value) (b0 d M : Nat) (args : List AV) (m : AM) (o : Out) (mf : AM) : Prop :=
  ∀ ad, vx_Met l (mt M).1 AWs (rmD d (mf.2.2.1 - m.2.2.1) (mf.2.2.2 - m.2.2.2)) (PcD tb D ka xa zv b0 ad args m) (QcD D ka xa zv b0 ad m o mf) (XcD D ka xa zv b0 ad m o mf) (mf.2.2.1 - m.2.2.1) (mf.2.2.2 - m.2.2.2) (fun q => b0 ≤ q)
theorem goodAW : GoodIn AWs AWs := fun w hw => ⟨hw, good_of_word (List.mem_filter.mp hw).2⟩
theorem wp_split (tb : Tab) (hs : Nat → Option (Nat × Nat)) (C : Nat → List AV → AM → (Out → AM → Prop) → Prop) (Q : Out → AM → Prop) (J : Nat → List AV → List AV → AM → Prop) (i : Instr) (is : List Instr) (ls st : List AV) (m : AM) (h : isCtl i = false) (h2 : ∀ t, i ≠ .jsr t) :
    wpB tb hs C Q J (i :: is) ls st m = (match sI tb i ls st m with
      | none => False
      | some (φ, ls', st', m') => φ ∧ wpB tb hs C Q J is ls' st' m') := by
  cases i <;> first | exact absurd rfl (h2 _) | rfl | cases h
