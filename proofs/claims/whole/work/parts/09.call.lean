theorem nt_byte {x : Int} (h : -128 ≤ x ∧ x < 128) : narrow .byte (.int (Int32.ofInt x)) = .int (Int32.ofInt x) := by
  have e : (Int32.ofInt x).toInt8.toInt32 = Int32.ofInt x := by
    apply Int32.toInt_inj.mp
    rw [Int8.toInt_toInt32, Int32.toInt_toInt8, nt_ti ⟨by omega, by omega⟩, Int.bmod_def]
    split <;> omega
  have e2 := pk_nb (Int32.ofInt x)
  rw [e] at e2
  exact e2
theorem nt_char {x : Int} (h : 0 ≤ x ∧ x < 65536) : narrow .char (.int (Int32.ofInt x)) = .int (Int32.ofInt x) := by
  have e2 := pk_nc (Int32.ofInt x)
  rw [nt_i2c h] at e2
  exact e2
/-! ===== CALLS AND THROWS ===== -/
theorem Runs_ne {tb : Tab} {pg : Prg} {d M : Nat} {args : List AV} {m : AM} {Q : Out → AM → Prop} (h : Runs tb pg d M args m Q) : ∃ d', d = d' + 1 ∧ pg.1 M 0 ≠ [] := by
  cases d with
  | zero => exact h.elim
  | succ d =>
    refine ⟨d, rfl, fun q => ?_⟩
    have h2 := Ex_open (CMono.refl_of d) h.2
    rw [q] at h2
    exact h2
theorem recv_at {ci : Nat} (h : ci ≠ 100) {args : List AV} {m : AM} (hr : recv (some ci) args m) : ∃ a fs as, args = vr a :: as ∧ m.1 a = co ci fs := by
  unfold recv at hr
  split at hr
  · rename_i q; cases q
  · rename_i q; exact absurd (Option.some.inj q) h
  · rename_i q; cases q; exact hr
theorem sw_look {J : Nat → Prop} {pc : Nat} {d0 x : Int} : ∀ ps : List (Int × Int), 0 ≤ (pc : Int) + d0 → (∀ q ∈ ps, 0 ≤ (pc : Int) + q.2) → swB J ((pc : Int) + d0) (ps.map fun q => (q.1, (pc : Int) + q.2)) x → ∃ t : Nat, J t ∧ (pc : Int) + Op.lookupswitch.offset ps d0 x = (t : Int) := by
  intro ps
  induction ps with
  | nil => exact fun h0 _ h => ⟨_, h, by rw [show Op.lookupswitch.offset [] d0 x = d0 from rfl]; omega⟩
  | cons q ps ih =>
    intro h0 hq h
    obtain ⟨a, o⟩ := q
    have h1 := hq (a, o) List.mem_cons_self
    rw [Op.lookupswitch.offset_cons]
    by_cases e : a = x
    · rw [if_pos e]
      refine ⟨_, h.1 e.symm, ?_⟩
      show _ = ((((pc : Int) + o).toNat : Nat) : Int)
      have h1 : 0 ≤ (pc : Int) + o := h1
      omega
    · rw [if_neg e]
      exact ih h0 (fun q hm => hq q (List.mem_cons_of_mem _ hm)) (h.2 (fun z => e z.symm))
theorem sw_in {J : Nat → Prop} {d x : Int} : ∀ ps : List (Int × Int), swB J d ps x → (J d.toNat ∧ ∀ q ∈ ps, x ≠ q.1) ∨ ∃ q ∈ ps, x = q.1 ∧ J q.2.toNat := by
  intro ps
  induction ps with
  | nil => exact fun h => Or.inl ⟨h, fun q hq => by cases hq⟩
  | cons q ps ih =>
    intro h
    by_cases e : x = q.1
    · exact Or.inr ⟨q, List.mem_cons_self, e, h.1 e⟩
    · rcases ih (h.2 e) with ⟨h1, h2⟩ | ⟨q2, h1, h2⟩
      · exact Or.inl ⟨h1, fun z hz => (List.mem_cons.mp hz).elim (fun w => by rw [w]; exact e) (h2 z)⟩
      · exact Or.inr ⟨q2, List.mem_cons_of_mem _ h1, h2⟩
section SimBlock
variable {p : Program} {l : Launch} {e : Env} {R : Room} {s : State} {mI : MethodId} {args : Array Value} {below : List Frame} {meth : Method} {c : Code}
variable {cc : ByteArray} {nL : Nat} {own : String} {ini : Bool} {lg : Nat → Bool} {tb : Tab} {D : va_G} {ka : KA} {xa : Nat → Nat} {zv : Value} {b0 d : Nat} {pg : Prg} {mt : MTab} {lgM : Nat → Nat → Bool} {m0 mf : AM} {o : Out} {ad0 : Nat → Nat} {hs : Nat → Option (Nat × Nat)} {ret : Option FieldType} {hh : List (Nat × Nat × Nat × Nat)} {J : Nat → List AV → List AV → AM → Prop}
set_option maxHeartbeats 8000000 in
theorem sm_throw (hl : l.stackTraces = false) (hF : FX p R s mI args meth c cc nL own ini) (hRR : R = rmD (d + 1) (mf.2.2.1 - m0.2.2.1) (mf.2.2.2 - m0.2.2.2)) (htab : c.exceptionTable.toList = tableOf hh) (hG : GF tb D ka xa zv (fun q => b0 ≤ q) s s.heap)
    {E : Nat} {is : List Instr} {ls st : List AV} {m : AM} {ad : Nat → Nat} {lsR : Array Slot} {H : Heap} {locs : List Loc} {cells slots pc len : Nat} {raw : Instr}
    (h : wpB tb hs (Runs tb pg d) (one o mf) J (.invokedynamic E :: is) ls st m) (hext : ∀ k, k < m0.2.1 → ad k = ad0 k) (hle : LeM m0 m) (hS : ST D ka xa zv (fun q => b0 ≤ q) s lg nL m0.2.2.1 m0.2.2.2 ad lsR ls m H locs cells slots) (hst : ∀ v ∈ st, okV m.2.1 v) (hk : cOK mt pg.2.2.2.1 hs own cc nL lg ret hh pc raw len (.invokedynamic E)) :
    W p l e R s mI args below meth c H locs cells slots (vx_MQ below (QcD D ka xa zv b0 ad0 m0 o mf) (XcD D ka xa zv b0 ad0 m0 o mf) args s (mf.2.2.1 - m0.2.2.1) (mf.2.2.2 - m0.2.2.2) (fun q => b0 ≤ q)) (F0 mI pc lsR (st.map (rv ad xa zv))) := by
  obtain ⟨hx, hbb, hml, hown, hts, hlocks, hin, hfr, hlo⟩ := id hF
  obtain ⟨hL, hP, hD, hM, hokL, hLG, hVS, hc0, hw0⟩ := id hS
  obtain ⟨rfl, hE, ik, is9, ic, k, w1, w2, w3, w4, d0, d3, dd⟩ := hk
  unfold wpB at h
  dsimp only at h
  split at h
  next =>
    obtain ⟨rfl, rfl⟩ := h
    have hfit : Bundle.fit (excN E) = true := by
      rcases E with _ | (_ | (_ | (_ | (_ | E)))) <;> first | decide | omega
    have hfitU : ∀ n ∈ excU E, Bundle.fit n = true := by
      intro n hn
      simp only [excU, List.mem_cons, List.not_mem_nil, or_false] at hn
      rcases hn with rfl | rfl <;> decide
    have hZ := hG.2.2.2.1 _ w3
    have hU := hG.2.2.2.2.2.2.2.1
    have hN := hG.2.2.2.2.2.2.2.2.1
    have hnw := hG.2.2.2.2.2.2.2.2.2.2.2
    have hat : ∀ w ∈ vx_atE own ic E, w.before args s = true := fun w hw => (w4 w hw).elim (fun q => hts w q) (fun q => va_Nw.use q.2 (hnw w q.1))
    have hgood : ∀ w ∈ Cond.classLink own ik (excN E) :: Cond.initialized (excN E) :: vx_atE own ic E, vx_ot w = true := by
      have ga : ∀ w ∈ AWs, vx_ot w = true := fun w hw => by
        unfold vx_ot
        rw [(List.mem_filter.mp hw).2, Bool.or_true]
      intro w hw
      rcases List.mem_cons.mp hw with rfl | hw
      · exact ga _ w1
      · rcases List.mem_cons.mp hw with rfl | hw
        · exact ga _ w2
        · rcases w4 w hw with q | q
          · exact ga _ q
          · unfold vx_ot
            rw [q.2, Bool.true_or]
    have hsz : lsR.size = c.maxLocals := hL.1.trans hml.symm
    have hout : ∀ q9 : Nat, ∀ x ∈ c.exceptionTable.toList, covers x q9 = false := by
      intro q9 x hx9
      rw [htab] at hx9
      cases hx9
    have hc9 : cells + 1 = (mthrow m).2.2.1 - m0.2.2.1 := by
      show cells + 1 = m.2.2.1 + 1 - m0.2.2.1
      omega
    have hw9 : slots + 6 = (mthrow m).2.2.2 - m0.2.2.2 := by
      show slots + 6 = m.2.2.2 + 6 - m0.2.2.2
      omega
    have hxx : ∀ t : State, s.vm.Alike t.vm → H.size ≤ t.heap.size → (∀ q : Nat, q < H.size → t.heap[q]? = H[q]?) → XcD D ka xa zv b0 ad0 m0 (.inr E) (mthrow m) (excN E) s t := by
      intro t _ hz hq
      refine ⟨E, rfl, hE, rfl, ad, hext, hP.kept (fun k x hx9 => hq x.1 ((hP k x hx9).lt)), hD, hM, Nat.le_trans hVS.1 hz, fun q h1 h2 => ?_⟩
      rw [hq q (Nat.lt_of_lt_of_le h1 hVS.1)]
      exact hVS.2.1 q h1 h2
    have r1 : (excU E).length + 3 < R.frames := by rw [hRR]; show 2 + 3 < d + 1 + 20; omega
    have r2 : (([] : List Value).map fun v => v.category).sum + (13 * ((excU E).length + 1) + 43) ≤ R.locals := by rw [hRR]; show 0 + (13 * (2 + 1) + 43) ≤ 100 * (d + 1) + 400; omega
    have r3 : cells + 1 ≤ R.cells := by rw [hRR]; show _ ≤ (mthrow m).2.2.1 - m0.2.2.1; omega
    have r4 : slots + 6 ≤ R.slots := by rw [hRR]; show _ ≤ (mthrow m).2.2.2 - m0.2.2.2; omega
    by_cases e4 : E = 4
    · subst e4
      have e9 : vx_atE own ic 4 = (xw_all own ic (excN 4) "java/lang/RuntimeException" ["java/lang/Exception"] 13 rx13).filter vx_no := if_pos rfl
      rw [e9] at hat hgood
      exact xw_throw hx hbb hl (by decide +kernel) (by decide +kernel) (by decide +kernel) (by decide +kernel) hown hfit (by decide) (by decide) (fun n hn => by rw [List.mem_singleton.mp hn]; decide) (hts _ w1) (hts _ w2) hZ hat hgood hU hN hVS hsz d0 d3 dd hout r1 r2 r3 r4 hlocks hxx hVS.2.2 (Nat.le_of_eq hc9) (Nat.le_of_eq hw9)
    have e9 : vx_atE own ic E = vx_atS own ic (excN E) (excU E) := if_neg e4
    rw [e9] at hat hgood
    rcases dd with ⟨d4, d6, d9⟩ | ⟨d4, d6, d9⟩
    · exact vx_throwS hx hbb hl hown hfit hfitU (hts _ w1) (hts _ w2) hZ hat hgood hU hN hVS hsz d0 d3 d4 d6 d9 (hout _) r1 r2 r3 r4 hlocks hxx hVS.2.2 (Nat.le_of_eq hc9) (Nat.le_of_eq hw9)
    · exact vx_throwSW hx hbb hl hown hfit hfitU (hts _ w1) (hts _ w2) hZ hat hgood hU hN hVS hsz d0 d3 d4 d6 d9 (hout _) r1 r2 r3 r4 hlocks hxx hVS.2.2 (Nat.le_of_eq hc9) (Nat.le_of_eq hw9)
  next => exact h.elim
end SimBlock
section SimRuns
variable {p : Program} {l : Launch} {e : Env} {R : Room} {s : State} {m : MethodId} {args : Array Value} {below : List Frame} {meth : Method} {c : Code} {T : State} {H : Heap} {locs : List Loc} {cells slots : Nat}
theorem sm_callI {host : String} (X : Stand p l e R s m args below meth c T locs cells slots) (hexec : p.tables.exec = Jvm.exec) {own : String} {index : Nat} {y : MethodName} {bytes : ByteArray} {maxL : Nat}
    (hown : s.vm.findClass own = some m.cls) (hy1 : y.name = "<init>") (hlink : (Cond.methodLink own index y).before args s = true) (hinst : (Cond.instanceMethod y).before args s = true)
    (hcode : (Cond.code y bytes maxL none).before args s = true) (hy : y.cls ≠ "java/lang/invoke/MethodHandle" ∧ y.cls ≠ "java/lang/invoke/VarHandle")
    {W9 : Nat} {Pre : Pt → Array Value → Prop} {Post : Pt → Array Value → Option Value → Pt → Prop} {PostX : Pt → Array Value → Addr → Pt → Prop} (hK : vx_Back l R p e below s args y 3 W9 Pre Post PostX)
    {g : JFrame} (hg : g.method = m) (hsize : g.locals.size = c.maxLocals) {a : Addr} {argsL rest : List Value} (hlen : ∀ sig, parseMethodDescriptor y.desc = some sig → argsL.length = sig.parameters.length)
    (hstack : g.stack = argsL.reverse ++ .ref a :: rest) (hW : 2 * g.monitorRoom + (rest.map fun v => v.category).sum ≤ W9) (hdg : decode c.code g.pc = .ok (.invokespecial index, 3))
    (hpre : ∀ vm₁, s.WarmedH vm₁ → Pre ⟨T.setVm vm₁, locs, cells, slots⟩ (Value.ref a :: argsL).toArray) :
    (∃ (v : Option Value) (vm₁ : Vm) (B : Pt), s.WarmedH vm₁ ∧ Stand p l e R s m args below meth c B.U B.locs B.cells B.slots ∧ Post ⟨T.setVm vm₁, locs, cells, slots⟩ (Value.ref a :: argsL).toArray v B ∧
      ∀ target, Steps p.tables e below (B.U.setTop { g with pc := g.pc + 3, stack := v.toList ++ rest }) target → Steps p.tables e below (T.setTop g) target) ∨
    (∃ (q : Addr) (vm₁ : Vm) (B : Pt), s.WarmedH vm₁ ∧ Stand p l e R s m args below meth c B.U B.locs B.cells B.slots ∧ PostX ⟨T.setVm vm₁, locs, cells, slots⟩ (Value.ref a :: argsL).toArray q B ∧
      Steps p.tables e below (T.setTop g) ((B.U.setTop { g with stack := rest }).pushFrame (.throwing q))) := by
  subst hg
  have hpl : e.platform.magicAccessors = ({} : Platform).magicAccessors := by rw [X.admits.platform]
  obtain ⟨mk, methM, cM, kP, vm₁, hnamed, hmethM, hcodeM, -, hlocalsM, -, hkP, -, hW₁, hstep₁⟩ := Steps.initColdArgs (e := e) X.here hexec X.warmed hpl hown hy1 hy hlink hinst hcode (f := g) rfl hlen hstack hdg
  have X₁ := X.noted hW₁
  rcases hK g.method meth c ⟨T.setVm vm₁, locs, cells, slots⟩ { g with stack := rest } (.invokespecial index) mk (Value.ref a :: argsL).toArray X₁ rfl hsize hdg hW (X₁.named hnamed) (hpre vm₁ X₁.warmed) with ⟨v, B, X', hpost, hsteps⟩ | ⟨q, B, X', hpost, hsteps⟩
  · exact Or.inl ⟨v, vm₁, B, X₁.warmed, X', hpost, fun target h => hstep₁ _ fun acts => by rw [doInvoke_state]; exact hsteps.trans h⟩
  · exact Or.inr ⟨q, vm₁, B, X₁.warmed, X', hpost, hstep₁ _ fun acts => by rw [doInvoke_state]; exact hsteps⟩
theorem sm_callIN (X : Stand p l e R s m args below meth c T locs cells slots) (hexec : p.tables.exec = Jvm.exec) {own : String} {index : Nat} {host : String} {y : MethodName} {bytes : ByteArray} {maxL : Nat}
    (hown : s.vm.findClass own = some m.cls) (hy1 : y.name = "<init>") (hlink : (Cond.methodLinkNest own index y host).before args s = true) (hinst : (Cond.instanceMethod y).before args s = true)
    (hcode : (Cond.code y bytes maxL none).before args s = true) (hy : y.cls ≠ "java/lang/invoke/MethodHandle" ∧ y.cls ≠ "java/lang/invoke/VarHandle")
    {W9 : Nat} {Pre : Pt → Array Value → Prop} {Post : Pt → Array Value → Option Value → Pt → Prop} {PostX : Pt → Array Value → Addr → Pt → Prop} (hK : vx_Back l R p e below s args y 3 W9 Pre Post PostX)
    {g : JFrame} (hg : g.method = m) (hsize : g.locals.size = c.maxLocals) {a : Addr} {argsL rest : List Value} (hlen : ∀ sig, parseMethodDescriptor y.desc = some sig → argsL.length = sig.parameters.length)
    (hstack : g.stack = argsL.reverse ++ .ref a :: rest) (hW : 2 * g.monitorRoom + (rest.map fun v => v.category).sum ≤ W9) (hdg : decode c.code g.pc = .ok (.invokespecial index, 3))
    (hpre : ∀ vm₁, s.WarmedH vm₁ → Pre ⟨T.setVm vm₁, locs, cells, slots⟩ (Value.ref a :: argsL).toArray) :
    (∃ (v : Option Value) (vm₁ : Vm) (B : Pt), s.WarmedH vm₁ ∧ Stand p l e R s m args below meth c B.U B.locs B.cells B.slots ∧ Post ⟨T.setVm vm₁, locs, cells, slots⟩ (Value.ref a :: argsL).toArray v B ∧
      ∀ target, Steps p.tables e below (B.U.setTop { g with pc := g.pc + 3, stack := v.toList ++ rest }) target → Steps p.tables e below (T.setTop g) target) ∨
    (∃ (q : Addr) (vm₁ : Vm) (B : Pt), s.WarmedH vm₁ ∧ Stand p l e R s m args below meth c B.U B.locs B.cells B.slots ∧ PostX ⟨T.setVm vm₁, locs, cells, slots⟩ (Value.ref a :: argsL).toArray q B ∧
      Steps p.tables e below (T.setTop g) ((B.U.setTop { g with stack := rest }).pushFrame (.throwing q))) := by
  subst hg
  have hpl : e.platform.magicAccessors = ({} : Platform).magicAccessors := by rw [X.admits.platform]
  obtain ⟨mk, methM, cM, kP, vm₁, hnamed, hmethM, hcodeM, -, hlocalsM, -, hkP, -, hW₁, hstep₁⟩ := Steps.initColdArgsNest (e := e) X.here hexec X.warmed hpl hown hy1 hy hlink hinst hcode (f := g) rfl hlen hstack hdg
  have X₁ := X.noted hW₁
  rcases hK g.method meth c ⟨T.setVm vm₁, locs, cells, slots⟩ { g with stack := rest } (.invokespecial index) mk (Value.ref a :: argsL).toArray X₁ rfl hsize hdg hW (X₁.named hnamed) (hpre vm₁ X₁.warmed) with ⟨v, B, X', hpost, hsteps⟩ | ⟨q, B, X', hpost, hsteps⟩
  · exact Or.inl ⟨v, vm₁, B, X₁.warmed, X', hpost, fun target h => hstep₁ _ fun acts => by rw [doInvoke_state]; exact hsteps.trans h⟩
  · exact Or.inr ⟨q, vm₁, B, X₁.warmed, X', hpost, hstep₁ _ fun acts => by rw [doInvoke_state]; exact hsteps⟩
theorem sm_runI {y : MethodName} {bytes cc : ByteArray} {maxL nL mc ms n index : Nat} {ws : List Cond} {rm : Room} {Pc : Array Value → State → Prop} {Qc : Array Value → State → Outcome → State → Prop} {XC : String → State → State → Prop} {free : Addr → Prop} {Ts : List Cond} {own : String} {b : Addr} {As rest : List Value} {g : JFrame}
    (S : CallFix p m c cc nL s args Ts own) (hM : vx_Met l y ws rm Pc Qc XC mc ms free) (cw : CallB R s args own index y bytes maxL none ws rm mc ms n ∧ y.name = "<init>" ∧ (Cond.instanceMethod y).before args s = true) (hp : PreS s H Pc (.ref b :: As))
    (hg : g.method = m) (hn : As.length = n) (hsize : g.locals.size = nL) (hstack : g.stack = As.reverse ++ .ref b :: rest) (hW : 2 * g.monitorRoom + (rest.map fun v => v.category).sum ≤ 8) (hdg : decode cc g.pc = .ok (.invokespecial index, 3)) (hf : cells + mc ≤ R.cells ∧ slots + ms ≤ R.slots) :
    vx_Run p l e R s m args below meth c H locs cells slots mc ms g rest (Qc (Value.ref b :: As).toArray) XC free := by
  obtain ⟨⟨hrc, hrs, hfr, hlo, hws, hcw, hcode, hini, hy, hlen, hl⟩, hx1, hx2⟩ := cw
  have hK : vx_Back l R p e below s args y 3 8 (PreOf R mc ms Pc) (PostOf Qc mc ms free) (vx_Post XC mc ms free) := vx_back (bytes := bytes) (maxL := maxL) (ret := none) hM hp.1 hrc hrs hfr hlo hws hcw (fun a' U hW => word_at hW (Or.inl (by first | rfl | simp [Cond.onTables, Cond.keeps, Cond.steady])) hini)
  obtain ⟨hx, hb, hml, ho, -⟩ := S
  have hPc := hp.2
  intro T hT X
  rcases sm_callI (host := "") X hx (bytes := bytes) (maxL := maxL) ho hx1 hl hx2 hcode hy hK hg (hsize.trans hml.symm) (a := b) (argsL := As) (rest := rest) (fun sig h => hn.trans (hlen sig h)) hstack hW (by rw [hb]; exact hdg)
    (fun vm₁ hW₁ => ⟨hf.1, hf.2, hPc (T.setVm vm₁) hT hW₁⟩) with ⟨v, vm₁, ⟨U', l2, c2, s2⟩, hW₁, X', ⟨g', mk, t, L, e1, e2, hq, h1, hL, h2, h3⟩, st⟩ | ⟨q, vm₁, ⟨U', l2, c2, s2⟩, hW₁, X', ⟨g', mk, t, L, E, ce, e1, e2, hq, hce, hcv, hcl, h1, hL, h2, h3⟩, st⟩
  · dsimp only [Pt.U, Pt.locs, Pt.cells, Pt.slots] at X' e1 e2 h1 h2 h3 st
    subst h1; subst h2; subst h3
    exact Or.inl ⟨v, (T.setVm vm₁).calling g' mk (Value.ref b :: As).toArray, t, U', L, hT, X', hL, e1, e2, hq, st⟩
  · dsimp only [Pt.U, Pt.locs, Pt.cells, Pt.slots] at X' e1 e2 h1 h2 h3 st hcl
    subst h1; subst h2; subst h3
    exact Or.inr ⟨q, (T.setVm vm₁).calling g' mk (Value.ref b :: As).toArray, t, U', L, E, ce, hT, X', hL, e1, e2, hq, hce, hcv, vx_cls hW₁ hcl, st⟩
theorem sm_runIN {y : MethodName} {bytes cc : ByteArray} {maxL nL mc ms n index : Nat} {ws : List Cond} {rm : Room} {Pc : Array Value → State → Prop} {Qc : Array Value → State → Outcome → State → Prop} {XC : String → State → State → Prop} {free : Addr → Prop} {Ts : List Cond} {own host : String} {b : Addr} {As rest : List Value} {g : JFrame}
    (S : CallFix p m c cc nL s args Ts own) (hM : vx_Met l y ws rm Pc Qc XC mc ms free) (cw : va_CN R s args own index y host bytes maxL none ws rm mc ms n ∧ y.name = "<init>" ∧ (Cond.instanceMethod y).before args s = true) (hp : PreS s H Pc (.ref b :: As))
    (hg : g.method = m) (hn : As.length = n) (hsize : g.locals.size = nL) (hstack : g.stack = As.reverse ++ .ref b :: rest) (hW : 2 * g.monitorRoom + (rest.map fun v => v.category).sum ≤ 8) (hdg : decode cc g.pc = .ok (.invokespecial index, 3)) (hf : cells + mc ≤ R.cells ∧ slots + ms ≤ R.slots) :
    vx_Run p l e R s m args below meth c H locs cells slots mc ms g rest (Qc (Value.ref b :: As).toArray) XC free := by
  obtain ⟨⟨⟨hrc, hrs, hfr, hlo, hws, hcw⟩, hcode, hini, hy, hlen, hl⟩, hx1, hx2⟩ := cw
  have hK : vx_Back l R p e below s args y 3 8 (PreOf R mc ms Pc) (PostOf Qc mc ms free) (vx_Post XC mc ms free) := vx_back (bytes := bytes) (maxL := maxL) (ret := none) hM hp.1 hrc hrs hfr hlo hws hcw (fun a' U hW => word_at hW (Or.inl (by first | rfl | simp [Cond.onTables, Cond.keeps, Cond.steady])) hini)
  obtain ⟨hx, hb, hml, ho, -⟩ := S
  have hPc := hp.2
  intro T hT X
  rcases sm_callIN (host := host) X hx (bytes := bytes) (maxL := maxL) ho hx1 hl hx2 hcode hy hK hg (hsize.trans hml.symm) (a := b) (argsL := As) (rest := rest) (fun sig h => hn.trans (hlen sig h)) hstack hW (by rw [hb]; exact hdg)
    (fun vm₁ hW₁ => ⟨hf.1, hf.2, hPc (T.setVm vm₁) hT hW₁⟩) with ⟨v, vm₁, ⟨U', l2, c2, s2⟩, hW₁, X', ⟨g', mk, t, L, e1, e2, hq, h1, hL, h2, h3⟩, st⟩ | ⟨q, vm₁, ⟨U', l2, c2, s2⟩, hW₁, X', ⟨g', mk, t, L, E, ce, e1, e2, hq, hce, hcv, hcl, h1, hL, h2, h3⟩, st⟩
  · dsimp only [Pt.U, Pt.locs, Pt.cells, Pt.slots] at X' e1 e2 h1 h2 h3 st
    subst h1; subst h2; subst h3
    exact Or.inl ⟨v, (T.setVm vm₁).calling g' mk (Value.ref b :: As).toArray, t, U', L, hT, X', hL, e1, e2, hq, st⟩
  · dsimp only [Pt.U, Pt.locs, Pt.cells, Pt.slots] at X' e1 e2 h1 h2 h3 st hcl
    subst h1; subst h2; subst h3
    exact Or.inr ⟨q, (T.setVm vm₁).calling g' mk (Value.ref b :: As).toArray, t, U', L, E, ce, hT, X', hL, e1, e2, hq, hce, hcv, vx_cls hW₁ hcl, st⟩
end SimRuns
