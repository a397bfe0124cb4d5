def R_law : String := "SnowNamesLaw"
def lw_P (b : Addr) (xs : List Int32) (args : Array Value) (s : State) : Prop := args = #[.ref b] ∧ s.IntsAt b xs ∧ xs.length ≤ 3072 ∧ (Jvm.Cond.and given_1 narrow_1).before args s = true
def lw_Q (_ : Array Value) (s : State) (o : Outcome) (t : State) : Prop := o = .returned (some (.int 1)) ∧ Framed s o t [] 601024 7293034
def lw_Z (below : List Frame) (a : Array Value) (s : State) : State → Prop := fun t => ∃ o, t.status = .running ∧ Ended t below o ∧ lw_Q a s o t
/-- the law's own end, with 1 on the stack, nothing written that was there before, its room as the claim has it -/
theorem lw_ret {p : Program} {l : Launch} {e : Env} {s : State} {m : MethodId} {below : List Frame} {meth : Method} {c : Code} {b : Nat} (hx : p.tables.exec = Jvm.exec) (hb : c.code = code) (hr : meth.sig.returnType = ret) (hlocks : meth.locks = false) {pc : Nat} {H : Heap} {ls : Array Slot} (hdg : decode code pc = .ok (.ireturn, 1)) : W p l e room_1 s m #[Value.ref b] below meth c H [] 601024 7293034 (lw_Z below #[Value.ref b] s) (F0 m pc ls [.int 1]) := by
  intro T hT X
  obtain ⟨fs, hret, hrun, hended, hW, hframe⟩ := X.leave (v := some (.int 1)) (hlocks := hlocks) (fun h => by rw [hr] at h; cases h)
  have hmeth' : T.vm.method? m = some meth := X.method'
  refine ⟨T.setFrames fs, ?_, .returned (some (.int 1)), hrun, hended, rfl, ⟨_, rfl⟩, hW, hframe⟩
  jvm_step X.here [X.here.top, hx, hb, hdg, hmeth', hr, ret, narrow_b1]
  (try refine ⟨rfl, ?_⟩); (try refine ⟨rfl, ?_⟩)
  first | (intro acts; rw [hret _ acts rfl rfl rfl]) | rw [hret _ _ rfl rfl rfl]
  exact Steps.refl _
/-- what holds at the law's entry: the machine, the code, the tables' words (any of lw_tbl by 'hts w (by decide +kernel)'), the script of L ints xs at the cell b, what the Statement gives of the start (any of its parts by flat_of_before) -/
def lw_At (p : Program) (s : State) (m : MethodId) (meth : Method) (c : Code) (b L : Nat) (xs : Nat → Int32) : Prop :=
  p.tables.exec = Jvm.exec ∧ c.code = code ∧ meth.sig.returnType = ret ∧ c.maxLocals = 7 ∧ s.vm.findClass R_law = some m.cls ∧ (∀ w ∈ lw_tbl, w.before #[Value.ref b] s = true) ∧ va_X b L xs s s.heap ∧ b < s.heap.size ∧ meth.locks = false ∧ (Jvm.Cond.and given_1 narrow_1).before #[Value.ref b] s = true ∧ c.exceptionTable.toList = []
theorem room_mono {s : State} {pl : Platform} {r r' : Room} (hf : r.frames ≤ r'.frames) (hl : r.locals ≤ r'.locals) (hc : r.cells ≤ r'.cells) (hs : r.slots ≤ r'.slots) (h : s.hasRoom pl r' = true) : s.hasRoom pl r = true := by
  simp only [State.hasRoom, Bool.and_eq_true, decide_eq_true_eq] at h ⊢
  obtain ⟨⟨⟨⟨y, a, b, c, d, e⟩, f⟩, g⟩, i⟩ := h
  exact ⟨⟨⟨⟨by omega, by omega, by omega, by omega, by omega, e⟩, by omega⟩, by omega⟩, i⟩
theorem W_room {p : Program} {l : Launch} {e : Env} {R R' : Room} {s : State} {m : MethodId} {args : Array Value} {below : List Frame} {meth : Method} {c : Code} {H : Heap} {locs : List Loc} {cells slots : Nat} {Q Q' : State → Prop} {g : JFrame} (hf : R'.frames ≤ R.frames) (hl : R'.locals ≤ R.locals) (hc : R'.cells ≤ R.cells) (hs : R'.slots ≤ R.slots) (hQ : ∀ t, Q' t → Q t) (k : W p l e R' s m args below meth c H locs cells slots Q' g) : W p l e R s m args below meth c H locs cells slots Q g := by
  intro T hT X
  obtain ⟨t, a, b⟩ := k T hT { X with room := room_mono hf hl hc hs X.room }
  exact ⟨t, a, hQ t b⟩
/-- the law's run is one of the real machine -/
theorem whole_start {p : Program} {e : Env} {s : State} {m : MethodId} {below : List Frame} {meth : Method} {c : Code} (l : Launch) (hflags : l.flags = flags0) {b L : Nat} {xs : Nat → Int32} (hL : L ≤ 3072) (C0 : lw_At p s m meth c b L xs) : W p l e room_1 s m #[Value.ref b] below meth c s.heap [] 0 0 (lw_Z below #[Value.ref b] s) (entryFrame m ([Value.ref b] : List Value).toArray 7) := by
  obtain ⟨hx, hb, hr, hml, hown, hts, hX, hbl, hlocks, hgv, hexc⟩ := C0
  have hl : l.stackTraces = false := by
    show (!l.flags.contains noTraceFlag) = false
    rw [hflags]
    decide +kernel
  obtain ⟨D, ka, xa, zv, x0, hG⟩ := GF_0 hts hX hbl hL hgv
  have hA : ∀ q, s.heap.size ≤ q → s.heap.size ≤ q := fun _ h => h
  have hrun : AtL (tbS L (fun j => (xs j).toInt)) 80 (fun o mf => o = .inl (some (vi 1)) ∧ mf.2.2.1 ≤ 601024 ∧ mf.2.2.2 ≤ 7293034) 0 [vx 0, vu, vu, vu, vu, vu, vu] [] m00 :=
    law_all (d := 0) (fun j => ⟨Int32.le_toInt (xs j), Int32.toInt_lt (xs j)⟩) hL (fun S m h1 h2 => ⟨rfl, h1, h2⟩)
  obtain ⟨o, mf, ⟨ho, hc1, hw1⟩, hEx⟩ := Ex_det (CMono.refl_of 80) (Runs.det 80) hrun
  subst ho
  have hF : FX p (rmD 81 (mf.2.2.1 - 0) (mf.2.2.2 - 0)) s m #[Value.ref b] meth c code 7 "SnowNamesLaw" false :=
    ⟨hx, hb, hml, hown, fun w hw => hts w (List.mem_filter.mp hw).1, hlocks, (fun h => nomatch h), (by show 1 ≤ 81 + 20; omega), (by show 400 ≤ 100 * 81 + 400; omega)⟩
  have hz : zv.category = 1 := by
    rcases hG.2.2.2.2.2.2.1.2 with q | ⟨a, q⟩ <;> rw [q] <;> rfl
  refine W_room (R' := rmD 81 (mf.2.2.1 - 0) (mf.2.2.2 - 0)) (Q' := vx_MQ below (QcD D ka xa zv s.heap.size (fun _ => 0) m00 (.inl (some (vi 1))) mf) (XcD D ka xa zv s.heap.size (fun _ => 0) m00 (.inl (some (vi 1))) mf) #[Value.ref b] s (mf.2.2.1 - 0) (mf.2.2.2 - 0) (fun q => s.heap.size ≤ q)) (by show 81 + 20 ≤ 2048; omega) (by show 100 * 81 + 400 ≤ 84000; omega) (by show mf.2.2.1 - 0 ≤ 601024; omega) (by show mf.2.2.2 - 0 ≤ 7293034; omega) ?_ ?_
  · rintro t ⟨oc, h1, h2, h3⟩
    rcases h3 with ⟨⟨r, e1, ad', -, e2, -, -⟩, Lc, ⟨⟨v, hv⟩, hW, hsame⟩, hLc⟩ | ⟨q, -, E, ce, Lc, ⟨k, e1, -⟩, -⟩
    · cases e1
      refine ⟨oc, h1, h2, e2, ⟨v, hv⟩, hW, ?_⟩
      exact (hsame.weaken (fun y hy hlt => absurd hlt (Nat.not_lt.mpr (hLc y hy))) (by omega) (by omega))
    · cases e1
  · have hlv := lv_entry ([vx 0].map (rv (fun _ => 0) xa zv)) (n := 7) (by rw [sl_len hz]; decide)
    have ea : ([Value.ref b] : List Value) = [vx 0].map (rv (fun _ => 0) xa zv) := by
      show _ = [Value.ref (xa 0)]
      rw [x0]
    have ef : entryFrame m ([Value.ref b] : List Value).toArray 7 = F0 m 0 (lg_sl ([vx 0].map (rv (fun _ => 0) xa zv)) ++ List.replicate (7 - (lg_sl ([vx 0].map (rv (fun _ => 0) xa zv))).length) Slot.unset).toArray [] := by
      rw [ea, lg_entry_eq]
    rw [ef]
    generalize (lg_sl ([vx 0].map (rv (fun _ => 0) xa zv)) ++ List.replicate (7 - (lg_sl ([vx 0].map (rv (fun _ => 0) xa zv))).length) Slot.unset).toArray = lsR at hlv ⊢
    have hM : okM m00 := ⟨fun k hk => absurd hk (Nat.not_lt_zero k), fun k _ => rfl⟩
    have clos := hEx (fun L ls st m' => LeM m' mf ∧ ∀ ad' lsR H locs cells slots, (∀ k, k < m00.2.1 → ad' k = (fun _ => 0) k) → LeM m00 m' → ST D ka xa zv (fun q => s.heap.size ≤ q) s (([] : List Nat).contains) 7 m00.2.2.1 m00.2.2.2 ad' lsR ls m' H locs cells slots → (∀ v ∈ st, okV m'.2.1 v) →
            W p l e (rmD 81 (mf.2.2.1 - m00.2.2.1) (mf.2.2.2 - m00.2.2.2)) s m #[Value.ref b] below meth c H locs cells slots (vx_MQ below (QcD D ka xa zv s.heap.size (fun _ => 0) m00 (.inl (some (vi 1))) mf) (XcD D ka xa zv s.heap.size (fun _ => 0) m00 (.inl (some (vi 1))) mf) #[Value.ref b] s (mf.2.2.1 - m00.2.2.1) (mf.2.2.2 - m00.2.2.2) (fun q => s.heap.size ≤ q)) (F0 m L lsR (st.map (rv ad' xa zv)))) (fun L ls st m' hw => by
          refine ⟨wpB_le (Runs.le_c 80) (fun _ _ _ _ q => q.1) _ _ _ _ hw, fun ad' lsR' H' locs' cells' slots' hx' hle hS hst => ?_⟩
          have hLne : lkL L ≠ [] := fun q => by
            rw [q] at hw
            exact hw
          exact sm_block (mt := mt) (pg := pg) (lgM := pg.2.2.2.2) hl (sm_all hl 80) MF hF rfl hr (by rw [hexc]; rfl) hG hA (CF _ _) JF (fun _ _ _ _ q => q) _ L ls st m' ad' lsR' H' locs' cells' slots' (lB_ok L hLne) hw hx' hle hS hst)
    refine clos.2 (fun _ => 0) lsR s.heap [] 0 0 (fun _ _ => rfl) LeM.rf ⟨⟨hlv.1, hlv.2.1, fun q hq => hlv.2.2 q (lvs_entry hz 6 q [vx 0] 0 hq)⟩, fun k q hk => (by cases hk), ⟨fun i j p q hi => (by cases hi), fun k q hk => (by cases hk)⟩, hM, fun v hv => ?_, fun k x hk => ?_, va_S.rf, rfl, rfl⟩ (fun v hv => nomatch hv)
    · simp only [List.mem_cons, List.not_mem_nil, or_false] at hv
      rcases hv with h | h | h | h | h | h | h <;> rw [h] <;> trivial
    · match k, hk with
      | 0, hk => cases hk
      | 1, hk => cases hk
      | 2, hk => cases hk
      | 3, hk => cases hk
      | 4, hk => cases hk
      | 5, hk => cases hk
      | 6, hk => cases hk
      | k + 7, hk => cases hk
-- ===== YOUR PART ENDS =====
set_option maxHeartbeats 4000000 in
theorem lw_walk (l : Launch) (hflags : l.flags = flags0) (b : Addr) (xs : List Int32) : MetFree l x (headSpec (Jvm.Cond.code x code maxLocals ret :: tables_1) room_1) (lw_P b xs) (fun _ _ _ _ _ => True) lw_Q := by
  refine MetFree.of_bodyS (code := code) (maxLocals := maxLocals) (ret := ret) (by decide) ?_ ?_
  · intro args s m h hn
    obtain ⟨meth, c, h1, h2, h3, h4, h5, h6, -, -⟩ := Cond.code_spec hn (atoms_spec (ws := Jvm.Cond.code x code maxLocals ret :: tables_1) h _ List.mem_cons_self)
    exact ⟨meth, c, h1, h2, h3, h4, h5, h6⟩
  · intro p e s m args below meth c s₁ B hml0 hP _
    obtain ⟨rfl, hx, hbd, hgv⟩ := hP
    obtain ⟨scr, harrAt, hlist, hof, hsmall⟩ := hx
    obtain ⟨hcb, hkn, -, -⟩ := State.arrayAt?_spec harrAt
    have hown : s.vm.findClass R_law = some m.cls := findClass_of_methodNamed B.named
    have hts0 : ∀ c ∈ (Jvm.Cond.code x code maxLocals ret :: tables_1), c.before #[Value.ref b] s = true := atoms_spec (ws := Jvm.Cond.code x code maxLocals ret :: tables_1) B.pre
    have hts : ∀ w ∈ lw_tbl, w.before #[Value.ref b] s = true := k2_hts_sels lw_privs (fun w hw => hts0 w (List.mem_cons_of_mem _ hw)) lw_privs_ok
    have hml : c.maxLocals = 7 := B.maxLocals_eq (hts0 _ List.mem_cons_self)
    have X₀ : Stand p l e room_1 s m #[Value.ref b] below meth c s₁ [] 0 0 := Stand.of_body B
    have hh0 : s₁.heap = s.heap := by rw [B.state]; rfl
    have hsz : scr.slots.size = xs.length := by rw [← Array.length_toList, hlist, List.length_map]
    have hval : ∀ j : Nat, j < xs.length → scr.slots[j]? = some (.int (xs.getD j 0)) := fun j hj => by
      rw [← Array.getElem?_toList, hlist]
      simp [hj]
    have hbl : b < s.heap.size := (Array.getElem?_eq_some_iff.mp hcb).1
    have hX : va_X b xs.length (fun j => xs.getD j 0) s s.heap := ⟨scr, hcb, hof, hkn, hsz, hval⟩
    have hexc : c.exceptionTable.toList = [] := by
      obtain ⟨meth9, c9, h1, h2, -, -, -, -, h7, -⟩ := Cond.code_spec B.named (hts0 _ List.mem_cons_self)
      cases Option.some.inj (h1.symm.trans B.method)
      cases Option.some.inj (h2.symm.trans X₀.code)
      rw [Array.isEmpty_iff.mp h7]
    have K : W p l e room_1 s m #[Value.ref b] below meth c s₁.heap [] 0 0 (lw_Z below #[Value.ref b] s) (entryFrame m ([Value.ref b] : List Value).toArray 7) := by
      rw [hh0]
      exact whole_start l hflags hbd ⟨B.exec, B.bytes, B.returns, hml, hown, hts, hX, hbl, B.notSynchronized, hgv, hexc⟩
    obtain ⟨t, a1, o, b1, b2, b3⟩ := K s₁ rfl X₀
    exact ⟨t, o, a1, b1, b2, b3⟩
theorem lw_pre_spec {args : Array Value} {s : State} (h : (Jvm.Cond.and given_1 narrow_1).before args s = true) (hr : rest_1_c.before args s = true) : ∃ (b : Addr) (xs : List Int32), lw_P b xs args s := by
  have hs := flat_of_before _ h
  have hq := flat_of_before _ hr
  have hc : (Cond.count 1).before args s = true := hs _ (by decide +kernel)
  have harr : (Cond.arrayOf (.arg 0) .int).before args s = true := hs _ (by decide +kernel)
  have hle : (Cond.le (.length (.arg 0)) (.int 3072)).before args s = true := hs _ (by decide +kernel)
  have hlen : (Cond.isInt (.length (.arg 0))).before args s = true := hq _ (by decide +kernel)
  have hall : (Cond.all (.arg 0) (.isInt (.elem (.arg 0) (.index 0)))).before args s = true := hq _ (by decide +kernel)
  obtain ⟨b, xs, hb, hx⟩ := State.ints_of_pre rfl harr hlen hall
  have hsm : xs.length < 2 ^ 31 := hx.choose_spec.2.2.2
  have hev : (Term.length (.arg 0)).eval args s none [] s = some (.int xs.length.toInt32) := hx.length_eval hb
  have hv := Cond.le_ints hev (show (Term.int 3072).eval args s none [] s = some (.int 3072) from rfl)
  have hd : xs.length.toInt32 ≤ 3072 := by
    simpa [Cond.before, Cond.holds, hv] using hle
  have hN : xs.length ≤ 3072 := (Int32.ofNat_le_ofNat hsm (by decide)).mp (show Int32.ofNat xs.length ≤ Int32.ofNat 3072 from hd)
  exact ⟨b, xs, Cond.one_arg hc (show args[0]? = some (.ref b) from hb), hx, hN, h⟩
theorem lw_comes (l : Launch) (hflags : l.flags = flags0) : Comes l x (Jvm.Cond.code x code maxLocals ret :: tables_1) room_1 (fun tb e args s => Calls_1 tb e args s ∧ rest_1 tb e args s ∧ Pre_1 tb e args s)
    (fun _ _ args s o t => lw_Q args s o t) := by
  intro p e ha hc hk s m args below hf hfit hheap happ hpre
  obtain ⟨b, xs, hP⟩ := lw_pre_spec hpre.2.2 hpre.2.1
  obtain ⟨k, o, h1, h2, h3, hQ⟩ := lw_walk l hflags b xs p e ha hc hk s m args below hf ((Spec.applies_iff_loose hf).mp happ).1 hP trivial
  exact ⟨k, o, h1, h2, h3, hQ⟩
theorem lw_frame {s t : State} {o : Outcome} {args : Array Value} (h : Framed s o t [] 601024 7293034) :
    Framed s o t (fieldLocs frame_1_writes args s ++ arrayLocs frame_1_arrays args s ++ staticLocs frame_1_statics s) 601024 7293034 := h
theorem lw_limb (L : Cond) (hL : ∀ (args : Array Value) (s t : State), L.after args s (.returned (some (.int 1))) t = true) :
    ArmFor flags0 classFile x code maxLocals ret World_1 tables_1 room_1 Calls_1 rest_1 Pre_1
      (fun tb e a s o t => postC L tb e a s o t ∧ Framed s o t (fieldLocs frame_1_writes a s ++ arrayLocs frame_1_arrays a s ++ staticLocs frame_1_statics s) 601024 7293034) := by
  intro l hflags _ _ p e ha hc hk s m args below hf hfit hheap happ hpre
  obtain ⟨k, o, h1, h2, h3, rfl, hF⟩ := lw_comes l hflags p e ha hc hk s m args below hf hfit hheap happ hpre
  exact ⟨k, _, h1, h2, h3, hL args s _, lw_frame hF⟩
theorem i_vc : Claimed_1_1 ∧ Claimed_1_2 := ⟨lw_limb limb_1_1 (fun args s t => by simp [limb_1_1, Cond.after, Cond.holds, Cond.value]), lw_limb limb_1_2 (fun args s t => Cond.after_iff.mpr (by
  first | (rw [show limb_1_2 = Cond.eq .result (.int 1) from rfl, Cond.eq_ints (x := 1) (y := 1) rfl rfl]; simp; done) | (simp [limb_1_2, Cond.value, Term.eval]; done)))⟩
