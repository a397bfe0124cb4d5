/-! ===== A METHOD: what the abstract machine runs, the real one meets ===== -/
theorem lvs_rep {ad xa : Nat → Nat} {zv : Value} : ∀ (n i : Nat), lvs ad xa zv i (List.replicate n vu) = []
  | 0, _ => rfl
  | n + 1, i => lvs_rep n (i + 1)
theorem lvs_entry {ad xa : Nat → Nat} {zv : Value} (hz : zv.category = 1) (n : Nat) (q : Nat × Value) : ∀ (as : List AV) (i : Nat), q ∈ lvs ad xa zv i (argL as ++ List.replicate n vu) → q ∈ lv_args i (as.map (rv ad xa zv)) := by
  intro as
  induction as with
  | nil =>
    intro i h
    have e : lvs ad xa zv i (argL [] ++ List.replicate n vu) = [] := lvs_rep n i
    rw [e] at h
    cases h
  | cons v as ih =>
    intro i h
    have one9 : ∀ w, (rv ad xa zv w).category = 1 → q ∈ (i, rv ad xa zv w) :: lvs ad xa zv (i + 1) (argL as ++ List.replicate n vu) → q ∈ lv_args i ((w :: as).map (rv ad xa zv)) := by
      intro w hc h
      show q ∈ (i, rv ad xa zv w) :: lv_args (if (rv ad xa zv w).category = 2 then i + 2 else i + 1) (as.map (rv ad xa zv))
      rw [if_neg (by rw [hc]; decide)]
      rcases List.mem_cons.mp h with h | h
      · rw [h]; exact List.mem_cons_self
      · exact List.mem_cons_of_mem _ (ih (i + 1) h)
    rcases v with (x | x) | (k | (k | (_ | _)))
    · exact one9 (vi x) rfl h
    · have h : q ∈ (i, rv ad xa zv (vl x)) :: lvs ad xa zv (i + 2) (argL as ++ List.replicate n vu) := h
      show q ∈ (i, rv ad xa zv (vl x)) :: lv_args (i + 2) (as.map (rv ad xa zv))
      rcases List.mem_cons.mp h with h | h
      · rw [h]; exact List.mem_cons_self
      · exact List.mem_cons_of_mem _ (ih (i + 2) h)
    · exact one9 (vr k) rfl h
    · exact one9 (vx k) rfl h
    · have h : q ∈ lvs ad xa zv (i + 1) (argL as ++ List.replicate n vu) := h
      exact one9 vu hz (List.mem_cons_of_mem _ h)
    · exact one9 vn rfl h
theorem sl_len {ad xa : Nat → Nat} {zv : Value} (hz : zv.category = 1) : ∀ as : List AV, (lg_sl (as.map (rv ad xa zv))).length = (argL as).length := by
  intro as
  induction as with
  | nil => rfl
  | cons v as ih =>
    have e : ∀ w, (rv ad xa zv w).category = 1 → (lg_sl ((w :: as).map (rv ad xa zv))).length = (argL as).length + 1 := by
      intro w hc
      simp only [lg_sl, List.map_cons, List.flatMap_cons, hc]
      rw [if_neg (by decide), List.length_append]
      show 1 + (lg_sl (as.map (rv ad xa zv))).length = _
      rw [ih]; omega
    rcases v with (x | x) | (k | (k | (_ | _)))
    · exact e (vi x) rfl
    · have e2 : (rv ad xa zv (vl x)).category = 2 := rfl
      show (List.flatMap _ (rv ad xa zv (vl x) :: as.map (rv ad xa zv))).length = _
      rw [List.flatMap_cons, if_pos e2, List.length_append]
      show 2 + (lg_sl (as.map (rv ad xa zv))).length = (argL as).length + 2
      rw [ih]; omega
    · exact e (vr k) rfl
    · exact e (vx k) rfl
    · exact e vu hz
    · exact e vn rfl
theorem lgOK_at {lg : Nat → Bool} : ∀ (as : List AV) (i : Nat), lgOK lg i as → ∀ k x, as[k]? = some (vl x) → lg (i + k) = true := by
  intro as
  induction as with
  | nil => intro i _ k x h; simp at h
  | cons v as ih =>
    intro i h k x hk
    have tl : lgOK lg (i + 1) as := by
      rcases v with (_ | _) | (_ | (_ | (_ | _)))
      · exact h
      · exact h.2
      · exact h
      · exact h
      · exact h
      · exact h
    cases k with
    | zero =>
      simp at hk
      subst hk
      exact h.1
    | succ k =>
      have := ih (i + 1) tl k x (by simpa using hk)
      rw [show i + (k + 1) = i + 1 + k by omega]
      exact this
theorem argL_mem {n : Nat} : ∀ (as : List AV), (∀ v ∈ as, okV n v) → ∀ v ∈ argL as, okV n v := by
  intro as
  induction as with
  | nil => exact fun _ _ h => nomatch h
  | cons w as ih =>
    intro h v hv
    have hi := ih (fun v hv => h v (List.mem_cons_of_mem _ hv))
    have one9 : v ∈ w :: argL as → okV n v := fun q => (List.mem_cons.mp q).elim (fun e => by rw [e]; exact h w List.mem_cons_self) (hi v)
    rcases w with (x | x) | (_ | (_ | (_ | _)))
    · exact one9 hv
    · have hv : v ∈ vl x :: vu :: argL as := hv
      rcases List.mem_cons.mp hv with q | q
      · rw [q]; trivial
      · rcases List.mem_cons.mp q with q | q
        · rw [q]; trivial
        · exact hi v q
    · exact one9 hv
    · exact one9 hv
    · exact one9 hv
    · exact one9 hv
set_option maxRecDepth 100000 in
set_option maxHeartbeats 16000000 in
theorem sm_method {l : Launch} {mt : MTab} {tb : Tab} {pg : Prg} {D : va_G} {ka : KA} {xa : Nat → Nat} {zv : Value} {b0 : Nat} (hl : l.stackTraces = false) (hMF : MFacts mt pg pg.2.2.2.2) (hC : CFacts tb) (hJ : JFacts) :
    ∀ d M args m o mf, Runs tb pg d M args m (one o mf) → okM m → (∀ v ∈ args, okV m.2.1 v) → MetC l mt tb D ka xa zv b0 d M args m o mf := by
  intro d
  induction d with
  | zero => exact fun _ _ _ _ _ h => h.elim
  | succ d ihd =>
    intro M args m o mf h hM hoka ad
    obtain ⟨d', hdd, hne⟩ := Runs_ne h
    obtain ⟨f1, f2, f3, f4, f5, f6, f7, f8⟩ := hMF M 0 hne
    obtain ⟨⟨hrecv, hlen, hlg⟩, hEx⟩ := h
    refine MetFree.of_bodyS (code := (mt M).2.1) (maxLocals := (mt M).2.2.1) (ret := (mt M).2.2.2.1) f1 ?_ ?_
    · intro args' s mI hpre hn
      have hw := atoms_spec (ws := AWs) hpre
      rcases f7 with ⟨-, -, hw7⟩ | ⟨-, hw7⟩
      · obtain ⟨meth, c, h1, h2, h3, h4, h5, h6, -, -⟩ := Cond.code_spec hn (hw _ hw7)
        exact ⟨meth, c, h1, h2, h3, h4, h5, h6⟩
      · obtain ⟨m9, meth, c, hn9, h1, h2, h3, h4, -, h5, h6, -⟩ := Cond.codeWith_spec (hw _ hw7)
        cases hn.symm.trans hn9
        exact ⟨meth, c, h1, h2, h3, h4, h5, h6⟩
    · intro p e s mI args' below meth c s₁ B hml hP _
      have hh0 : s₁.heap = s.heap := by rw [B.state]; rfl
      have hts : ∀ w ∈ AWs, w.before args' s = true := atoms_spec (ws := AWs) B.pre
      have htab : c.exceptionTable.toList = tableOf (mt M).2.2.2.2.1 := by
        rcases f7 with ⟨-, hh, hw7⟩ | ⟨-, hw7⟩
        · obtain ⟨meth9, c9, h1, h2, -, -, -, -, h7, -⟩ := Cond.code_spec B.named (hts _ hw7)
          cases Option.some.inj (h1.symm.trans B.method)
          cases Option.some.inj (h2.symm.trans (Stand.of_body B).code)
          rw [Array.isEmpty_iff.mp h7, hh]
          rfl
        · exact vx_table (x := (mt M).1) B (hts _ hw7)
      obtain ⟨rfl, hP0, hD0, hG0, hb0⟩ := hP
      have hz : zv.category = 1 := by
        rcases hG0.2.2.2.2.2.2.1.2 with q | ⟨a, q⟩ <;> rw [q] <;> rfl
      have hA : ∀ q, s.heap.size ≤ q → b0 ≤ q := fun q h => Nat.le_trans hb0 h
      have hF : FX p (rmD (d + 1) (mf.2.2.1 - m.2.2.1) (mf.2.2.2 - m.2.2.2)) s mI ((args.map (rv ad xa zv)).toArray) meth c (mt M).2.1 (mt M).2.2.1 (mt M).1.cls (decide ((mt M).1.name = "<init>")) :=
        ⟨B.exec, B.bytes, hml, findClass_of_methodNamed B.named, hts, B.notSynchronized, fun hi => (name_of_methodNamed B.named B.method).1.trans (of_decide_eq_true hi), by show 1 ≤ d + 1 + 20; omega, by show 400 ≤ 100 * (d + 1) + 400; omega⟩
      have K : W p l e (rmD (d + 1) (mf.2.2.1 - m.2.2.1) (mf.2.2.2 - m.2.2.2)) s mI ((args.map (rv ad xa zv)).toArray) below meth c s.heap [] 0 0 (vx_MQ below (QcD D ka xa zv b0 ad m o mf) (XcD D ka xa zv b0 ad m o mf) ((args.map (rv ad xa zv)).toArray) s (mf.2.2.1 - m.2.2.1) (mf.2.2.2 - m.2.2.2) (fun q => b0 ≤ q)) (entryFrame mI ((args.map (rv ad xa zv)).toArray) (mt M).2.2.1) := by
        have hlv := lv_entry (args.map (rv ad xa zv)) (n := (mt M).2.2.1) (by rw [sl_len hz, ← f6]; exact hlen)
        rw [lg_entry_eq]
        generalize (lg_sl (args.map (rv ad xa zv)) ++ List.replicate ((mt M).2.2.1 - (lg_sl (args.map (rv ad xa zv))).length) Slot.unset).toArray = lsR at hlv ⊢
        have clos := hEx (fun L ls st m' => LeM m' mf ∧ ∀ ad' lsR H locs cells slots, (∀ k, k < m.2.1 → ad' k = ad k) → LeM m m' → ST D ka xa zv (fun q => b0 ≤ q) s (pg.2.2.2.2 M) (mt M).2.2.1 m.2.2.1 m.2.2.2 ad' lsR ls m' H locs cells slots → (∀ v ∈ st, okV m'.2.1 v) →
            W p l e (rmD (d + 1) (mf.2.2.1 - m.2.2.1) (mf.2.2.2 - m.2.2.2)) s mI ((args.map (rv ad xa zv)).toArray) below meth c H locs cells slots (vx_MQ below (QcD D ka xa zv b0 ad m o mf) (XcD D ka xa zv b0 ad m o mf) ((args.map (rv ad xa zv)).toArray) s (mf.2.2.1 - m.2.2.1) (mf.2.2.2 - m.2.2.2) (fun q => b0 ≤ q)) (F0 mI L lsR (st.map (rv ad' xa zv)))) (fun L ls st m' hw => by
          refine ⟨wpB_le (Runs.le_c d) (fun _ _ _ _ q => q.1) _ _ _ _ hw, fun ad' lsR' H' locs' cells' slots' hx hle hS hst => ?_⟩
          have hLne : pg.1 M L ≠ [] := fun q => by
            rw [q] at hw
            exact hw
          exact sm_block (lgM := pg.2.2.2.2) hl ihd hMF hF rfl B.returns htab hG0 hA hC hJ (fun _ _ _ _ q => q) _ L ls st m' ad' lsR' H' locs' cells' slots' (hMF M L hLne).2.2.2.2.2.2.2 hw hx hle hS hst)
        refine clos.2 ad lsR s.heap [] 0 0 (fun _ _ => rfl) LeM.rf ⟨⟨hlv.1, hlv.2.1, fun q hq => hlv.2.2 q (lvs_entry hz _ q args 0 hq)⟩, hP0, hD0, hM, fun v hv => ?_, fun k x hk => ?_, va_S.rf, by omega, by omega⟩ (fun v hv => nomatch hv)
        · rcases List.mem_append.mp hv with q | q
          · exact argL_mem args hoka v q
          · rw [List.eq_of_mem_replicate q]; trivial
        · rw [List.getElem?_append] at hk
          split at hk
          · have := lgOK_at _ _ hlg k x hk
            rwa [Nat.zero_add] at this
          · have := List.eq_of_mem_replicate (List.mem_of_getElem? hk)
            cases this
      obtain ⟨t, a1, o9, b1, b2, b3⟩ := K s₁ hh0 (Stand.of_body B)
      exact ⟨t, o9, a1, b1, b2, b3⟩
