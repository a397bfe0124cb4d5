/-! ===== A CALL ===== -/
section SimCall
variable {p : Program} {l : Launch} {e : Env} {R : Room} {s : State} {mI : MethodId} {args : Array Value} {below : List Frame} {meth : Method} {c : Code}
variable {cc : ByteArray} {nL : Nat} {own : String} {ini : Bool} {lg : Nat → Bool} {tb : Tab} {D : va_G} {ka : KA} {xa : Nat → Nat} {zv : Value} {b0 d : Nat} {pg : Prg} {mt : MTab} {lgM : Nat → Nat → Bool} {m0 mf : AM} {o : Out} {ad0 : Nat → Nat} {hs : Nat → Option (Nat × Nat)} {ret : Option FieldType} {hh : List (Nat × Nat × Nat × Nat)} {J : Nat → List AV → List AV → AM → Prop}
theorem sm_catL (ad xa : Nat → Nat) (zv : Value) : ∀ st : List AV, noLg st = true → ((st.map (rv ad xa zv)).map fun v => v.category).sum ≤ st.length
  | [], _ => Nat.le_refl _
  | .inl (.inl x) :: st, h => by
    have g := sm_catL ad xa zv st h
    simp only [List.map_cons, List.sum_cons, List.length_cons]
    have e : (rv ad xa zv (Sum.inl (Sum.inl x))).category = 1 := rfl
    omega
  | .inr (.inl x) :: st, h => by
    have g := sm_catL ad xa zv st h
    simp only [List.map_cons, List.sum_cons, List.length_cons]
    have e : (rv ad xa zv (Sum.inr (Sum.inl x))).category = 1 := rfl
    omega
  | .inl (.inr _) :: _, h => by cases h
  | .inr (.inr _) :: _, h => by cases h
set_option maxRecDepth 100000 in
set_option maxHeartbeats 16000000 in
theorem sm_call (hl : l.stackTraces = false)
    (hIH : ∀ M args m o mf, Runs tb pg d M args m (one o mf) → okM m → (∀ v ∈ args, okV m.2.1 v) → MetC l mt tb D ka xa zv b0 d M args m o mf) (hMF : MFacts mt pg lgM)
    (hF : FX p R s mI args meth c cc nL own ini) (hRR : R = rmD (d + 1) (mf.2.2.1 - m0.2.2.1) (mf.2.2.2 - m0.2.2.2)) (htab : c.exceptionTable.toList = tableOf hh)
    (hG : GF tb D ka xa zv (fun q => b0 ≤ q) s s.heap) (hA : ∀ q, s.heap.size ≤ q → b0 ≤ q)
    (hJ2 : ∀ L ls st m, J L ls st m → LeM m mf ∧ ∀ ad lsR H locs cells slots, (∀ k, k < m0.2.1 → ad k = ad0 k) → LeM m0 m → ST D ka xa zv (fun q => b0 ≤ q) s lg nL m0.2.2.1 m0.2.2.2 ad lsR ls m H locs cells slots → (∀ v ∈ st, okV m.2.1 v) → W p l e R s mI args below meth c H locs cells slots (vx_MQ below (QcD D ka xa zv b0 ad0 m0 o mf) (XcD D ka xa zv b0 ad0 m0 o mf) args s (mf.2.2.1 - m0.2.2.1) (mf.2.2.2 - m0.2.2.2) (fun q => b0 ≤ q)) (F0 mI L lsR (st.map (rv ad xa zv))))
    {is : List Instr} (ih : ∀ pc ls st m ad lsR H locs cells slots, bOK mt pg.2.2.2.1 hs own ini cc nL lg ret hh pc is → wpB tb hs (Runs tb pg d) (one o mf) J is ls st m → (∀ k, k < m0.2.1 → ad k = ad0 k) → LeM m0 m → ST D ka xa zv (fun q => b0 ≤ q) s lg nL m0.2.2.1 m0.2.2.2 ad lsR ls m H locs cells slots → (∀ v ∈ st, okV m.2.1 v) → W p l e R s mI args below meth c H locs cells slots (vx_MQ below (QcD D ka xa zv b0 ad0 m0 o mf) (XcD D ka xa zv b0 ad0 m0 o mf) args s (mf.2.2.1 - m0.2.2.1) (mf.2.2.2 - m0.2.2.2) (fun q => b0 ≤ q)) (F0 mI pc lsR (st.map (rv ad xa zv))))
    {pc len k n : Nat} {ls st : List AV} {m : AM} {ad : Nat → Nat} {lsR : Array Slot} {H : Heap} {locs : List Loc} {cells slots : Nat} {raw : Instr}
    (hb : bOK mt pg.2.2.2.1 hs own ini cc nL lg ret hh (pc + len) is) (h : wpB tb hs (Runs tb pg d) (one o mf) J (.invokeinterface k n :: is) ls st m) (hext : ∀ k, k < m0.2.1 → ad k = ad0 k) (hle : LeM m0 m) (hS : ST D ka xa zv (fun q => b0 ≤ q) s lg nL m0.2.2.1 m0.2.2.2 ad lsR ls m H locs cells slots) (hst : ∀ v ∈ st, okV m.2.1 v)
    (hd : decode cc pc = .ok (raw, len)) (hk : cOK mt pg.2.2.2.1 hs own cc nL lg ret hh pc raw len (.invokeinterface k n)) :
    W p l e R s mI args below meth c H locs cells slots (vx_MQ below (QcD D ka xa zv b0 ad0 m0 o mf) (XcD D ka xa zv b0 ad0 m0 o mf) args s (mf.2.2.1 - m0.2.2.1) (mf.2.2.2 - m0.2.2.2) (fun q => b0 ≤ q)) (F0 mI pc lsR (st.map (rv ad xa zv))) := by
  obtain ⟨hx, hbb, hml, hown, hts, hlocks, hin, hfr, hlo⟩ := id hF
  obtain ⟨hL, hP, hD, hM, hokL, hLG, hVS, hc0, hw0⟩ := id hS
  obtain ⟨rfl, hexc, hk⟩ := hk
  unfold wpB at h
  dsimp only at h
  obtain ⟨⟨hn1, hn2⟩, hrun⟩ := h
  obtain ⟨o1, m1, k1, k2⟩ := Runs.det d _ _ _ _ hrun
  have hle1 : LeM m m1 := by
    obtain ⟨o', m', ⟨-, rfl⟩, q⟩ := Runs.le_c d _ _ _ _ k2
    exact q
  have hle2 : LeM m1 mf := by
    rcases o1 with r | E
    · exact wpB_le (Runs.le_c d) (fun L ls st m q => (hJ2 L ls st m q).1) _ _ _ _ k1
    · dsimp only at k1
      split at k1
      · exact k1.2 ▸ LeM.rf
      · exact (hJ2 _ _ _ _ k1).1
  have hoka : ∀ v ∈ (st.take n).reverse, okV m.2.1 v := fun v hv => hst v (List.mem_of_mem_take (List.mem_reverse.mp hv))
  have hokr : ∀ v ∈ st.drop n, okV m.2.1 v := fun v hv => hst v (List.mem_of_mem_drop hv)
  have hM9 := hIH k _ m o1 m1 k2 hM hoka ad
  obtain ⟨d', hdd, hne⟩ := Runs_ne k2
  obtain ⟨f1, f2, f3, f4, f5, f6, f7, f8⟩ := hMF k 0 hne
  have hrecv : recv (pg.2.2.2.1 k) (st.take n).reverse m := by
    rw [hdd] at k2
    exact k2.1.1
  have hsz : lsR.size = nL := hL.1
  have q1 := hle.2.1
  have q2 := hle.2.2
  have q3 := hle1.2.1
  have q4 := hle1.2.2
  have q5 := hle2.2.1
  have q6 := hle2.2.2
  have hroom : cells + (m1.2.2.1 - m.2.2.1) ≤ R.cells ∧ slots + (m1.2.2.2 - m.2.2.2) ≤ R.slots := by
    rw [hRR]
    exact ⟨by show _ ≤ mf.2.2.1 - m0.2.2.1; omega, by show _ ≤ mf.2.2.2 - m0.2.2.2; omega⟩
  have hfrr : (rmD d (m1.2.2.1 - m.2.2.1) (m1.2.2.2 - m.2.2.2)).frames + 1 ≤ R.frames ∧ 8 + ((mt k).2.2.1 + 11) + (rmD d (m1.2.2.1 - m.2.2.1) (m1.2.2.2 - m.2.2.2)).locals ≤ R.locals := by
    subst hRR
    dsimp only [rmD]
    exact ⟨by omega, by omega⟩
  have hpay : ∀ w ∈ AWs, ∀ (a' : Array Value) (U : State), s.WarmedH U.vm → w.before a' U = true := pay_in hts goodAW
  have hcatR : (((st.drop n).map (rv ad xa zv)).map fun v => v.category).sum ≤ 8 := by
    have z := sm_cat ad xa zv (st.drop n)
    have z2 := sm_catL ad xa zv (st.drop n)
    rw [List.length_drop] at z z2
    rcases hn2 with y | ⟨y1, y2⟩
    · omega
    · have z3 := z2 y1
      omega
  have hsplit : st.map (rv ad xa zv) = ((st.take n).reverse.map (rv ad xa zv)).reverse ++ (st.drop n).map (rv ad xa zv) := by
    rw [← List.map_reverse, List.reverse_reverse, ← List.map_append, List.take_append_drop]
  have hblind : FrameBlind (PcD tb D ka xa zv b0 ad (st.take n).reverse m) := by
    rintro a U g mk ⟨e1, e2, e3, e4, e5⟩
    exact ⟨e1, e2, e3, e4.at (U := U.calling g mk a) (State.WarmedH.refl U) (fun _ _ _ => rfl), e5⟩
  have hb0 : b0 ≤ s.heap.size := hA _ (Nat.le_refl _)
  have hpre : ∀ U : State, U.heap = H → s.WarmedH U.vm → PcD tb D ka xa zv b0 ad (st.take n).reverse m ((st.take n).reverse.map (rv ad xa zv)).toArray U := by
    intro U hU hW
    refine ⟨rfl, by rw [hU]; exact hP, hD, hG.at hW (fun a h1 h2 => ?_), by rw [hU]; exact Nat.le_trans hb0 hVS.1⟩
    rw [hU]
    exact hVS.2.1 a h1 h2
  have hcc : cells + (m1.2.2.1 - m.2.2.1) + m0.2.2.1 = m1.2.2.1 := by omega
  have hww : slots + (m1.2.2.2 - m.2.2.2) + m0.2.2.2 = m1.2.2.2 := by omega
  -- what follows the call
  have fin : ∀ {a : Array Value}, vx_Run p l e R s mI args below meth c H locs cells slots (m1.2.2.1 - m.2.2.1) (m1.2.2.2 - m.2.2.2) (F0 mI pc lsR (st.map (rv ad xa zv))) ((st.drop n).map (rv ad xa zv)) (QcD D ka xa zv b0 ad m o1 m1 a) (XcD D ka xa zv b0 ad m o1 m1) (fun q => b0 ≤ q) → W p l e R s mI args below meth c H locs cells slots (vx_MQ below (QcD D ka xa zv b0 ad0 m0 o mf) (XcD D ka xa zv b0 ad0 m0 o mf) args s (mf.2.2.1 - m0.2.2.1) (mf.2.2.2 - m0.2.2.2) (fun q => b0 ≤ q)) (F0 mI pc lsR (st.map (rv ad xa zv))) := by
    intro a hr T hT X
    rcases hr T hT X with ⟨v, st₀, t, T', L, h0, X', hL', e1, e2, hq, stp⟩ | ⟨q, st₀, t, T', L, E, ce, h0, X', hL', e1, e2, hxc, hce, hcv, hcl, stp⟩
    · obtain ⟨r, rfl, ad', hx1, hv, hokr1, hP1, hD1, hM1, hF1⟩ := hq
      cases hv
      obtain ⟨z1, z2, z3⟩ := vx_keep h0 e1 hVS (fun _ _ h => h) (fun _ h => h) hL' hF1
      have hokd : ∀ v ∈ st.drop n, okV m1.2.1 v := fun v hv => (hokr v hv).le hle1.1
      have hS1 : ST D ka xa zv (fun q => b0 ≤ q) s lg nL m0.2.2.1 m0.2.2.2 ad' lsR ls m1 T'.heap (locs ++ L) (cells + (m1.2.2.1 - m.2.2.1)) (slots + (m1.2.2.2 - m.2.2.2)) :=
        ⟨hL.ext hx1 hokL, by rw [e1]; exact hP1, hD1, hM1, fun v hv => (hokL v hv).le hle1.1, hLG, z3, hcc, hww⟩
      have hnx := ih (pc + 3) ls (r.toList ++ st.drop n) m1 ad' lsR T'.heap (locs ++ L) _ _ hb k1 (fun j hj => (hx1 j (Nat.lt_of_lt_of_le hj hle.1)).trans (hext j hj)) (hle.tr hle1) hS1 (fun v hv => by
        rcases List.mem_append.mp hv with z | z
        · cases r with
          | none => cases z
          | some w =>
            cases List.mem_singleton.mp z
            exact hokr1 _ rfl
        · exact hokd v z)
      have ee : (r.toList ++ st.drop n).map (rv ad' xa zv) = (r.map (rv ad' xa zv)).toList ++ (st.drop n).map (rv ad xa zv) := by
        rw [List.map_append, rvs_ext hx1 hokr]
        cases r <;> rfl
      rw [ee] at hnx
      obtain ⟨t2, a1, b1⟩ := hnx T' rfl X'
      exact ⟨t2, stp t2 a1, b1⟩
    · obtain ⟨k', rfl, hk5, rfl, ad', hx1, hP1, hD1, hM1, hF1⟩ := hxc
      obtain ⟨z1, z2, z3⟩ := vx_keep h0 e1 hVS (fun _ _ h => h) (fun _ h => h) hL' hF1
      have hex9 := hexc k' hk5
      have hext1 : ∀ j, j < m0.2.1 → ad' j = ad0 j := fun j hj => (hx1 j (Nat.lt_of_lt_of_le hj hle.1)).trans (hext j hj)
      have passOf : ∀ z : ExceptionTableEntry, passes own pc k' z → covers z pc = false ∨ (z.catchType ≠ 0 ∧ ∃ nm : String, (Cond.classLink own z.catchType nm).before args s = true ∧ va_Nc (excN k') nm s) := by
        rintro z (z9 | ⟨z9, F, hF5, hFk, hw⟩)
        · exact Or.inl z9
        · refine Or.inr ⟨z9, excN F, hts _ hw, ?_⟩
          have hexm : ∀ j, j < 5 → excN j ∈ ["java/lang/IllegalStateException", "java/lang/IllegalArgumentException", "java/lang/IndexOutOfBoundsException", "java/lang/UnsupportedOperationException", "java/util/NoSuchElementException"] := by decide
          have hinj : ∀ i, i < 5 → ∀ j, j < 5 → i ≠ j → excN i ≠ excN j := by decide
          exact hG.2.2.2.2.2.2.2.2.2.1 _ (hexm k' hk5) _ (hexm F hF5) (hinj k' hk5 F hF5 (fun q => hFk q.symm))
      have hce9 : T'.heap[q]? = some ce := by rw [e1]; exact hce
      dsimp only at k1
      split at k1
      next hsE =>
        rw [hsE] at hex9
        obtain ⟨rfl, rfl⟩ := k1
        have hout : vx_W p l e R s mI args below meth c T'.heap (locs ++ L) (cells + (m1.2.2.1 - m.2.2.1)) (slots + (m1.2.2.2 - m.2.2.2)) (vx_MQ below (QcD D ka xa zv b0 ad0 m0 (.inr k') m1) (XcD D ka xa zv b0 ad0 m0 (.inr k') m1) args s (m1.2.2.1 - m0.2.2.1) (m1.2.2.2 - m0.2.2.2) (fun q => b0 ≤ q)) (F0 mI pc lsR ((st.drop n).map (rv ad xa zv))) q :=
          vx_outP (E := excN k') hown hlocks (fun z hz => passOf z (hex9 z (by rw [← htab]; exact hz))) hce9 hcv hcl (fun t9 ht9 _ => ⟨k', rfl, hk5, rfl, ad', hext1, by rw [ht9, e1]; exact hP1, hD1, hM1, z3.F ht9⟩) z3.2.2 (by omega) (by omega)
        obtain ⟨t2, a1, b1⟩ := hout T' rfl X'
        exact ⟨t2, stp.trans a1, b1⟩
      next j Lb hsE =>
        rw [hsE] at hex9
        obtain ⟨pre, x, suf, y1, y2, y3, y4, y5, y6, y7, y8, y9⟩ := hex9
        have hnw := hG.2.2.2.2.2.2.2.2.2.2.2
        have hS1 : ∀ lsR', LR ad' xa zv lsR' nL (ls.set j vu) → ST D ka xa zv (fun q => b0 ≤ q) s lg nL m0.2.2.1 m0.2.2.2 ad' lsR' (ls.set j vu) m1 T'.heap (locs ++ L) (cells + (m1.2.2.1 - m.2.2.1)) (slots + (m1.2.2.2 - m.2.2.2)) :=
          fun lsR' hL9 => ⟨hL9, by rw [e1]; exact hP1, hD1, hM1, okL_set (fun v hv => (hokL v hv).le hle1.1) trivial, hLG.set (fun x q => nomatch q), z3, hcc, hww⟩
        have hcat : vx_W p l e R s mI args below meth c T'.heap (locs ++ L) (cells + (m1.2.2.1 - m.2.2.1)) (slots + (m1.2.2.2 - m.2.2.2)) (vx_MQ below (QcD D ka xa zv b0 ad0 m0 o mf) (XcD D ka xa zv b0 ad0 m0 o mf) args s (mf.2.2.1 - m0.2.2.1) (mf.2.2.2 - m0.2.2.2) (fun q => b0 ≤ q)) (F0 mI pc lsR ((st.drop n).map (rv ad xa zv))) q := by
          refine vx_catch hown pre x suf (by rw [htab]; exact y1) (fun z hz => passOf z (y2 z hz)) y3 y4 (hts _ y5) (va_Nw.use rfl (hnw _ y6)) hce9 hcv hcl ?_
          have hLx := hL.ext hx1 hokL
          have nxt : ∀ lsR', lv_has lsR' nL ((j, Value.ref q) :: (lvs ad' xa zv 0 ls).filter (fun q => !(q.1 == j) && !(q.1 + 1 == j && q.2.category == 2))) → W p l e R s mI args below meth c T'.heap (locs ++ L) (cells + (m1.2.2.1 - m.2.2.1)) (slots + (m1.2.2.2 - m.2.2.2)) (vx_MQ below (QcD D ka xa zv b0 ad0 m0 o mf) (XcD D ka xa zv b0 ad0 m0 o mf) args s (mf.2.2.1 - m0.2.2.1) (mf.2.2.2 - m0.2.2.2) (fun q => b0 ≤ q)) (F0 mI Lb lsR' []) :=
            fun lsR' hL9 => (hJ2 _ _ _ _ k1).2 ad' lsR' T'.heap (locs ++ L) _ _ hext1 (hle.tr hle1) (hS1 lsR' (LR.putU hLG y8 hL9)) (fun v hv => nomatch hv)
          rcases y9 with ⟨g1, g2⟩ | ⟨f, g0, g1, g2⟩
          · subst g2
            exact lv_astore hx hbb g1 hLx y7 rfl nxt
          · subst g2
            exact lv_astore_n hx hbb g1 g0 hLx y7 rfl nxt
        obtain ⟨t2, a1, b1⟩ := hcat T' rfl X'
        exact ⟨t2, stp.trans a1, b1⟩
  have hlenr : (st.take n).reverse.length = n := by rw [List.length_reverse, List.length_take]; omega
  rcases hk with ⟨g1, g2, q, rfl, w1, w2⟩ | ⟨g1, g2, ⟨q, rfl, w1, w2, w3⟩, g3⟩ | ⟨g1, g2, g3, g4, ⟨ci, g5, g6⟩, q, rfl, w1, w2⟩ | ⟨g1, g2, q, rfl, w1, w2⟩
  · rcases f7 with ⟨-, -, f7⟩ | ⟨f7, -⟩
    · exact fin (vx_runS (As := (st.take n).reverse.map (rv ad xa zv)) ⟨hx, hbb, hml, hown, hts⟩ hM9 ⟨⟨rfl, rfl, hfrr.1, hfrr.2, hpay, f7, hts _ f7, hts _ f3, f2, f4, hts _ w1⟩, hts _ w2⟩ ⟨hblind, hpre⟩ rfl (by rw [List.length_map, hlenr, g2]) hsz hsplit (by show 2 * 0 + _ ≤ 8; omega) hd hroom)
    · rw [g1] at f7; cases f7
  · rcases f7 with ⟨-, -, f7⟩ | ⟨f7, -⟩
    · obtain ⟨b, As, hAs, hcell⟩ : ∃ b As, (st.take n).reverse.map (rv ad xa zv) = Value.ref b :: As ∧ ∃ cellB : Cell, H[b]? = some cellB ∧ cellB.vm.isStatics = false ∧ s.vm.findClass (mt k).1.cls = some cellB.cls := by
        rcases g3 with ⟨ci, r, g5, g6, g7, g8⟩ | ⟨g5, g6⟩
        · rw [g5] at hrecv
          obtain ⟨a, fs, as, y1, y2⟩ := recv_at g6 hrecv
          have ha := sm_lt hM y2 g7
          have hgt := wsA_get (ad := ad) (xa := xa) (zv := zv) (ka := ka) ha
          rw [y2] at hgt
          refine ⟨ad a, as.map (rv ad xa zv), by rw [y1]; rfl, ?_⟩
          rw [← g8]
          exact va_recv hG.1 hP g7 hgt
        · rw [g5] at hrecv
          obtain ⟨x, as, y1, y2, y3⟩ := hrecv
          obtain ⟨j, rfl⟩ : ∃ j, x = 2 * j := ⟨x / 2, by omega⟩
          rw [show 2 * j / 2 = j by omega] at y3
          refine ⟨xa (2 * j + 2), as.map (rv ad xa zv), by rw [y1]; rfl, ?_⟩
          rw [g6]
          obtain ⟨cell, v1, v2, v3, -⟩ := (hG.2.2.2.2.1 j y3).1.kept hVS.2.1
          exact ⟨cell, v1, v2, v3⟩
      have hlA : As.length = (mt k).2.2.2.2.2.2 := by
        have z := congrArg List.length hAs
        rw [List.length_map, hlenr, g2] at z
        simpa using z.symm
      rw [hAs] at hpre hsplit
      exact fin (vx_runV (As := As) (b := b) ⟨hx, hbb, hml, hown, hts⟩ hM9 ⟨⟨rfl, rfl, hfrr.1, hfrr.2, hpay, f7, hts _ f7, hts _ f3, f2, f4, hts _ w1⟩, hts _ w2, hts _ w3⟩ ⟨hblind, hcell, hpre⟩ rfl hlA hsz (by rw [hsplit]; simp) (by show 2 * 0 + _ ≤ 8; omega) hd hroom)
    · rw [g1] at f7; cases f7
  · rcases f7 with ⟨-, -, f7⟩ | ⟨f7, -⟩
    · rw [g5] at hrecv
      obtain ⟨a, fs, as, y1, y2⟩ := recv_at g6 hrecv
      have hAs : (st.take n).reverse.map (rv ad xa zv) = Value.ref (ad a) :: as.map (rv ad xa zv) := by rw [y1]; rfl
      have hlA : (as.map (rv ad xa zv)).length = (mt k).2.2.2.2.2.2 := by
        have z := congrArg List.length hAs
        rw [List.length_map, hlenr, g2] at z
        simpa using z.symm
      rw [hAs] at hpre hsplit
      rw [g3] at f7
      rcases w2 with w2 | w2
      · exact fin (sm_runI (As := as.map (rv ad xa zv)) (b := ad a) ⟨hx, hbb, hml, hown, hts⟩ hM9 ⟨⟨rfl, rfl, hfrr.1, hfrr.2, hpay, f7, hts _ f7, hts _ f3, f2, f4, hts _ w2⟩, g4, hts _ w1⟩ ⟨hblind, hpre⟩ rfl hlA hsz (by rw [hsplit]; simp) (by show 2 * 0 + _ ≤ 8; omega) hd hroom)
      · exact fin (sm_runIN (As := as.map (rv ad xa zv)) (b := ad a) ⟨hx, hbb, hml, hown, hts⟩ hM9 ⟨⟨⟨rfl, rfl, hfrr.1, hfrr.2, hpay, f7⟩, hts _ f7, hts _ f3, f2, f4, va_Nw.use rfl (hG.2.2.2.2.2.2.2.2.2.2.2 _ w2)⟩, g4, hts _ w1⟩ ⟨hblind, hpre⟩ rfl hlA hsz (by rw [hsplit]; simp) (by show 2 * 0 + _ ≤ 8; omega) hd hroom)
    · rw [g1] at f7; cases f7
  · rcases f7 with ⟨f7, -, -⟩ | ⟨-, f7⟩
    · exact absurd g1 f7
    · exact fin (vx_runSX (As := (st.take n).reverse.map (rv ad xa zv)) ⟨hx, hbb, hml, hown, hts⟩ hM9 ⟨⟨rfl, rfl, hfrr.1, hfrr.2, hpay, f7⟩, hts _ f7, hts _ f3, f2, f4, hts _ w1, hts _ w2⟩ ⟨hblind, hpre⟩ rfl (by rw [List.length_map, hlenr, g2]) hsz hsplit (by show 2 * 0 + _ ≤ 8; omega) hd hroom)
end SimCall
