/-! ===== A BLOCK ===== -/
section SimBlk
variable {p : Program} {l : Launch} {e : Env} {R : Room} {s : State} {mI : MethodId} {args : Array Value} {below : List Frame} {meth : Method} {c : Code}
variable {cc : ByteArray} {nL : Nat} {own : String} {ini : Bool} {lg : Nat → Bool} {tb : Tab} {D : va_G} {ka : KA} {xa : Nat → Nat} {zv : Value} {b0 d : Nat} {pg : Prg} {mt : MTab} {lgM : Nat → Nat → Bool} {m0 mf : AM} {o : Out} {ad0 : Nat → Nat} {hs : Nat → Option (Nat × Nat)} {ret : Option FieldType} {hh : List (Nat × Nat × Nat × Nat)} {J : Nat → List AV → List AV → AM → Prop}
set_option maxHeartbeats 16000000 in
theorem sm_block (hl : l.stackTraces = false)
    (hIH : ∀ M args m o mf, Runs tb pg d M args m (one o mf) → okM m → (∀ v ∈ args, okV m.2.1 v) → MetC l mt tb D ka xa zv b0 d M args m o mf) (hMF : MFacts mt pg lgM)
    (hF : FX p R s mI args meth c cc nL own ini) (hRR : R = rmD (d + 1) (mf.2.2.1 - m0.2.2.1) (mf.2.2.2 - m0.2.2.2)) (hret : meth.sig.returnType = ret) (htab : c.exceptionTable.toList = tableOf hh)
    (hG : GF tb D ka xa zv (fun q => b0 ≤ q) s s.heap) (hA : ∀ q, s.heap.size ≤ q → b0 ≤ q) (hC : CFacts tb) (hJ : JFacts)
    (hJ2 : ∀ L ls st m, J L ls st m → LeM m mf ∧ ∀ ad lsR H locs cells slots, (∀ k, k < m0.2.1 → ad k = ad0 k) → LeM m0 m → ST D ka xa zv (fun q => b0 ≤ q) s lg nL m0.2.2.1 m0.2.2.2 ad lsR ls m H locs cells slots → (∀ v ∈ st, okV m.2.1 v) →
      W p l e R s mI args below meth c H locs cells slots (vx_MQ below (QcD D ka xa zv b0 ad0 m0 o mf) (XcD D ka xa zv b0 ad0 m0 o mf) args s (mf.2.2.1 - m0.2.2.1) (mf.2.2.2 - m0.2.2.2) (fun q => b0 ≤ q)) (F0 mI L lsR (st.map (rv ad xa zv)))) :
    ∀ is pc ls st m ad lsR H locs cells slots, bOK mt pg.2.2.2.1 hs own ini cc nL lg ret hh pc is → wpB tb hs (Runs tb pg d) (one o mf) J is ls st m → (∀ k, k < m0.2.1 → ad k = ad0 k) → LeM m0 m → ST D ka xa zv (fun q => b0 ≤ q) s lg nL m0.2.2.1 m0.2.2.2 ad lsR ls m H locs cells slots → (∀ v ∈ st, okV m.2.1 v) →
      W p l e R s mI args below meth c H locs cells slots (vx_MQ below (QcD D ka xa zv b0 ad0 m0 o mf) (XcD D ka xa zv b0 ad0 m0 o mf) args s (mf.2.2.1 - m0.2.2.1) (mf.2.2.2 - m0.2.2.2) (fun q => b0 ≤ q)) (F0 mI pc lsR (st.map (rv ad xa zv))) := by
  intro is
  induction is with
  | nil => exact fun _ _ _ _ _ _ _ _ _ _ _ h => h.elim
  | cons i is ih =>
    intro pc ls st m ad lsR H locs cells slots hb h hext hle hS hst
    unfold bOK at hb
    by_cases hps : isPs i = true
    · rw [if_pos hps] at hb
      obtain ⟨hj, hb⟩ := hb
      cases i with
      | jsr t =>
        have e9 := hj t rfl
        have h9 : J t.toNat ls st m := h
        rw [show t.toNat = pc by omega] at h9
        exact (hJ2 _ _ _ _ h9).2 ad lsR H locs cells slots hext hle hS hst
      | ret k =>
        have h9 : True ∧ wpB tb hs (Runs tb pg d) (one o mf) J is (ls.set k vu) st m := h
        obtain ⟨hL, hP, hD, hM, hokL, hLG, hVS, hc0, hw0⟩ := id hS
        exact ih pc (ls.set k vu) st m ad lsR H locs cells slots hb h9.2 hext hle ⟨hL.kill k, hP, hD, hM, okL_set hokL trivial, hLG.set (fun x q => nomatch q), hVS, hc0, hw0⟩ hst
      | _ => cases hps
    · rw [if_neg hps] at hb
      have hps : isPs i = false := by cases h9 : isPs i <;> simp_all
      obtain ⟨raw, len, hd, hk, hb⟩ := hb
      by_cases hctl : isCtl i = true
      · rw [if_pos hctl] at hk
        obtain ⟨hx, hbb, hml, hown, hts, hlocks, hin, hfr, hlo⟩ := id hF
        obtain ⟨hL, hP, hD, hM, hokL, hLG, hVS, hc0, hw0⟩ := id hS
        have goJ : ∀ {L st'}, J L ls st' m → (∀ v ∈ st', okV m.2.1 v) → W p l e R s mI args below meth c H locs cells slots (vx_MQ below (QcD D ka xa zv b0 ad0 m0 o mf) (XcD D ka xa zv b0 ad0 m0 o mf) args s (mf.2.2.1 - m0.2.2.1) (mf.2.2.2 - m0.2.2.2) (fun q => b0 ≤ q)) (F0 mI L lsR (st'.map (rv ad xa zv))) :=
          fun q hq => (hJ2 _ _ _ _ q).2 ad lsR H locs cells slots hext hle hS hq
        have goI : ∀ {st'}, wpB tb hs (Runs tb pg d) (one o mf) J is ls st' m → (∀ v ∈ st', okV m.2.1 v) → W p l e R s mI args below meth c H locs cells slots (vx_MQ below (QcD D ka xa zv b0 ad0 m0 o mf) (XcD D ka xa zv b0 ad0 m0 o mf) args s (mf.2.2.1 - m0.2.2.1) (mf.2.2.2 - m0.2.2.2) (fun q => b0 ≤ q)) (F0 mI (pc + len) lsR (st'.map (rv ad xa zv))) :=
          fun q hq => ih (pc + len) ls _ m ad lsR H locs cells slots hb q hext hle hS hq
        have e0 : (0 : Int32) = Int32.ofInt 0 := rfl
        cases i with
        | goto t =>
          obtain ⟨off, rfl, rfl, ht, ht0⟩ := hk
          exact lv_goto hx hbb hd (tgt := t.toNat) (by omega) (goJ h hst)
        | ifCond cd t =>
          obtain ⟨off, rfl, rfl, ht, ht0⟩ := hk
          unfold wpB at h
          dsimp only at h
          split at h
          next x st0 =>
            obtain ⟨h1, h2, h3⟩ := h
            have hst2 : ∀ v ∈ st0, okV m.2.1 v := fun v hv => hst v (List.mem_cons_of_mem _ hv)
            have htt : (pc : Int) + off = (t.toNat : Int) := by omega
            have c1 := nt_eq (x := x) (y := 0) (Or.inl ⟨h1, nt_0⟩)
            have c2 := nt_lt h1 nt_0
            have c3 := nt_lt nt_0 h1
            have c4 := nt_le h1 nt_0
            have c5 := nt_le nt_0 h1
            rw [← e0] at c1 c2 c3 c4 c5
            cases cd with
            | eq => exact lv_if_eq hx hbb hd htt (fun q => goJ (h2 (c1.mp q)) hst2) (fun q => goI (h3 (fun z => q (c1.mpr z))) hst2)
            | ne => exact lv_if_ne hx hbb hd htt (fun q => goJ (h2 (fun z => q (c1.mpr z))) hst2) (fun q => goI (h3 (fun z => z (c1.mp q))) hst2)
            | lt => exact lv_if_lt hx hbb hd htt (fun q => goJ (h2 (c2.mp q)) hst2) (fun q => goI (h3 (fun z => q (c2.mpr z))) hst2)
            | ge => exact lv_if_ge hx hbb hd htt (fun q => goJ (h2 (c5.mp q)) hst2) (fun q => goI (h3 (fun z => q (c5.mpr z))) hst2)
            | gt => exact lv_if_gt hx hbb hd htt (fun q => goJ (h2 (c3.mp q)) hst2) (fun q => goI (h3 (fun z => q (c3.mpr z))) hst2)
            | le => exact lv_if_le hx hbb hd htt (fun q => goJ (h2 (c4.mp q)) hst2) (fun q => goI (h3 (fun z => q (c4.mpr z))) hst2)
          next => exact h.elim
        | if_icmp cd t =>
          obtain ⟨off, rfl, rfl, ht, ht0⟩ := hk
          unfold wpB at h
          dsimp only at h
          split at h
          next y x st0 =>
            obtain ⟨h1, h2, h3⟩ := h
            have hst2 : ∀ v ∈ st0, okV m.2.1 v := fun v hv => hst v (List.mem_cons_of_mem _ (List.mem_cons_of_mem _ hv))
            have htt : (pc : Int) + off = (t.toNat : Int) := by omega
            have h1' : (R32 y ∧ R32 x) ∨ y = x := h1.elim (fun q => Or.inl ⟨q.2, q.1⟩) (fun q => Or.inr q.symm)
            have c1 := nt_eq h1
            have c2 := nt_lt' h1
            have c3 := nt_lt' h1'
            have c4 := nt_le' h1
            have c5 := nt_le' h1'
            cases cd with
            | eq => exact lv_icmp_eq hx hbb hd htt (fun q => goJ (h2 (c1.mp q)) hst2) (fun q => goI (h3 (fun z => q (c1.mpr z))) hst2)
            | ne => exact lv_icmp_ne hx hbb hd htt (fun q => goJ (h2 (fun z => q (c1.mpr z))) hst2) (fun q => goI (h3 (fun z => z (c1.mp q))) hst2)
            | lt => exact lv_icmp_lt hx hbb hd htt (fun q => goJ (h2 (c2.mp q)) hst2) (fun q => goI (h3 (fun z => q (c2.mpr z))) hst2)
            | ge => exact lv_icmp_ge hx hbb hd htt (fun q => goJ (h2 (c5.mp q)) hst2) (fun q => goI (h3 (fun z => q (c5.mpr z))) hst2)
            | gt => exact lv_icmp_gt hx hbb hd htt (fun q => goJ (h2 (c3.mp q)) hst2) (fun q => goI (h3 (fun z => q (c3.mpr z))) hst2)
            | le => exact lv_icmp_le hx hbb hd htt (fun q => goJ (h2 (c4.mp q)) hst2) (fun q => goI (h3 (fun z => q (c4.mpr z))) hst2)
          next => exact h.elim
        | ifnull t =>
          obtain ⟨off, rfl, rfl, ht, ht0⟩ := hk
          unfold wpB at h
          dsimp only at h
          have htt : (pc : Int) + off = (t.toNat : Int) := by omega
          split at h
          next a st0 => exact lv_ifnull hx hbb hd (goI h (fun v hv => hst v (List.mem_cons_of_mem _ hv)))
          next st0 => exact lv_ifnullN hx hbb hd htt (goJ h (fun v hv => hst v (List.mem_cons_of_mem _ hv)))
          next => exact h.elim
        | ifnonnull t =>
          obtain ⟨off, rfl, rfl, ht, ht0⟩ := hk
          unfold wpB at h
          dsimp only at h
          have htt : (pc : Int) + off = (t.toNat : Int) := by omega
          split at h
          next a st0 => exact lv_ifnonnull hx hbb hd htt (goJ h (fun v hv => hst v (List.mem_cons_of_mem _ hv)))
          next st0 => exact lv_ifnonnullN hx hbb hd (goI h (fun v hv => hst v (List.mem_cons_of_mem _ hv)))
          next => exact h.elim
        | lookupswitch dd ps =>
          obtain ⟨⟨hd0, hq0⟩, hk⟩ := hk
          unfold wpB at h
          dsimp only at h
          split at h
          next x st0 =>
            obtain ⟨h1, h2⟩ := h
            have hst2 : ∀ v ∈ st0, okV m.2.1 v := fun v hv => hst v (List.mem_cons_of_mem _ hv)
            have hxi := nt_ti h1
            rcases hk with ⟨d0, ps0, rfl, hsort, hdd, hps0⟩ | ⟨d0, lo, hi, offs, rfl, hdd, hhi, hps0⟩
            · rw [hps0, ← hdd] at h2
              obtain ⟨t, ht1, ht2⟩ := sw_look (J := fun t => J t ls st0 m) ps0.toList (by omega) (fun q hq => hq0 (q.1, (pc : Int) + q.2) (by rw [hps0]; exact List.mem_map.mpr ⟨q, hq, rfl⟩)) h2
              exact lv_lookup hx hbb hd hsort (off := Op.lookupswitch.offset ps0.toList d0 x) (by rw [hxi]) ht2 (goJ ht1 hst2)
            · rcases sw_in (J := fun t => J t ls st0 m) _ h2 with ⟨h3, h4⟩ | ⟨q, hq, hqx, h3⟩
              · refine lv_tableOut hx hbb hd ?_ (tgt := dd.toNat) (by omega) (goJ h3 hst2)
                rw [hxi]
                rcases Int.lt_or_le x lo with z | z
                · exact Or.inl z
                · refine Or.inr (Int.lt_of_not_ge fun z2 => ?_)
                  have hm : (lo + ((x - lo).toNat : Int), (pc : Int) + offs.getD (x - lo).toNat 0) ∈ ps.toList := by
                    rw [hps0]
                    exact List.mem_map.mpr ⟨(x - lo).toNat, List.mem_range.mpr (by omega), rfl⟩
                  exact h4 _ hm (by show x = lo + ((x - lo).toNat : Int); omega)
              · have hq9 := hq0 q hq
                rw [hps0] at hq
                obtain ⟨j, hj, rfl⟩ := List.mem_map.mp hq
                have hj := List.mem_range.mp hj
                have hqx : x = lo + (j : Int) := hqx
                have hq9 : 0 ≤ (pc : Int) + offs.getD j 0 := hq9
                refine lv_tableIn hx hbb hd (by rw [hxi]; omega) (by rw [hxi]; omega) (off := offs.getD j 0) ?_ (tgt := ((pc : Int) + offs.getD j 0).toNat) (by omega) (goJ h3 hst2)
                rw [hxi, show (x - lo).toNat = j by omega]
                simp [Array.getD, hj]
          next => exact h.elim
        | ireturn =>
          obtain ⟨rfl, rfl, rfl⟩ := hk
          unfold wpB at h
          dsimp only at h
          split at h
          next x =>
            obtain ⟨rfl, rfl⟩ := h
            rw [show m.2.2.1 - m0.2.2.1 = cells by omega, show m.2.2.2 - m0.2.2.2 = slots by omega]
            exact vx_ret (W.iret hx hbb hret (fun t ht hw => ⟨some (vi x), rfl, ad, hext, rfl, (fun v q => by cases q; trivial), by rw [ht]; exact hP, hD, hM, hVS.F ht⟩) hVS.2.2 hd hlocks)
          next => exact h.elim
        | freturn =>
          obtain ⟨rfl, rfl, rfl⟩ := hk
          unfold wpB at h
          dsimp only at h
          split at h
          next x =>
            obtain ⟨h1, rfl, rfl⟩ := h
            rw [show m.2.2.1 - m0.2.2.1 = cells by omega, show m.2.2.2 - m0.2.2.2 = slots by omega]
            exact vx_ret (W.zret hx hbb hret (nt_bool h1).1 (fun t ht hw => ⟨some (vi x), rfl, ad, hext, rfl, (fun v q => by cases q; trivial), by rw [ht]; exact hP, hD, hM, hVS.F ht⟩) hVS.2.2 hd hlocks)
          next => exact h.elim
        | dreturn =>
          obtain ⟨rfl, rfl, rfl⟩ := hk
          unfold wpB at h
          dsimp only at h
          split at h
          next x =>
            obtain ⟨h1, rfl, rfl⟩ := h
            rw [show m.2.2.1 - m0.2.2.1 = cells by omega, show m.2.2.2 - m0.2.2.2 = slots by omega]
            exact vx_ret (W.zret hx hbb hret (nt_byte h1) (fun t ht hw => ⟨some (vi x), rfl, ad, hext, rfl, (fun v q => by cases q; trivial), by rw [ht]; exact hP, hD, hM, hVS.F ht⟩) hVS.2.2 hd hlocks)
          next => exact h.elim
        | lreturn =>
          obtain ⟨rfl, rfl, rfl⟩ := hk
          unfold wpB at h
          dsimp only at h
          split at h
          next x =>
            obtain ⟨h1, rfl, rfl⟩ := h
            rw [show m.2.2.1 - m0.2.2.1 = cells by omega, show m.2.2.2 - m0.2.2.2 = slots by omega]
            exact vx_ret (W.zret hx hbb hret (nt_char h1) (fun t ht hw => ⟨some (vi x), rfl, ad, hext, rfl, (fun v q => by cases q; trivial), by rw [ht]; exact hP, hD, hM, hVS.F ht⟩) hVS.2.2 hd hlocks)
          next => exact h.elim
        | areturn =>
          obtain ⟨rfl, rfl, rt, hrt, hrt2⟩ := hk
          unfold wpB at h
          dsimp only at h
          split at h
          next a =>
            obtain ⟨rfl, rfl⟩ := h
            rw [show m.2.2.1 - m0.2.2.1 = cells by omega, show m.2.2.2 - m0.2.2.2 = slots by omega]
            exact vx_ret (W.aret hx hbb (hret.trans hrt) hrt2 (Or.inr ⟨_, rfl⟩) (fun t ht hw => ⟨some (vr a), rfl, ad, hext, rfl, (fun v q => by cases q; exact hst _ List.mem_cons_self), by rw [ht]; exact hP, hD, hM, hVS.F ht⟩) hVS.2.2 hd hlocks)
          next =>
            obtain ⟨rfl, rfl⟩ := h
            rw [show m.2.2.1 - m0.2.2.1 = cells by omega, show m.2.2.2 - m0.2.2.2 = slots by omega]
            exact vx_ret (W.aret hx hbb (hret.trans hrt) hrt2 (Or.inl rfl) (fun t ht hw => ⟨some vn, rfl, ad, hext, rfl, (fun v q => by cases q; trivial), by rw [ht]; exact hP, hD, hM, hVS.F ht⟩) hVS.2.2 hd hlocks)
          next => exact h.elim
        | return_ =>
          obtain ⟨rfl, rfl, rfl⟩ := hk
          unfold wpB at h
          dsimp only at h
          split at h
          next =>
            obtain ⟨rfl, rfl⟩ := h
            rw [show m.2.2.1 - m0.2.2.1 = cells by omega, show m.2.2.2 - m0.2.2.2 = slots by omega]
            exact vx_ret (W.vret hx hbb hret (fun t ht hw => ⟨none, rfl, ad, hext, rfl, (fun v q => nomatch q), by rw [ht]; exact hP, hD, hM, hVS.F ht⟩) hVS.2.2 hd hlocks)
          next => exact h.elim
        | invokeinterface k n => exact sm_call hl hIH hMF hF hRR htab hG hA hJ2 ih hb h hext hle hS hst hd hk
        | invokedynamic E => exact sm_throw hl hF hRR htab hG h hext hle hS hst hk
        | _ => cases hctl
      · rw [if_neg hctl] at hk
        have hctl : isCtl i = false := by cases h9 : isCtl i <;> simp_all
        rw [wp_split _ _ _ _ _ i is ls st m hctl (fun t q => by rw [q] at hps; cases hps)] at h
        split at h
        next => exact h.elim
        next φ ls' st' m' e9 =>
          have hle2 := wpB_le (Runs.le_c d) (fun L ls st m q => (hJ2 L ls st m q).1) _ _ _ _ h.2
          have hle3 := sI_le e9
          refine sm_step hF hG hA hC hJ hS hst e9 h.1 hd hps hk ?_ (fun ad' lsR' H' locs' cells' slots' hx9 hS' hst' => ih (pc + len) ls' st' m' ad' lsR' H' locs' cells' slots' hb h.2 (fun k hk => (hx9 k (Nat.lt_of_lt_of_le hk hle.1)).trans (hext k hk)) (hle.tr hle3) hS' hst')
          rw [hRR]
          have q1 := hle.2.1
          have q2 := hle.2.2
          have q3 := hle2.2.1
          have q4 := hle2.2.2
          have q5 := hle3.2.1
          have q6 := hle3.2.2
          exact ⟨by show m'.2.2.1 ≤ (mf.2.2.1 - m0.2.2.1) + m0.2.2.1; omega, by show m'.2.2.2 ≤ (mf.2.2.2 - m0.2.2.2) + m0.2.2.2; omega⟩
end SimBlk
