/-! ===== ONE STEP, the arrays, things made, the JDK ===== -/
section SimStep2
variable {p : Program} {l : Launch} {e : Env} {R : Room} {s : State} {mI : MethodId} {args : Array Value} {below : List Frame} {meth : Method} {c : Code} {H : Heap} {locs : List Loc} {cells slots : Nat} {Q : State → Prop}
variable {cc : ByteArray} {nL c0 w0 pc len : Nat} {own : String} {ini : Bool} {lg : Nat → Bool} {tb : Tab} {D : va_G} {ka : KA} {xa : Nat → Nat} {zv : Value} {A : Nat → Prop} {ad : Nat → Nat} {lsR : Array Slot} {ls ls' st st' : List AV} {m m' : AM} {raw : Instr} {φ : Prop}

theorem sI_fload0 (tb : Tab) (ls st : List AV) (m : AM) : sI tb (.fload 0) ls st m = (match st with
    | .inr (.inr (.inl (x + 2))) :: st => some (x % 2 = 0 ∧ x / 2 < nStr, ls, vx (x + 3) :: st, m)
    | _ => none) := rfl
theorem sI_fload1 (tb : Tab) (ls st : List AV) (m : AM) : sI tb (.fload 1) ls st m = (match st with
    | .inr (.inr (.inl (x + 2))) :: st => some (x % 2 = 0 ∧ x / 2 < nStr, ls, vi 0 :: st, m)
    | _ => none) := rfl
theorem sI_invokestatic0 (tb : Tab) (ls st : List AV) (m : AM) : sI tb (.invokestatic 0) ls st m = (match st with
    | .inl (.inl y) :: .inl (.inl x) :: st => some (st.length ≤ 8 ∧ R32 x ∧ R32 y, ls, vi (if y < x then y else x) :: st, m)
    | _ => none) := rfl
theorem sI_invokestatic1 (tb : Tab) (ls st : List AV) (m : AM) : sI tb (.invokestatic 1) ls st m = (match st with
    | .inl (.inl y) :: .inl (.inl x) :: st => some (st.length ≤ 8 ∧ R32 x ∧ R32 y, ls, vi (if x < y then y else x) :: st, m)
    | _ => none) := rfl
theorem sI_invokestatic2 (tb : Tab) (ls st : List AV) (m : AM) : sI tb (.invokestatic 2) ls st m = (match st with
    | .inl (.inl n) :: .inl (.inl dp) :: .inr (.inl b) :: .inl (.inl sp) :: .inr (.inl a) :: st => match m.1 a with
      | .inr (.inl (0, la, f)) => match m.1 b with
        | .inr (.inl (0, lb, g)) => some (st.length ≤ 8 ∧ (0 ≤ n ∧ 0 ≤ sp ∧ 0 ≤ dp) ∧ (sp + n ≤ la ∧ dp + n ≤ lb) ∧ la < 1000000 ∧ lb < 1000000, ls, st, mset m b (ca 0 lb (cpyI f g sp.toNat dp.toNat n.toNat)))
        | _ => none
      | _ => none
    | _ => none) := rfl
theorem sI_invokestatic3 (tb : Tab) (ls st : List AV) (m : AM) : sI tb (.invokestatic 3) ls st m = (match st with
    | .inr (.inl a) :: st => match m.1 a with
      | .inr (.inl (0, len, f)) => some (st.length ≤ 8 ∧ len < 1000000, ls, vr m.2.1 :: st, mnew m (ca 0 len f) len)
      | _ => none
    | _ => none) := rfl
theorem sm_strlen : ∀ k, (strB k).length < 100 := by
  intro k
  unfold strB
  split <;> decide
theorem sm_cat (ad xa : Nat → Nat) (zv : Value) : ∀ st : List AV, ((st.map (rv ad xa zv)).map fun v => v.category).sum ≤ 2 * st.length
  | [] => Nat.le_refl _
  | v :: st => by
    have h := sm_cat ad xa zv st
    have h2 := lv_cat (rv ad xa zv v)
    simp only [List.map_cons, List.sum_cons, List.length_cons]
    omega

set_option maxHeartbeats 4000000 in
theorem sm_iaload (hF : FX p R s mI args meth c cc nL own ini) (hG : GF tb D ka xa zv A s s.heap) (hA : ∀ q, s.heap.size ≤ q → A q) (hC : CFacts tb) (hJ : JFacts) (hS : ST D ka xa zv A s lg nL c0 w0 ad lsR ls m H locs cells slots) (hst : ∀ v ∈ st, okV m.2.1 v)
    (h : sI tb (.iaload) ls st m = some (φ, ls', st', m')) (hφ : φ) (hd : decode cc pc = .ok (raw, len)) (hk : iOK own ini lg nL raw len (.iaload)) (hr : m'.2.2.1 ≤ R.cells + c0 ∧ m'.2.2.2 ≤ R.slots + w0)
    (kk : ∀ ad' lsR' H' locs' cells' slots', (∀ k, k < m.2.1 → ad' k = ad k) → ST D ka xa zv A s lg nL c0 w0 ad' lsR' ls' m' H' locs' cells' slots' → (∀ v ∈ st', okV m'.2.1 v) → W p l e R s mI args below meth c H' locs' cells' slots' Q (F0 mI (pc + len) lsR' (st'.map (rv ad' xa zv)))) :
    W p l e R s mI args below meth c H locs cells slots Q (F0 mI pc lsR (st.map (rv ad xa zv))) := by
  obtain ⟨hx, hb, hml, hown, hts, hlocks, hin, hfr, hlo⟩ := hF
  obtain ⟨hL, hP, hD, hM, hokL, hLG, hVS, hc0, hw0⟩ := id hS
  dsimp only [sI] at h
  obtain ⟨rfl, rfl⟩ := hk
  split at h
  next j a st0 =>
    split at h
    next len f e1 =>
      obtain ⟨rfl, rfl, rfl, rfl⟩ := h
      have ha := sm_ltA hM e1
      have hgt := wsA_get (ad := ad) (xa := xa) (zv := zv) (ka := ka) ha
      rw [e1] at hgt
      have hok := hM.1 a ha
      rw [e1] at hok
      have hlen : len < 2147483648 := hok
      have hin9 := nt_in hφ.1 hφ.2 hlen
      refine va_iald hx hb hG.1 hP a 0 hgt rfl hin9 hd ?_
      rw [nt_cl0 hφ.1 (by omega)]
      exact kk ad lsR H locs cells slots (fun _ _ => rfl) hS (fun w hv => (List.mem_cons.mp hv).elim (fun q => by rw [q]; trivial) (fun hv => hst w (List.mem_cons_of_mem _ (List.mem_cons_of_mem _ hv))))
    next => cases h
  next j st0 =>
    obtain ⟨rfl, rfl, rfl, rfl⟩ := h
    have hlen := hG.2.1.2
    exact va_ti hx hb hG.2.1.1 hVS (nt_in hφ.1 hφ.2 hlen) (v := .int (Int32.ofInt (tb.2.2.2 j.toNat))) (by rw [nt_cl0 hφ.1 (by omega)]) hd (kk ad lsR H locs cells slots (fun _ _ => rfl) hS (fun w hv => (List.mem_cons.mp hv).elim (fun q => by rw [q]; trivial) (fun hv => hst w (List.mem_cons_of_mem _ (List.mem_cons_of_mem _ hv)))))
  next j st0 =>
    obtain ⟨rfl, rfl, rfl, rfl⟩ := h
    exact va_ti hx hb hG.2.2.1.1 hVS (nt_in hφ.1 hφ.2 (by decide)) (v := .int (Int32.ofInt (worthT j.toNat))) (by rw [nt_cl0 hφ.1 (by omega)]) hd (kk ad lsR H locs cells slots (fun _ _ => rfl) hS (fun w hv => (List.mem_cons.mp hv).elim (fun q => by rw [q]; trivial) (fun hv => hst w (List.mem_cons_of_mem _ (List.mem_cons_of_mem _ hv)))))
  next => cases h

set_option maxHeartbeats 4000000 in
theorem sm_laload (hF : FX p R s mI args meth c cc nL own ini) (hG : GF tb D ka xa zv A s s.heap) (hA : ∀ q, s.heap.size ≤ q → A q) (hC : CFacts tb) (hJ : JFacts) (hS : ST D ka xa zv A s lg nL c0 w0 ad lsR ls m H locs cells slots) (hst : ∀ v ∈ st, okV m.2.1 v)
    (h : sI tb (.laload) ls st m = some (φ, ls', st', m')) (hφ : φ) (hd : decode cc pc = .ok (raw, len)) (hk : iOK own ini lg nL raw len (.laload)) (hr : m'.2.2.1 ≤ R.cells + c0 ∧ m'.2.2.2 ≤ R.slots + w0)
    (kk : ∀ ad' lsR' H' locs' cells' slots', (∀ k, k < m.2.1 → ad' k = ad k) → ST D ka xa zv A s lg nL c0 w0 ad' lsR' ls' m' H' locs' cells' slots' → (∀ v ∈ st', okV m'.2.1 v) → W p l e R s mI args below meth c H' locs' cells' slots' Q (F0 mI (pc + len) lsR' (st'.map (rv ad' xa zv)))) :
    W p l e R s mI args below meth c H locs cells slots Q (F0 mI pc lsR (st.map (rv ad xa zv))) := by
  obtain ⟨hx, hb, hml, hown, hts, hlocks, hin, hfr, hlo⟩ := hF
  obtain ⟨hL, hP, hD, hM, hokL, hLG, hVS, hc0, hw0⟩ := id hS
  dsimp only [sI] at h
  obtain ⟨rfl, rfl⟩ := hk
  split at h
  next j a st0 =>
    split at h
    next len f e1 =>
      obtain ⟨rfl, rfl, rfl, rfl⟩ := h
      have ha := sm_ltA hM e1
      have hgt := wsA_get (ad := ad) (xa := xa) (zv := zv) (ka := ka) ha
      rw [e1] at hgt
      have hok := hM.1 a ha
      rw [e1] at hok
      have hlen : len < 2147483648 := hok
      have hin9 := nt_in hφ.1 hφ.2 hlen
      refine va_lald hx hb hG.1 hP a 1 hgt rfl hin9 hd ?_
      rw [nt_cl0 hφ.1 (by omega)]
      exact kk ad lsR H locs cells slots (fun _ _ => rfl) hS (fun w hv => (List.mem_cons.mp hv).elim (fun q => by rw [q]; trivial) (fun hv => hst w (List.mem_cons_of_mem _ (List.mem_cons_of_mem _ hv))))
    next => cases h
  next => cases h

set_option maxHeartbeats 4000000 in
theorem sm_baload (hF : FX p R s mI args meth c cc nL own ini) (hG : GF tb D ka xa zv A s s.heap) (hA : ∀ q, s.heap.size ≤ q → A q) (hC : CFacts tb) (hJ : JFacts) (hS : ST D ka xa zv A s lg nL c0 w0 ad lsR ls m H locs cells slots) (hst : ∀ v ∈ st, okV m.2.1 v)
    (h : sI tb (.baload) ls st m = some (φ, ls', st', m')) (hφ : φ) (hd : decode cc pc = .ok (raw, len)) (hk : iOK own ini lg nL raw len (.baload)) (hr : m'.2.2.1 ≤ R.cells + c0 ∧ m'.2.2.2 ≤ R.slots + w0)
    (kk : ∀ ad' lsR' H' locs' cells' slots', (∀ k, k < m.2.1 → ad' k = ad k) → ST D ka xa zv A s lg nL c0 w0 ad' lsR' ls' m' H' locs' cells' slots' → (∀ v ∈ st', okV m'.2.1 v) → W p l e R s mI args below meth c H' locs' cells' slots' Q (F0 mI (pc + len) lsR' (st'.map (rv ad' xa zv)))) :
    W p l e R s mI args below meth c H locs cells slots Q (F0 mI pc lsR (st.map (rv ad xa zv))) := by
  obtain ⟨hx, hb, hml, hown, hts, hlocks, hin, hfr, hlo⟩ := hF
  obtain ⟨hL, hP, hD, hM, hokL, hLG, hVS, hc0, hw0⟩ := id hS
  dsimp only [sI] at h
  obtain ⟨rfl, rfl⟩ := hk
  split at h
  next j a st0 =>
    split at h
    next len f e1 =>
      obtain ⟨rfl, rfl, rfl, rfl⟩ := h
      have ha := sm_ltA hM e1
      have hgt := wsA_get (ad := ad) (xa := xa) (zv := zv) (ka := ka) ha
      rw [e1] at hgt
      have hok := hM.1 a ha
      rw [e1] at hok
      have hlen : len < 2147483648 := hok
      have hin9 := nt_in hφ.1 hφ.2 hlen
      refine va_zald hx hb hG.1 hP a 2 hgt rfl hin9 hd ?_
      rw [nt_cl0 hφ.1 (by omega)]
      exact kk ad lsR H locs cells slots (fun _ _ => rfl) hS (fun w hv => (List.mem_cons.mp hv).elim (fun q => by rw [q]; trivial) (fun hv => hst w (List.mem_cons_of_mem _ (List.mem_cons_of_mem _ hv))))
    next => cases h
  next j x st0 =>
    obtain ⟨rfl, rfl, rfl, rfl⟩ := h
    obtain ⟨⟨h1, h2⟩, h3, h4⟩ := hφ
    obtain ⟨k, rfl⟩ : ∃ k, x = 2 * k + 1 := ⟨x / 2, by omega⟩
    have e2 : (2 * k + 1) / 2 = k := by omega
    rw [e2] at h2 h4 kk
    rw [hC.1] at h4 kk
    have hT := (hG.2.2.2.2.1 k h2).2.2.2
    have hl9 : (strB k).length < 100 := sm_strlen k
    exact va_tb hx hb hT hVS (nt_in h3 h4 (by omega)) (v := .int (Int32.ofInt ((strB k).getD j.toNat 0))) (by rw [nt_cl0 h3 (by omega)]) hd (kk ad lsR H locs cells slots (fun _ _ => rfl) hS (fun w hv => (List.mem_cons.mp hv).elim (fun q => by rw [q]; trivial) (fun hv => hst w (List.mem_cons_of_mem _ (List.mem_cons_of_mem _ hv)))))
  next => cases h

set_option maxHeartbeats 4000000 in
theorem sm_aaload (hF : FX p R s mI args meth c cc nL own ini) (hG : GF tb D ka xa zv A s s.heap) (hA : ∀ q, s.heap.size ≤ q → A q) (hC : CFacts tb) (hJ : JFacts) (hS : ST D ka xa zv A s lg nL c0 w0 ad lsR ls m H locs cells slots) (hst : ∀ v ∈ st, okV m.2.1 v)
    (h : sI tb (.aaload) ls st m = some (φ, ls', st', m')) (hφ : φ) (hd : decode cc pc = .ok (raw, len)) (hk : iOK own ini lg nL raw len (.aaload)) (hr : m'.2.2.1 ≤ R.cells + c0 ∧ m'.2.2.2 ≤ R.slots + w0)
    (kk : ∀ ad' lsR' H' locs' cells' slots', (∀ k, k < m.2.1 → ad' k = ad k) → ST D ka xa zv A s lg nL c0 w0 ad' lsR' ls' m' H' locs' cells' slots' → (∀ v ∈ st', okV m'.2.1 v) → W p l e R s mI args below meth c H' locs' cells' slots' Q (F0 mI (pc + len) lsR' (st'.map (rv ad' xa zv)))) :
    W p l e R s mI args below meth c H locs cells slots Q (F0 mI pc lsR (st.map (rv ad xa zv))) := by
  obtain ⟨hx, hb, hml, hown, hts, hlocks, hin, hfr, hlo⟩ := hF
  obtain ⟨hL, hP, hD, hM, hokL, hLG, hVS, hc0, hw0⟩ := id hS
  dsimp only [sI] at h
  obtain ⟨rfl, rfl⟩ := hk
  split at h
  next j a st0 =>
    split at h
    next len f e1 =>
      obtain ⟨rfl, rfl, rfl, rfl⟩ := h
      have ha := sm_ltA hM e1
      have hgt := wsA_get (ad := ad) (xa := xa) (zv := zv) (ka := ka) ha
      rw [e1] at hgt
      have hok := hM.1 a ha
      rw [e1] at hok
      have hlen : len < 2147483648 := hok.1
      have hin9 := nt_in hφ.1 hφ.2 hlen
      refine va_aldq hx hb hG.1 hP a 3 hgt rfl hin9 hd ?_
      rw [nt_cl0 hφ.1 (by omega)]
      have fin := kk ad lsR H locs cells slots (fun _ _ => rfl) hS (fun w hv => (List.mem_cons.mp hv).elim (fun q => by
        rw [q]
        unfold ovr
        split
        next k e2 => exact hok.2 _ _ e2
        next => trivial) (fun hv => hst w (List.mem_cons_of_mem _ (List.mem_cons_of_mem _ hv))))
      have e3 : va_rf ((f j.toNat).map ad) = rv ad xa zv (ovr (f j.toNat)) := by
        cases f j.toNat <;> rfl
      rw [e3]
      exact fin
    next => cases h
  next => cases h

set_option maxHeartbeats 4000000 in
theorem sm_iastore (hF : FX p R s mI args meth c cc nL own ini) (hG : GF tb D ka xa zv A s s.heap) (hA : ∀ q, s.heap.size ≤ q → A q) (hC : CFacts tb) (hJ : JFacts) (hS : ST D ka xa zv A s lg nL c0 w0 ad lsR ls m H locs cells slots) (hst : ∀ v ∈ st, okV m.2.1 v)
    (h : sI tb (.iastore) ls st m = some (φ, ls', st', m')) (hφ : φ) (hd : decode cc pc = .ok (raw, len)) (hk : iOK own ini lg nL raw len (.iastore)) (hr : m'.2.2.1 ≤ R.cells + c0 ∧ m'.2.2.2 ≤ R.slots + w0)
    (kk : ∀ ad' lsR' H' locs' cells' slots', (∀ k, k < m.2.1 → ad' k = ad k) → ST D ka xa zv A s lg nL c0 w0 ad' lsR' ls' m' H' locs' cells' slots' → (∀ v ∈ st', okV m'.2.1 v) → W p l e R s mI args below meth c H' locs' cells' slots' Q (F0 mI (pc + len) lsR' (st'.map (rv ad' xa zv)))) :
    W p l e R s mI args below meth c H locs cells slots Q (F0 mI pc lsR (st.map (rv ad xa zv))) := by
  obtain ⟨hx, hb, hml, hown, hts, hlocks, hin, hfr, hlo⟩ := hF
  obtain ⟨hL, hP, hD, hM, hokL, hLG, hVS, hc0, hw0⟩ := id hS
  dsimp only [sI] at h
  obtain ⟨rfl, rfl⟩ := hk
  split at h
  next v j a st0 =>
    split at h
    next len f e1 =>
      obtain ⟨rfl, rfl, rfl, rfl⟩ := h
      have ha := sm_ltA hM e1
      have hgt := wsA_get (ad := ad) (xa := xa) (zv := zv) (ka := ka) ha
      rw [e1] at hgt
      have hok := hM.1 a ha
      rw [e1] at hok
      have hlen : len < 2147483648 := hok
      have hin9 := nt_in hφ.1 hφ.2 hlen
      refine va_iast hx hb hG.1 hP hD hVS a 0 hgt rfl hin9 hd (fun H1 locs1 hP1 hD1 hS1 => ?_)
      have ee : upd (fun k => Int32.ofInt (f k)) (Int32.ofInt j).toNatClampNeg (Int32.ofInt v) = fun k => Int32.ofInt (up f j.toNat v k) := by
        rw [nt_cl0 hφ.1 (by omega)]
        funext k
        unfold upd up
        split <;> rfl
      rw [ee] at hP1 hD1
      have e5 := wsA_set (ad := ad) (xa := xa) (zv := zv) (ka := ka) (m := m) (a := a) (c := ca 0 len (up f j.toNat v))
      have hP2 : va_P D vwCl (wsA ad xa zv ka (mset m a (ca 0 len (up f j.toNat v)))) H1 := by rw [← e5]; exact hP1
      have hD2 : va_D A (wsA ad xa zv ka (mset m a (ca 0 len (up f j.toNat v)))) := by rw [← e5]; exact hD1
      exact kk ad lsR H1 locs1 cells slots (fun _ _ => rfl) ⟨hL, hP2, hD2, hM.set ha hlen, hokL, hLG, hS1, hc0, hw0⟩ (fun w hv => hst w (List.mem_cons_of_mem _ (List.mem_cons_of_mem _ (List.mem_cons_of_mem _ hv))))
    next => cases h
  next => cases h

set_option maxHeartbeats 4000000 in
theorem sm_lastore (hF : FX p R s mI args meth c cc nL own ini) (hG : GF tb D ka xa zv A s s.heap) (hA : ∀ q, s.heap.size ≤ q → A q) (hC : CFacts tb) (hJ : JFacts) (hS : ST D ka xa zv A s lg nL c0 w0 ad lsR ls m H locs cells slots) (hst : ∀ v ∈ st, okV m.2.1 v)
    (h : sI tb (.lastore) ls st m = some (φ, ls', st', m')) (hφ : φ) (hd : decode cc pc = .ok (raw, len)) (hk : iOK own ini lg nL raw len (.lastore)) (hr : m'.2.2.1 ≤ R.cells + c0 ∧ m'.2.2.2 ≤ R.slots + w0)
    (kk : ∀ ad' lsR' H' locs' cells' slots', (∀ k, k < m.2.1 → ad' k = ad k) → ST D ka xa zv A s lg nL c0 w0 ad' lsR' ls' m' H' locs' cells' slots' → (∀ v ∈ st', okV m'.2.1 v) → W p l e R s mI args below meth c H' locs' cells' slots' Q (F0 mI (pc + len) lsR' (st'.map (rv ad' xa zv)))) :
    W p l e R s mI args below meth c H locs cells slots Q (F0 mI pc lsR (st.map (rv ad xa zv))) := by
  obtain ⟨hx, hb, hml, hown, hts, hlocks, hin, hfr, hlo⟩ := hF
  obtain ⟨hL, hP, hD, hM, hokL, hLG, hVS, hc0, hw0⟩ := id hS
  dsimp only [sI] at h
  obtain ⟨rfl, rfl⟩ := hk
  split at h
  next v j a st0 =>
    split at h
    next len f e1 =>
      obtain ⟨rfl, rfl, rfl, rfl⟩ := h
      have ha := sm_ltA hM e1
      have hgt := wsA_get (ad := ad) (xa := xa) (zv := zv) (ka := ka) ha
      rw [e1] at hgt
      have hok := hM.1 a ha
      rw [e1] at hok
      have hlen : len < 2147483648 := hok
      have hin9 := nt_in hφ.1 hφ.2 hlen
      refine va_last hx hb hG.1 hP hD hVS a 1 hgt rfl hin9 hd (fun H1 locs1 hP1 hD1 hS1 => ?_)
      have ee : vp_updL (fun k => Int64.ofInt (f k)) (Int32.ofInt j).toNatClampNeg (Int64.ofInt v) = fun k => Int64.ofInt (up f j.toNat v k) := by
        rw [nt_cl0 hφ.1 (by omega)]
        funext k
        unfold vp_updL up
        split <;> rfl
      rw [ee] at hP1 hD1
      have e5 := wsA_set (ad := ad) (xa := xa) (zv := zv) (ka := ka) (m := m) (a := a) (c := ca 1 len (up f j.toNat v))
      have hP2 : va_P D vwCl (wsA ad xa zv ka (mset m a (ca 1 len (up f j.toNat v)))) H1 := by rw [← e5]; exact hP1
      have hD2 : va_D A (wsA ad xa zv ka (mset m a (ca 1 len (up f j.toNat v)))) := by rw [← e5]; exact hD1
      exact kk ad lsR H1 locs1 cells slots (fun _ _ => rfl) ⟨hL, hP2, hD2, hM.set ha hlen, hokL, hLG, hS1, hc0, hw0⟩ (fun w hv => hst w (List.mem_cons_of_mem _ (List.mem_cons_of_mem _ (List.mem_cons_of_mem _ hv))))
    next => cases h
  next => cases h

set_option maxHeartbeats 4000000 in
theorem sm_bastore (hF : FX p R s mI args meth c cc nL own ini) (hG : GF tb D ka xa zv A s s.heap) (hA : ∀ q, s.heap.size ≤ q → A q) (hC : CFacts tb) (hJ : JFacts) (hS : ST D ka xa zv A s lg nL c0 w0 ad lsR ls m H locs cells slots) (hst : ∀ v ∈ st, okV m.2.1 v)
    (h : sI tb (.bastore) ls st m = some (φ, ls', st', m')) (hφ : φ) (hd : decode cc pc = .ok (raw, len)) (hk : iOK own ini lg nL raw len (.bastore)) (hr : m'.2.2.1 ≤ R.cells + c0 ∧ m'.2.2.2 ≤ R.slots + w0)
    (kk : ∀ ad' lsR' H' locs' cells' slots', (∀ k, k < m.2.1 → ad' k = ad k) → ST D ka xa zv A s lg nL c0 w0 ad' lsR' ls' m' H' locs' cells' slots' → (∀ v ∈ st', okV m'.2.1 v) → W p l e R s mI args below meth c H' locs' cells' slots' Q (F0 mI (pc + len) lsR' (st'.map (rv ad' xa zv)))) :
    W p l e R s mI args below meth c H locs cells slots Q (F0 mI pc lsR (st.map (rv ad xa zv))) := by
  obtain ⟨hx, hb, hml, hown, hts, hlocks, hin, hfr, hlo⟩ := hF
  obtain ⟨hL, hP, hD, hM, hokL, hLG, hVS, hc0, hw0⟩ := id hS
  dsimp only [sI] at h
  obtain ⟨rfl, rfl⟩ := hk
  split at h
  next v j a st0 =>
    split at h
    next len f e1 =>
      obtain ⟨rfl, rfl, rfl, rfl⟩ := h
      have ha := sm_ltA hM e1
      have hgt := wsA_get (ad := ad) (xa := xa) (zv := zv) (ka := ka) ha
      rw [e1] at hgt
      have hok := hM.1 a ha
      rw [e1] at hok
      have hlen : len < 2147483648 := hok
      have hin9 := nt_in hφ.2.1 hφ.2.2 hlen
      refine va_zast hx hb hG.1 hP hD hVS a 2 hgt rfl hin9 hd (fun H1 locs1 hP1 hD1 hS1 => ?_)
      have ee : upd (fun k => Int32.ofInt (f k)) (Int32.ofInt j).toNatClampNeg (vp_nar .boolean (Int32.ofInt v)) = fun k => Int32.ofInt (up f j.toNat v k) := by
        rw [nt_cl0 hφ.2.1 (by omega)]
        funext k
        have e7 : vp_nar .boolean (Int32.ofInt v) = Int32.ofInt v := by rcases hφ.1 with rfl | rfl <;> decide
        rw [e7]
        unfold upd up
        split <;> rfl
      rw [ee] at hP1 hD1
      have e5 := wsA_set (ad := ad) (xa := xa) (zv := zv) (ka := ka) (m := m) (a := a) (c := ca 2 len (up f j.toNat v))
      have hP2 : va_P D vwCl (wsA ad xa zv ka (mset m a (ca 2 len (up f j.toNat v)))) H1 := by rw [← e5]; exact hP1
      have hD2 : va_D A (wsA ad xa zv ka (mset m a (ca 2 len (up f j.toNat v)))) := by rw [← e5]; exact hD1
      exact kk ad lsR H1 locs1 cells slots (fun _ _ => rfl) ⟨hL, hP2, hD2, hM.set ha hlen, hokL, hLG, hS1, hc0, hw0⟩ (fun w hv => hst w (List.mem_cons_of_mem _ (List.mem_cons_of_mem _ (List.mem_cons_of_mem _ hv))))
    next => cases h
  next => cases h

set_option maxHeartbeats 4000000 in
theorem sm_aastore (hF : FX p R s mI args meth c cc nL own ini) (hG : GF tb D ka xa zv A s s.heap) (hA : ∀ q, s.heap.size ≤ q → A q) (hC : CFacts tb) (hJ : JFacts) (hS : ST D ka xa zv A s lg nL c0 w0 ad lsR ls m H locs cells slots) (hst : ∀ v ∈ st, okV m.2.1 v)
    (h : sI tb (.aastore) ls st m = some (φ, ls', st', m')) (hφ : φ) (hd : decode cc pc = .ok (raw, len)) (hk : iOK own ini lg nL raw len (.aastore)) (hr : m'.2.2.1 ≤ R.cells + c0 ∧ m'.2.2.2 ≤ R.slots + w0)
    (kk : ∀ ad' lsR' H' locs' cells' slots', (∀ k, k < m.2.1 → ad' k = ad k) → ST D ka xa zv A s lg nL c0 w0 ad' lsR' ls' m' H' locs' cells' slots' → (∀ v ∈ st', okV m'.2.1 v) → W p l e R s mI args below meth c H' locs' cells' slots' Q (F0 mI (pc + len) lsR' (st'.map (rv ad' xa zv)))) :
    W p l e R s mI args below meth c H locs cells slots Q (F0 mI pc lsR (st.map (rv ad xa zv))) := by
  obtain ⟨hx, hb, hml, hown, hts, hlocks, hin, hfr, hlo⟩ := hF
  obtain ⟨hL, hP, hD, hM, hokL, hLG, hVS, hc0, hw0⟩ := id hS
  dsimp only [sI] at h
  obtain ⟨rfl, rfl⟩ := hk
  split at h
  next v j a st0 =>
    split at h
    next len f e1 =>
      obtain ⟨rfl, rfl, rfl, rfl⟩ := h
      have ha := sm_ltA hM e1
      have hgt := wsA_get (ad := ad) (xa := xa) (zv := zv) (ka := ka) ha
      rw [e1] at hgt
      have hok := hM.1 a ha
      rw [e1] at hok
      obtain ⟨⟨vs, e8⟩, hφ1, hφ2⟩ := hφ
      have hv9 := sm_lt hM e8 (r := (RX10, TX10, 17)) rfl
      have hgv := wsA_get (ad := ad) (xa := xa) (zv := zv) (ka := ka) hv9
      rw [e8] at hgv
      have hlen : len < 2147483648 := hok.1
      have hin9 := nt_in hφ1 hφ2 hlen
      refine va_astq hx hb hG.1 hP hD hVS a 3 v 8 (r := (RX10, TX10, 17)) hgt rfl hgv rfl hin9 hd (fun H1 locs1 hP1 hD1 hS1 => ?_)
      have ee : va_up (fun k => (f k).map ad) (Int32.ofInt j).toNatClampNeg (some (ad v)) = fun k => (up f j.toNat (some v) k).map ad := by
        rw [nt_cl0 hφ1 (by omega)]
        funext k
        unfold va_up up
        split <;> rfl
      rw [ee] at hP1 hD1
      have e5 := wsA_set (ad := ad) (xa := xa) (zv := zv) (ka := ka) (m := m) (a := a) (c := cr len (up f j.toNat (some v)))
      have hP2 : va_P D vwCl (wsA ad xa zv ka (mset m a (cr len (up f j.toNat (some v))))) H1 := by rw [← e5]; exact hP1
      have hD2 : va_D A (wsA ad xa zv ka (mset m a (cr len (up f j.toNat (some v))))) := by rw [← e5]; exact hD1
      refine kk ad lsR H1 locs1 cells slots (fun _ _ => rfl) ⟨hL, hP2, hD2, hM.set ha ⟨hlen, fun i k q => ?_⟩, hokL, hLG, hS1, hc0, hw0⟩ (fun w hv => hst w (List.mem_cons_of_mem _ (List.mem_cons_of_mem _ (List.mem_cons_of_mem _ hv))))
      unfold up at q
      split at q
      · cases q
        exact hv9
      · exact hok.2 i k q
    next => cases h
  next => cases h

set_option maxHeartbeats 4000000 in
theorem sm_arraylength (hF : FX p R s mI args meth c cc nL own ini) (hG : GF tb D ka xa zv A s s.heap) (hA : ∀ q, s.heap.size ≤ q → A q) (hC : CFacts tb) (hJ : JFacts) (hS : ST D ka xa zv A s lg nL c0 w0 ad lsR ls m H locs cells slots) (hst : ∀ v ∈ st, okV m.2.1 v)
    (h : sI tb (.arraylength) ls st m = some (φ, ls', st', m')) (hφ : φ) (hd : decode cc pc = .ok (raw, len)) (hk : iOK own ini lg nL raw len (.arraylength)) (hr : m'.2.2.1 ≤ R.cells + c0 ∧ m'.2.2.2 ≤ R.slots + w0)
    (kk : ∀ ad' lsR' H' locs' cells' slots', (∀ k, k < m.2.1 → ad' k = ad k) → ST D ka xa zv A s lg nL c0 w0 ad' lsR' ls' m' H' locs' cells' slots' → (∀ v ∈ st', okV m'.2.1 v) → W p l e R s mI args below meth c H' locs' cells' slots' Q (F0 mI (pc + len) lsR' (st'.map (rv ad' xa zv)))) :
    W p l e R s mI args below meth c H locs cells slots Q (F0 mI pc lsR (st.map (rv ad xa zv))) := by
  obtain ⟨hx, hb, hml, hown, hts, hlocks, hin, hfr, hlo⟩ := hF
  obtain ⟨hL, hP, hD, hM, hokL, hLG, hVS, hc0, hw0⟩ := id hS
  dsimp only [sI] at h
  obtain ⟨rfl, rfl⟩ := hk
  split at h
  next a st0 =>
    split at h
    next kd len f e1 =>
      obtain ⟨rfl, rfl, rfl, rfl⟩ := h
      have ha := sm_ltA hM e1
      have hgt := wsA_get (ad := ad) (xa := xa) (zv := zv) (ka := ka) ha
      rw [e1] at hgt
      have hok := hM.1 a ha
      rw [e1] at hok
      have fin := kk ad lsR H locs cells slots (fun _ _ => rfl) hS (fun w hv => (List.mem_cons.mp hv).elim (fun q => by rw [q]; trivial) (fun hv => hst w (List.mem_cons_of_mem _ hv)))
      rcases kd with _ | (_ | kd)
      · exact va_alen hx hb hG.1 hP a 0 hgt rfl (v := Int32.ofInt len) (nt_nat len) hd fin
      · exact va_alen hx hb hG.1 hP a 1 hgt rfl (v := Int32.ofInt len) (nt_nat len) hd fin
      · exact va_alen hx hb hG.1 hP a 2 hgt rfl (v := Int32.ofInt len) (nt_nat len) hd fin
    next => cases h
  next st0 =>
    obtain ⟨rfl, rfl, rfl, rfl⟩ := h
    exact va_tlen hx hb hG.2.1.1 hVS (v := Int32.ofInt tb.2.2.1) (nt_nat _) hd (kk ad lsR H locs cells slots (fun _ _ => rfl) hS (fun w hv => (List.mem_cons.mp hv).elim (fun q => by rw [q]; trivial) (fun hv => hst w (List.mem_cons_of_mem _ hv))))
  next st0 =>
    obtain ⟨rfl, rfl, rfl, rfl⟩ := h
    exact va_tlen hx hb hG.2.2.1.1 hVS (v := Int32.ofInt 7) (nt_nat 7) hd (kk ad lsR H locs cells slots (fun _ _ => rfl) hS (fun w hv => (List.mem_cons.mp hv).elim (fun q => by rw [q]; trivial) (fun hv => hst w (List.mem_cons_of_mem _ hv))))
  next x st0 =>
    obtain ⟨rfl, rfl, rfl, rfl⟩ := h
    obtain ⟨h1, h2⟩ := hφ
    obtain ⟨k, rfl⟩ : ∃ k, x = 2 * k + 1 := ⟨x / 2, by omega⟩
    have e2 : (2 * k + 1) / 2 = k := by omega
    rw [e2] at h2 kk
    rw [hC.1] at kk
    have hT := (hG.2.2.2.2.1 k h2).2.2.2
    exact va_tlen hx hb hT hVS (v := Int32.ofInt (strB k).length) (nt_nat _) hd (kk ad lsR H locs cells slots (fun _ _ => rfl) hS (fun w hv => (List.mem_cons.mp hv).elim (fun q => by rw [q]; trivial) (fun hv => hst w (List.mem_cons_of_mem _ hv))))
  next => cases h

set_option maxHeartbeats 4000000 in
theorem sm_fload0 (hF : FX p R s mI args meth c cc nL own ini) (hG : GF tb D ka xa zv A s s.heap) (hA : ∀ q, s.heap.size ≤ q → A q) (hC : CFacts tb) (hJ : JFacts) (hS : ST D ka xa zv A s lg nL c0 w0 ad lsR ls m H locs cells slots) (hst : ∀ v ∈ st, okV m.2.1 v)
    (h : sI tb (.fload 0) ls st m = some (φ, ls', st', m')) (hφ : φ) (hd : decode cc pc = .ok (raw, len)) (hk : iOK own ini lg nL raw len (.fload 0)) (hr : m'.2.2.1 ≤ R.cells + c0 ∧ m'.2.2.2 ≤ R.slots + w0)
    (kk : ∀ ad' lsR' H' locs' cells' slots', (∀ k, k < m.2.1 → ad' k = ad k) → ST D ka xa zv A s lg nL c0 w0 ad' lsR' ls' m' H' locs' cells' slots' → (∀ v ∈ st', okV m'.2.1 v) → W p l e R s mI args below meth c H' locs' cells' slots' Q (F0 mI (pc + len) lsR' (st'.map (rv ad' xa zv)))) :
    W p l e R s mI args below meth c H locs cells slots Q (F0 mI pc lsR (st.map (rv ad xa zv))) := by
  obtain ⟨hx, hb, hml, hown, hts, hlocks, hin, hfr, hlo⟩ := hF
  obtain ⟨hL, hP, hD, hM, hokL, hLG, hVS, hc0, hw0⟩ := id hS
  rw [sI_fload0] at h
  obtain ⟨q, rfl, rfl, hw⟩ := hk
  split at h
  next x st0 =>
    obtain ⟨rfl, rfl, rfl, rfl⟩ := h
    obtain ⟨h1, h2⟩ := hφ
    obtain ⟨k, rfl⟩ : ∃ k, x = 2 * k := ⟨x / 2, by omega⟩
    have e2 : 2 * k / 2 = k := by omega
    rw [e2] at h2
    exact vk_getf hx hb (hG.2.2.2.2.1 k h2).2.2.1 hVS hown (hts _ hw) (fun x h => h) hd (kk ad lsR H locs cells slots (fun _ _ => rfl) hS (fun w hv => (List.mem_cons.mp hv).elim (fun q => by rw [q]; trivial) (fun hv => hst w (List.mem_cons_of_mem _ hv))))
  next => cases h

set_option maxHeartbeats 4000000 in
theorem sm_fload1 (hF : FX p R s mI args meth c cc nL own ini) (hG : GF tb D ka xa zv A s s.heap) (hA : ∀ q, s.heap.size ≤ q → A q) (hC : CFacts tb) (hJ : JFacts) (hS : ST D ka xa zv A s lg nL c0 w0 ad lsR ls m H locs cells slots) (hst : ∀ v ∈ st, okV m.2.1 v)
    (h : sI tb (.fload 1) ls st m = some (φ, ls', st', m')) (hφ : φ) (hd : decode cc pc = .ok (raw, len)) (hk : iOK own ini lg nL raw len (.fload 1)) (hr : m'.2.2.1 ≤ R.cells + c0 ∧ m'.2.2.2 ≤ R.slots + w0)
    (kk : ∀ ad' lsR' H' locs' cells' slots', (∀ k, k < m.2.1 → ad' k = ad k) → ST D ka xa zv A s lg nL c0 w0 ad' lsR' ls' m' H' locs' cells' slots' → (∀ v ∈ st', okV m'.2.1 v) → W p l e R s mI args below meth c H' locs' cells' slots' Q (F0 mI (pc + len) lsR' (st'.map (rv ad' xa zv)))) :
    W p l e R s mI args below meth c H locs cells slots Q (F0 mI pc lsR (st.map (rv ad xa zv))) := by
  obtain ⟨hx, hb, hml, hown, hts, hlocks, hin, hfr, hlo⟩ := hF
  obtain ⟨hL, hP, hD, hM, hokL, hLG, hVS, hc0, hw0⟩ := id hS
  rw [sI_fload1] at h
  obtain ⟨q, rfl, rfl, hw⟩ := hk
  split at h
  next x st0 =>
    obtain ⟨rfl, rfl, rfl, rfl⟩ := h
    obtain ⟨h1, h2⟩ := hφ
    obtain ⟨k, rfl⟩ : ∃ k, x = 2 * k := ⟨x / 2, by omega⟩
    have e2 : 2 * k / 2 = k := by omega
    rw [e2] at h2
    exact vk_getf hx hb (hG.2.2.2.2.1 k h2).2.1 hVS hown (hts _ hw) (fun x h => h) hd (kk ad lsR H locs cells slots (fun _ _ => rfl) hS (fun w hv => (List.mem_cons.mp hv).elim (fun q => by rw [q]; trivial) (fun hv => hst w (List.mem_cons_of_mem _ hv))))
  next => cases h

set_option maxHeartbeats 4000000 in
theorem sm_newarray {t : ArrayType} (hF : FX p R s mI args meth c cc nL own ini) (hG : GF tb D ka xa zv A s s.heap) (hA : ∀ q, s.heap.size ≤ q → A q) (hC : CFacts tb) (hJ : JFacts) (hS : ST D ka xa zv A s lg nL c0 w0 ad lsR ls m H locs cells slots) (hst : ∀ v ∈ st, okV m.2.1 v)
    (h : sI tb (.newarray t) ls st m = some (φ, ls', st', m')) (hφ : φ) (hd : decode cc pc = .ok (raw, len)) (hk : iOK own ini lg nL raw len (.newarray t)) (hr : m'.2.2.1 ≤ R.cells + c0 ∧ m'.2.2.2 ≤ R.slots + w0)
    (kk : ∀ ad' lsR' H' locs' cells' slots', (∀ k, k < m.2.1 → ad' k = ad k) → ST D ka xa zv A s lg nL c0 w0 ad' lsR' ls' m' H' locs' cells' slots' → (∀ v ∈ st', okV m'.2.1 v) → W p l e R s mI args below meth c H' locs' cells' slots' Q (F0 mI (pc + len) lsR' (st'.map (rv ad' xa zv)))) :
    W p l e R s mI args below meth c H locs cells slots Q (F0 mI pc lsR (st.map (rv ad xa zv))) := by
  obtain ⟨hx, hb, hml, hown, hts, hlocks, hin, hfr, hlo⟩ := hF
  obtain ⟨hL, hP, hD, hM, hokL, hLG, hVS, hc0, hw0⟩ := id hS
  dsimp only [sI] at h
  obtain ⟨rfl, rfl⟩ := hk
  split at h
  next n st0 =>
    split at h
    · obtain ⟨rfl, rfl, rfl, rfl⟩ := h
      have hcl := nt_cl0 hφ.1 (show n < 2147483648 by omega)
      have hr1 : m.2.2.1 + 1 ≤ R.cells + c0 := hr.1
      have hr2 : m.2.2.2 + n.toNat ≤ R.slots + w0 := hr.2
      refine va_newa (atype := .int) hx hb (hts _ (hJ (Cond.arrayClass .int) (by simp))) (ty := .int) rfl hG.1 hP hD hVS hA (n := Int32.ofInt n) (N' := n.toNat) (a0 := (n.toNat, .inl fun _ => 0)) (fun cA => rfl) (nt_nn hφ.1 (by omega)) hcl (by show n.toNat * 4 ≤ _; omega) (by omega) (by omega) hd (fun q cA H1 hK1 hP1 hD1 hS1 => ?_)
      have hcA : cA = ka.1 := by
        have z1 : s.vm.findClass ("[" ++ FieldType.toString .int) = some cA := (hK1.2 4 (cA, .int) rfl).2
        have z2 : s.vm.findClass ("[" ++ FieldType.toString .int) = some ka.1 := (hG.1.2 0 (ka.1, .int) rfl).2
        exact Option.some.inj (z1.symm.trans z2)
      subst hcA
      have e5 := wsA_new (ad := ad) (xa := xa) (zv := zv) (ka := ka) (m := m) hM (c := ca 0 n.toNat (fun _ => 0)) (w := n.toNat) (q := q) (show n.toNat < 2147483648 by omega)
      have hP2 : va_P D vwCl (wsA (up ad m.2.1 q) xa zv ka (mnew m (ca 0 n.toNat (fun _ => 0)) n.toNat)) H1 := by rw [← e5]; exact hP1
      have hD2 : va_D A (wsA (up ad m.2.1 q) xa zv ka (mnew m (ca 0 n.toNat (fun _ => 0)) n.toNat)) := by rw [← e5]; exact hD1
      have hext : ∀ k, k < m.2.1 → up ad m.2.1 q k = ad k := fun k hk => by unfold up; rw [if_neg (by omega)]
      have fin := kk (up ad m.2.1 q) lsR H1 locs (cells + 1) (slots + n.toNat) hext ⟨hL.ext hext hokL, hP2, hD2, hM.new (show n.toNat < 2147483648 by omega), fun v hv => (hokL v hv).le (Nat.le_succ _), hLG, hS1, (by show cells + 1 + c0 = m.2.2.1 + 1; omega), (by show slots + n.toNat + w0 = m.2.2.2 + n.toNat; omega)⟩ (fun w hv => (List.mem_cons.mp hv).elim (fun z => by rw [z]; exact Nat.lt_succ_self _) (fun hv => (hst w (List.mem_cons_of_mem _ hv)).le (Nat.le_succ _)))
      have e6 : (vr m.2.1 :: st0).map (rv (up ad m.2.1 q) xa zv) = .ref q :: st0.map (rv ad xa zv) := by
        rw [List.map_cons, rvs_ext hext (fun w hv => hst w (List.mem_cons_of_mem _ hv))]
        show Value.ref (up ad m.2.1 q m.2.1) :: _ = _
        unfold up
        rw [if_pos rfl]
      rw [e6] at fin
      exact fin
    · obtain ⟨rfl, rfl, rfl, rfl⟩ := h
      have hcl := nt_cl0 hφ.1 (show n < 2147483648 by omega)
      have hr1 : m.2.2.1 + 1 ≤ R.cells + c0 := hr.1
      have hr2 : m.2.2.2 + n.toNat ≤ R.slots + w0 := hr.2
      refine va_newa (atype := .long) hx hb (hts _ (hJ (Cond.arrayClass .long) (by simp))) (ty := .long) rfl hG.1 hP hD hVS hA (n := Int32.ofInt n) (N' := n.toNat) (a0 := (n.toNat, .inr (.inl fun _ => 0))) (fun cA => rfl) (nt_nn hφ.1 (by omega)) hcl (by show n.toNat * 8 ≤ _; omega) (by omega) (by omega) hd (fun q cA H1 hK1 hP1 hD1 hS1 => ?_)
      have hcA : cA = ka.2.1 := by
        have z1 : s.vm.findClass ("[" ++ FieldType.toString .long) = some cA := (hK1.2 4 (cA, .long) rfl).2
        have z2 : s.vm.findClass ("[" ++ FieldType.toString .long) = some ka.2.1 := (hG.1.2 1 (ka.2.1, .long) rfl).2
        exact Option.some.inj (z1.symm.trans z2)
      subst hcA
      have e5 := wsA_new (ad := ad) (xa := xa) (zv := zv) (ka := ka) (m := m) hM (c := ca 1 n.toNat (fun _ => 0)) (w := n.toNat) (q := q) (show n.toNat < 2147483648 by omega)
      have hP2 : va_P D vwCl (wsA (up ad m.2.1 q) xa zv ka (mnew m (ca 1 n.toNat (fun _ => 0)) n.toNat)) H1 := by rw [← e5]; exact hP1
      have hD2 : va_D A (wsA (up ad m.2.1 q) xa zv ka (mnew m (ca 1 n.toNat (fun _ => 0)) n.toNat)) := by rw [← e5]; exact hD1
      have hext : ∀ k, k < m.2.1 → up ad m.2.1 q k = ad k := fun k hk => by unfold up; rw [if_neg (by omega)]
      have fin := kk (up ad m.2.1 q) lsR H1 locs (cells + 1) (slots + n.toNat) hext ⟨hL.ext hext hokL, hP2, hD2, hM.new (show n.toNat < 2147483648 by omega), fun v hv => (hokL v hv).le (Nat.le_succ _), hLG, hS1, (by show cells + 1 + c0 = m.2.2.1 + 1; omega), (by show slots + n.toNat + w0 = m.2.2.2 + n.toNat; omega)⟩ (fun w hv => (List.mem_cons.mp hv).elim (fun z => by rw [z]; exact Nat.lt_succ_self _) (fun hv => (hst w (List.mem_cons_of_mem _ hv)).le (Nat.le_succ _)))
      have e6 : (vr m.2.1 :: st0).map (rv (up ad m.2.1 q) xa zv) = .ref q :: st0.map (rv ad xa zv) := by
        rw [List.map_cons, rvs_ext hext (fun w hv => hst w (List.mem_cons_of_mem _ hv))]
        show Value.ref (up ad m.2.1 q m.2.1) :: _ = _
        unfold up
        rw [if_pos rfl]
      rw [e6] at fin
      exact fin
    · obtain ⟨rfl, rfl, rfl, rfl⟩ := h
      have hcl := nt_cl0 hφ.1 (show n < 2147483648 by omega)
      have hr1 : m.2.2.1 + 1 ≤ R.cells + c0 := hr.1
      have hr2 : m.2.2.2 + n.toNat ≤ R.slots + w0 := hr.2
      refine va_newa (atype := .boolean) hx hb (hts _ (hJ (Cond.arrayClass .boolean) (by simp))) (ty := .boolean) rfl hG.1 hP hD hVS hA (n := Int32.ofInt n) (N' := n.toNat) (a0 := (n.toNat, .inl fun _ => 0)) (fun cA => rfl) (nt_nn hφ.1 (by omega)) hcl (by show n.toNat * 1 ≤ _; omega) (by omega) (by omega) hd (fun q cA H1 hK1 hP1 hD1 hS1 => ?_)
      have hcA : cA = ka.2.2.1 := by
        have z1 : s.vm.findClass ("[" ++ FieldType.toString .boolean) = some cA := (hK1.2 4 (cA, .boolean) rfl).2
        have z2 : s.vm.findClass ("[" ++ FieldType.toString .boolean) = some ka.2.2.1 := (hG.1.2 2 (ka.2.2.1, .boolean) rfl).2
        exact Option.some.inj (z1.symm.trans z2)
      subst hcA
      have e5 := wsA_new (ad := ad) (xa := xa) (zv := zv) (ka := ka) (m := m) hM (c := ca 2 n.toNat (fun _ => 0)) (w := n.toNat) (q := q) (show n.toNat < 2147483648 by omega)
      have hP2 : va_P D vwCl (wsA (up ad m.2.1 q) xa zv ka (mnew m (ca 2 n.toNat (fun _ => 0)) n.toNat)) H1 := by rw [← e5]; exact hP1
      have hD2 : va_D A (wsA (up ad m.2.1 q) xa zv ka (mnew m (ca 2 n.toNat (fun _ => 0)) n.toNat)) := by rw [← e5]; exact hD1
      have hext : ∀ k, k < m.2.1 → up ad m.2.1 q k = ad k := fun k hk => by unfold up; rw [if_neg (by omega)]
      have fin := kk (up ad m.2.1 q) lsR H1 locs (cells + 1) (slots + n.toNat) hext ⟨hL.ext hext hokL, hP2, hD2, hM.new (show n.toNat < 2147483648 by omega), fun v hv => (hokL v hv).le (Nat.le_succ _), hLG, hS1, (by show cells + 1 + c0 = m.2.2.1 + 1; omega), (by show slots + n.toNat + w0 = m.2.2.2 + n.toNat; omega)⟩ (fun w hv => (List.mem_cons.mp hv).elim (fun z => by rw [z]; exact Nat.lt_succ_self _) (fun hv => (hst w (List.mem_cons_of_mem _ hv)).le (Nat.le_succ _)))
      have e6 : (vr m.2.1 :: st0).map (rv (up ad m.2.1 q) xa zv) = .ref q :: st0.map (rv ad xa zv) := by
        rw [List.map_cons, rvs_ext hext (fun w hv => hst w (List.mem_cons_of_mem _ hv))]
        show Value.ref (up ad m.2.1 q m.2.1) :: _ = _
        unfold up
        rw [if_pos rfl]
      rw [e6] at fin
      exact fin
    · cases h
  next => cases h

set_option maxHeartbeats 4000000 in
theorem sm_anewarray {k : Nat} (hF : FX p R s mI args meth c cc nL own ini) (hG : GF tb D ka xa zv A s s.heap) (hA : ∀ q, s.heap.size ≤ q → A q) (hC : CFacts tb) (hJ : JFacts) (hS : ST D ka xa zv A s lg nL c0 w0 ad lsR ls m H locs cells slots) (hst : ∀ v ∈ st, okV m.2.1 v)
    (h : sI tb (.anewarray k) ls st m = some (φ, ls', st', m')) (hφ : φ) (hd : decode cc pc = .ok (raw, len)) (hk : iOK own ini lg nL raw len (.anewarray k)) (hr : m'.2.2.1 ≤ R.cells + c0 ∧ m'.2.2.2 ≤ R.slots + w0)
    (kk : ∀ ad' lsR' H' locs' cells' slots', (∀ k, k < m.2.1 → ad' k = ad k) → ST D ka xa zv A s lg nL c0 w0 ad' lsR' ls' m' H' locs' cells' slots' → (∀ v ∈ st', okV m'.2.1 v) → W p l e R s mI args below meth c H' locs' cells' slots' Q (F0 mI (pc + len) lsR' (st'.map (rv ad' xa zv)))) :
    W p l e R s mI args below meth c H locs cells slots Q (F0 mI pc lsR (st.map (rv ad xa zv))) := by
  obtain ⟨hx, hb, hml, hown, hts, hlocks, hin, hfr, hlo⟩ := hF
  obtain ⟨hL, hP, hD, hM, hokL, hLG, hVS, hc0, hw0⟩ := id hS
  dsimp only [sI] at h
  obtain ⟨q9, rfl, rfl, hw⟩ := hk
  split at h
  next n st0 =>
    obtain ⟨rfl, rfl, rfl, rfl⟩ := h
    have hcl := nt_cl0 hφ.1 (show n < 2147483648 by omega)
    have hr1 : m.2.2.1 + 1 ≤ R.cells + c0 := hr.1
    have hr2 : m.2.2.2 + n.toNat ≤ R.slots + w0 := hr.2
    have hAO : va_AO "SnowNames$World" s := hG.2.2.2.2.2.2.2.2.2.2.1
    refine va_newq hx hb hown (hts _ hw) hAO hG.1 hP hD hVS hA (n := Int32.ofInt n) (N' := n.toNat) (nt_nn hφ.1 (by omega)) hcl (by omega) (by omega) (by omega) hd (fun q cA H1 hK1 hP1 hD1 hS1 => ?_)
    have hcA : cA = ka.2.2.2 := by
      obtain ⟨_, _, -, -, -, z1⟩ := (hK1.2 4 (cA, .object "SnowNames$World") rfl).2
      obtain ⟨_, _, -, -, -, z2⟩ := (hG.1.2 3 (ka.2.2.2, .object "SnowNames$World") rfl).2
      exact Option.some.inj (z1.symm.trans z2)
    subst hcA
    have hokc : okC m.2.1 (cr n.toNat (fun _ => none)) := ⟨by omega, fun j k z => nomatch z⟩
    have e5 := wsA_new (ad := ad) (xa := xa) (zv := zv) (ka := ka) (m := m) hM (c := cr n.toNat (fun _ => none)) (w := n.toNat) (q := q) hokc
    have hP2 : va_P D vwCl (wsA (up ad m.2.1 q) xa zv ka (mnew m (cr n.toNat (fun _ => none)) n.toNat)) H1 := by rw [← e5]; exact hP1
    have hD2 : va_D A (wsA (up ad m.2.1 q) xa zv ka (mnew m (cr n.toNat (fun _ => none)) n.toNat)) := by rw [← e5]; exact hD1
    have hext : ∀ k, k < m.2.1 → up ad m.2.1 q k = ad k := fun k hk => by unfold up; rw [if_neg (by omega)]
    have fin := kk (up ad m.2.1 q) lsR H1 locs (cells + 1) (slots + n.toNat) hext ⟨hL.ext hext hokL, hP2, hD2, hM.new (hokc.le (Nat.le_succ _)), fun v hv => (hokL v hv).le (Nat.le_succ _), hLG, hS1, (by show cells + 1 + c0 = m.2.2.1 + 1; omega), (by show slots + n.toNat + w0 = m.2.2.2 + n.toNat; omega)⟩ (fun w hv => (List.mem_cons.mp hv).elim (fun z => by rw [z]; exact Nat.lt_succ_self _) (fun hv => (hst w (List.mem_cons_of_mem _ hv)).le (Nat.le_succ _)))
    have e6 : (vr m.2.1 :: st0).map (rv (up ad m.2.1 q) xa zv) = .ref q :: st0.map (rv ad xa zv) := by
      rw [List.map_cons, rvs_ext hext (fun w hv => hst w (List.mem_cons_of_mem _ hv))]
      show Value.ref (up ad m.2.1 q m.2.1) :: _ = _
      unfold up
      rw [if_pos rfl]
    rw [e6] at fin
    exact fin
  next => cases h

set_option maxHeartbeats 4000000 in
theorem sm_new {ci : Nat} (hF : FX p R s mI args meth c cc nL own ini) (hG : GF tb D ka xa zv A s s.heap) (hA : ∀ q, s.heap.size ≤ q → A q) (hC : CFacts tb) (hJ : JFacts) (hS : ST D ka xa zv A s lg nL c0 w0 ad lsR ls m H locs cells slots) (hst : ∀ v ∈ st, okV m.2.1 v)
    (h : sI tb (.new ci) ls st m = some (φ, ls', st', m')) (hφ : φ) (hd : decode cc pc = .ok (raw, len)) (hk : iOK own ini lg nL raw len (.new ci)) (hr : m'.2.2.1 ≤ R.cells + c0 ∧ m'.2.2.2 ≤ R.slots + w0)
    (kk : ∀ ad' lsR' H' locs' cells' slots', (∀ k, k < m.2.1 → ad' k = ad k) → ST D ka xa zv A s lg nL c0 w0 ad' lsR' ls' m' H' locs' cells' slots' → (∀ v ∈ st', okV m'.2.1 v) → W p l e R s mI args below meth c H' locs' cells' slots' Q (F0 mI (pc + len) lsR' (st'.map (rv ad' xa zv)))) :
    W p l e R s mI args below meth c H locs cells slots Q (F0 mI pc lsR (st.map (rv ad xa zv))) := by
  obtain ⟨hx, hb, hml, hown, hts, hlocks, hin, hfr, hlo⟩ := hF
  obtain ⟨hL, hP, hD, hM, hokL, hLG, hVS, hc0, hw0⟩ := id hS
  dsimp only [sI] at h
  obtain ⟨q9, r, rfl, rfl, hci, hw⟩ := hk
  obtain ⟨rfl, rfl, rfl, rfl⟩ := h
  obtain ⟨c1, c2, c3, ⟨c4, c4'⟩, ty0, c5, c6, c7⟩ := hC.2 ci _ hci
  have hr1 : m.2.2.1 + 1 ≤ R.cells + c0 := hr.1
  have hr2 : m.2.2.2 + (tb.1 ci).length ≤ R.slots + w0 := hr.2
  refine va_new hx hb hts c1 ty0 c5 hown (hts _ hw) (hts _ c2) (hts _ c3) hG.1 hP hD hVS hA hci (fs := (tb.1 ci).map (rv ad xa zv)) (c7 ad xa zv) (by omega) (by omega) hd (fun q H1 hP1 hD1 hS1 => ?_)
  have hokc : okC m.2.1 (co ci (tb.1 ci)) := ⟨⟨r, hci, c4⟩, fun v hv => (c4' v hv).le (Nat.zero_le _)⟩
  have e5 := wsA_new (ad := ad) (xa := xa) (zv := zv) (ka := ka) (m := m) hM (c := co ci (tb.1 ci)) (w := (tb.1 ci).length) (q := q) hokc
  have hP2 : va_P D vwCl (wsA (up ad m.2.1 q) xa zv ka (mnew m (co ci (tb.1 ci)) (tb.1 ci).length)) H1 := by rw [← e5]; exact hP1
  have hD2 : va_D A (wsA (up ad m.2.1 q) xa zv ka (mnew m (co ci (tb.1 ci)) (tb.1 ci).length)) := by rw [← e5]; exact hD1
  have hext : ∀ k, k < m.2.1 → up ad m.2.1 q k = ad k := fun k hk => by unfold up; rw [if_neg (by omega)]
  have fin := kk (up ad m.2.1 q) lsR H1 locs (cells + 1) (slots + r.2.2) hext ⟨hL.ext hext hokL, hP2, hD2, hM.new (hokc.le (Nat.le_succ _)), fun v hv => (hokL v hv).le (Nat.le_succ _), hLG, hS1, (by show cells + 1 + c0 = m.2.2.1 + 1; omega), (by show slots + r.2.2 + w0 = m.2.2.2 + (tb.1 ci).length; omega)⟩ (fun w hv => (List.mem_cons.mp hv).elim (fun z => by rw [z]; exact Nat.lt_succ_self _) (fun hv => (hst w hv).le (Nat.le_succ _)))
  have e6 : (vr m.2.1 :: st).map (rv (up ad m.2.1 q) xa zv) = .ref q :: st.map (rv ad xa zv) := by
    rw [List.map_cons, rvs_ext hext hst]
    show Value.ref (up ad m.2.1 q m.2.1) :: _ = _
    unfold up
    rw [if_pos rfl]
  rw [e6] at fin
  exact fin

set_option maxHeartbeats 4000000 in
theorem sm_objInit {k : Nat} (hF : FX p R s mI args meth c cc nL own ini) (hG : GF tb D ka xa zv A s s.heap) (hA : ∀ q, s.heap.size ≤ q → A q) (hC : CFacts tb) (hJ : JFacts) (hS : ST D ka xa zv A s lg nL c0 w0 ad lsR ls m H locs cells slots) (hst : ∀ v ∈ st, okV m.2.1 v)
    (h : sI tb (.invokespecial k) ls st m = some (φ, ls', st', m')) (hφ : φ) (hd : decode cc pc = .ok (raw, len)) (hk : iOK own ini lg nL raw len (.invokespecial k)) (hr : m'.2.2.1 ≤ R.cells + c0 ∧ m'.2.2.2 ≤ R.slots + w0)
    (kk : ∀ ad' lsR' H' locs' cells' slots', (∀ k, k < m.2.1 → ad' k = ad k) → ST D ka xa zv A s lg nL c0 w0 ad' lsR' ls' m' H' locs' cells' slots' → (∀ v ∈ st', okV m'.2.1 v) → W p l e R s mI args below meth c H' locs' cells' slots' Q (F0 mI (pc + len) lsR' (st'.map (rv ad' xa zv)))) :
    W p l e R s mI args below meth c H locs cells slots Q (F0 mI pc lsR (st.map (rv ad xa zv))) := by
  obtain ⟨hx, hb, hml, hown, hts, hlocks, hin, hfr, hlo⟩ := hF
  obtain ⟨hL, hP, hD, hM, hokL, hLG, hVS, hc0, hw0⟩ := id hS
  dsimp only [sI] at h
  obtain ⟨q, rfl, rfl, hw⟩ := hk
  split at h
  next a st0 =>
    obtain ⟨rfl, rfl, rfl, rfl⟩ := h
    have hcat := sm_cat ad xa zv st'
    have hφ : st'.length ≤ 8 := hφ
    exact W.objInit hx hb hown (hts _ hw) (hts _ (hJ _ (by simp))) (hts _ (hJ _ (by simp))) (g := F0 mI pc lsR _) rfl (hL.1.trans hml.symm) rfl hd hfr (by show 2 * 0 + _ + 12 ≤ _; omega) (kk ad lsR H locs cells slots (fun _ _ => rfl) hS (fun w hv => hst w (List.mem_cons_of_mem _ hv)))
  next => cases h

set_option maxHeartbeats 4000000 in
theorem sm_mmin (hF : FX p R s mI args meth c cc nL own ini) (hG : GF tb D ka xa zv A s s.heap) (hA : ∀ q, s.heap.size ≤ q → A q) (hC : CFacts tb) (hJ : JFacts) (hS : ST D ka xa zv A s lg nL c0 w0 ad lsR ls m H locs cells slots) (hst : ∀ v ∈ st, okV m.2.1 v)
    (h : sI tb (.invokestatic 0) ls st m = some (φ, ls', st', m')) (hφ : φ) (hd : decode cc pc = .ok (raw, len)) (hk : iOK own ini lg nL raw len (.invokestatic 0)) (hr : m'.2.2.1 ≤ R.cells + c0 ∧ m'.2.2.2 ≤ R.slots + w0)
    (kk : ∀ ad' lsR' H' locs' cells' slots', (∀ k, k < m.2.1 → ad' k = ad k) → ST D ka xa zv A s lg nL c0 w0 ad' lsR' ls' m' H' locs' cells' slots' → (∀ v ∈ st', okV m'.2.1 v) → W p l e R s mI args below meth c H' locs' cells' slots' Q (F0 mI (pc + len) lsR' (st'.map (rv ad' xa zv)))) :
    W p l e R s mI args below meth c H locs cells slots Q (F0 mI pc lsR (st.map (rv ad xa zv))) := by
  obtain ⟨hx, hb, hml, hown, hts, hlocks, hin, hfr, hlo⟩ := hF
  obtain ⟨hL, hP, hD, hM, hokL, hLG, hVS, hc0, hw0⟩ := id hS
  rw [sI_invokestatic0] at h
  obtain ⟨q, rfl, rfl, hw⟩ := hk
  split at h
  next y x st0 =>
    obtain ⟨rfl, rfl, rfl, rfl⟩ := h
    have hcat := sm_cat ad xa zv st0
    obtain ⟨h1, h2, h3⟩ := hφ
    refine va_mmin hx hb (hml.trans hL.1.symm) hown (hts _ hw) (hts _ (hJ _ (by simp))) (hts _ (hJ _ (by simp))) (hts _ (hJ _ (by simp))) hfr (by omega) (by have := hr.1; omega) (by have := hr.2; omega) hd ?_
    rw [nt_min h2 h3]
    exact kk ad lsR H locs cells slots (fun _ _ => rfl) hS (fun w hv => (List.mem_cons.mp hv).elim (fun q => by rw [q]; trivial) (fun hv => hst w (List.mem_cons_of_mem _ (List.mem_cons_of_mem _ hv))))
  next => cases h

set_option maxHeartbeats 4000000 in
theorem sm_mmax (hF : FX p R s mI args meth c cc nL own ini) (hG : GF tb D ka xa zv A s s.heap) (hA : ∀ q, s.heap.size ≤ q → A q) (hC : CFacts tb) (hJ : JFacts) (hS : ST D ka xa zv A s lg nL c0 w0 ad lsR ls m H locs cells slots) (hst : ∀ v ∈ st, okV m.2.1 v)
    (h : sI tb (.invokestatic 1) ls st m = some (φ, ls', st', m')) (hφ : φ) (hd : decode cc pc = .ok (raw, len)) (hk : iOK own ini lg nL raw len (.invokestatic 1)) (hr : m'.2.2.1 ≤ R.cells + c0 ∧ m'.2.2.2 ≤ R.slots + w0)
    (kk : ∀ ad' lsR' H' locs' cells' slots', (∀ k, k < m.2.1 → ad' k = ad k) → ST D ka xa zv A s lg nL c0 w0 ad' lsR' ls' m' H' locs' cells' slots' → (∀ v ∈ st', okV m'.2.1 v) → W p l e R s mI args below meth c H' locs' cells' slots' Q (F0 mI (pc + len) lsR' (st'.map (rv ad' xa zv)))) :
    W p l e R s mI args below meth c H locs cells slots Q (F0 mI pc lsR (st.map (rv ad xa zv))) := by
  obtain ⟨hx, hb, hml, hown, hts, hlocks, hin, hfr, hlo⟩ := hF
  obtain ⟨hL, hP, hD, hM, hokL, hLG, hVS, hc0, hw0⟩ := id hS
  rw [sI_invokestatic1] at h
  obtain ⟨q, rfl, rfl, hw⟩ := hk
  split at h
  next y x st0 =>
    obtain ⟨rfl, rfl, rfl, rfl⟩ := h
    have hcat := sm_cat ad xa zv st0
    obtain ⟨h1, h2, h3⟩ := hφ
    refine va_mmax hx hb (hml.trans hL.1.symm) hown (hts _ hw) (hts _ (hJ _ (by simp))) (hts _ (hJ _ (by simp))) (hts _ (hJ _ (by simp))) hfr (by omega) (by have := hr.1; omega) (by have := hr.2; omega) hd ?_
    rw [nt_max h2 h3]
    exact kk ad lsR H locs cells slots (fun _ _ => rfl) hS (fun w hv => (List.mem_cons.mp hv).elim (fun q => by rw [q]; trivial) (fun hv => hst w (List.mem_cons_of_mem _ (List.mem_cons_of_mem _ hv))))
  next => cases h

set_option maxHeartbeats 4000000 in
theorem sm_arraycopy (hF : FX p R s mI args meth c cc nL own ini) (hG : GF tb D ka xa zv A s s.heap) (hA : ∀ q, s.heap.size ≤ q → A q) (hC : CFacts tb) (hJ : JFacts) (hS : ST D ka xa zv A s lg nL c0 w0 ad lsR ls m H locs cells slots) (hst : ∀ v ∈ st, okV m.2.1 v)
    (h : sI tb (.invokestatic 2) ls st m = some (φ, ls', st', m')) (hφ : φ) (hd : decode cc pc = .ok (raw, len)) (hk : iOK own ini lg nL raw len (.invokestatic 2)) (hr : m'.2.2.1 ≤ R.cells + c0 ∧ m'.2.2.2 ≤ R.slots + w0)
    (kk : ∀ ad' lsR' H' locs' cells' slots', (∀ k, k < m.2.1 → ad' k = ad k) → ST D ka xa zv A s lg nL c0 w0 ad' lsR' ls' m' H' locs' cells' slots' → (∀ v ∈ st', okV m'.2.1 v) → W p l e R s mI args below meth c H' locs' cells' slots' Q (F0 mI (pc + len) lsR' (st'.map (rv ad' xa zv)))) :
    W p l e R s mI args below meth c H locs cells slots Q (F0 mI pc lsR (st.map (rv ad xa zv))) := by
  obtain ⟨hx, hb, hml, hown, hts, hlocks, hin, hfr, hlo⟩ := hF
  obtain ⟨hL, hP, hD, hM, hokL, hLG, hVS, hc0, hw0⟩ := id hS
  rw [sI_invokestatic2] at h
  obtain ⟨q, rfl, rfl, hw⟩ := hk
  split at h
  next n dp b sp a st0 =>
    split at h
    next la f e1 =>
      split at h
      next lb g e2 =>
        obtain ⟨rfl, rfl, rfl, rfl⟩ := h
        have hcat := sm_cat ad xa zv st'
        obtain ⟨h1, ⟨h2, h3, h4⟩, ⟨h5, h6⟩, h7, h8⟩ := hφ
        have ha := sm_ltA hM e1
        have hgt := wsA_get (ad := ad) (xa := xa) (zv := zv) (ka := ka) ha
        rw [e1] at hgt
        have hb9 := sm_ltA hM e2
        have hgb := wsA_get (ad := ad) (xa := xa) (zv := zv) (ka := ka) hb9
        rw [e2] at hgb
        have nf : nativeFrameWords "java/lang/System" "arraycopy" 5 ≤ 100 := by decide
        have z1 := nt_cl0 h2 (show n < 2147483648 by omega)
        have z2 := nt_cl0 h3 (show sp < 2147483648 by omega)
        have z3 := nt_cl0 h4 (show dp < 2147483648 by omega)
        refine va_copyi hx hb (hml.trans hL.1.symm) hown (hts _ hw) (hts _ (hJ _ (by simp))) (hts _ (hJ _ (by simp))) (hts _ (hJ _ (by simp))) hG.1 hP hD hVS a b 0 0 (ty := .int) hgt hgb rfl rfl rfl (nt_nn h3 (by omega)) (nt_nn h4 (by omega)) (nt_nn h2 (by omega)) (by rw [z1, z2]; omega) (by rw [z1, z3]; omega) (fun _ _ => rfl) hfr (by omega) hd (fun H1 locs1 hP1 hD1 hS1 => ?_)
        rw [z1, z2, z3] at hP1 hD1
        have ee : va_cpy (fun k => Int32.ofInt (f k)) (fun k => Int32.ofInt (g k)) sp.toNat dp.toNat n.toNat = fun k => Int32.ofInt (cpyI f g sp.toNat dp.toNat n.toNat k) := by
          funext k
          unfold va_cpy cpyI
          split <;> rfl
        rw [ee] at hP1 hD1
        have e5 := wsA_set (ad := ad) (xa := xa) (zv := zv) (ka := ka) (m := m) (a := b) (c := ca 0 lb (cpyI f g sp.toNat dp.toNat n.toNat))
        have hP2 : va_P D vwCl (wsA ad xa zv ka (mset m b (ca 0 lb (cpyI f g sp.toNat dp.toNat n.toNat)))) H1 := by rw [← e5]; exact hP1
        have hD2 : va_D A (wsA ad xa zv ka (mset m b (ca 0 lb (cpyI f g sp.toNat dp.toNat n.toNat)))) := by rw [← e5]; exact hD1
        exact kk ad lsR H1 locs1 cells slots (fun _ _ => rfl) ⟨hL, hP2, hD2, hM.set hb9 (show lb < 2147483648 by omega), hokL, hLG, hS1, hc0, hw0⟩ (fun w hv => hst w (List.mem_cons_of_mem _ (List.mem_cons_of_mem _ (List.mem_cons_of_mem _ (List.mem_cons_of_mem _ (List.mem_cons_of_mem _ hv))))))
      next => cases h
    next => cases h
  next => cases h

set_option maxHeartbeats 4000000 in
theorem sm_checkcast {k : Nat} (hF : FX p R s mI args meth c cc nL own ini) (hG : GF tb D ka xa zv A s s.heap) (hA : ∀ q, s.heap.size ≤ q → A q) (hC : CFacts tb) (hJ : JFacts) (hS : ST D ka xa zv A s lg nL c0 w0 ad lsR ls m H locs cells slots) (hst : ∀ v ∈ st, okV m.2.1 v)
    (h : sI tb (.checkcast k) ls st m = some (φ, ls', st', m')) (hφ : φ) (hd : decode cc pc = .ok (raw, len)) (hk : iOK own ini lg nL raw len (.checkcast k)) (hr : m'.2.2.1 ≤ R.cells + c0 ∧ m'.2.2.2 ≤ R.slots + w0)
    (kk : ∀ ad' lsR' H' locs' cells' slots', (∀ k, k < m.2.1 → ad' k = ad k) → ST D ka xa zv A s lg nL c0 w0 ad' lsR' ls' m' H' locs' cells' slots' → (∀ v ∈ st', okV m'.2.1 v) → W p l e R s mI args below meth c H' locs' cells' slots' Q (F0 mI (pc + len) lsR' (st'.map (rv ad' xa zv)))) :
    W p l e R s mI args below meth c H locs cells slots Q (F0 mI pc lsR (st.map (rv ad xa zv))) := by
  obtain ⟨hx, hb, hml, hown, hts, hlocks, hin, hfr, hlo⟩ := hF
  obtain ⟨hL, hP, hD, hM, hokL, hLG, hVS, hc0, hw0⟩ := id hS
  dsimp only [sI] at h
  obtain ⟨q, rfl, rfl, hw⟩ := hk
  split at h
  next a st0 =>
    split at h
    next len f e1 =>
      obtain ⟨rfl, rfl, rfl, rfl⟩ := h
      have ha := sm_ltA hM e1
      have hgt := wsA_get (ad := ad) (xa := xa) (zv := zv) (ka := ka) ha
      rw [e1] at hgt
      have hok := hM.1 a ha
      rw [e1] at hok
      have hnm : s.vm.findClass "[I" = some ka.1 := (hG.1.2 0 (ka.1, .int) rfl).2
      exact va_castA hx hb hown (hts _ hw) hP a hgt hnm hd (kk ad lsR H locs cells slots (fun _ _ => rfl) hS hst)
    next => cases h
  next => cases h

set_option maxHeartbeats 4000000 in
theorem sm_clone (hF : FX p R s mI args meth c cc nL own ini) (hG : GF tb D ka xa zv A s s.heap) (hA : ∀ q, s.heap.size ≤ q → A q) (hC : CFacts tb) (hJ : JFacts) (hS : ST D ka xa zv A s lg nL c0 w0 ad lsR ls m H locs cells slots) (hst : ∀ v ∈ st, okV m.2.1 v)
    (h : sI tb (.invokestatic 3) ls st m = some (φ, ls', st', m')) (hφ : φ) (hd : decode cc pc = .ok (raw, len)) (hk : iOK own ini lg nL raw len (.invokestatic 3)) (hr : m'.2.2.1 ≤ R.cells + c0 ∧ m'.2.2.2 ≤ R.slots + w0)
    (kk : ∀ ad' lsR' H' locs' cells' slots', (∀ k, k < m.2.1 → ad' k = ad k) → ST D ka xa zv A s lg nL c0 w0 ad' lsR' ls' m' H' locs' cells' slots' → (∀ v ∈ st', okV m'.2.1 v) → W p l e R s mI args below meth c H' locs' cells' slots' Q (F0 mI (pc + len) lsR' (st'.map (rv ad' xa zv)))) :
    W p l e R s mI args below meth c H locs cells slots Q (F0 mI pc lsR (st.map (rv ad xa zv))) := by
  obtain ⟨hx, hb, hml, hown, hts, hlocks, hin, hfr, hlo⟩ := hF
  obtain ⟨hL, hP, hD, hM, hokL, hLG, hVS, hc0, hw0⟩ := id hS
  rw [sI_invokestatic3] at h
  obtain ⟨q9, rfl, rfl, hw⟩ := hk
  split at h
  next a st0 =>
    split at h
    next len f e1 =>
      obtain ⟨rfl, rfl, rfl, rfl⟩ := h
      have hcat := sm_cat ad xa zv st0
      obtain ⟨h1, h2⟩ := hφ
      have ha := sm_ltA hM e1
      have hgt := wsA_get (ad := ad) (xa := xa) (zv := zv) (ka := ka) ha
      rw [e1] at hgt
      have hok := hM.1 a ha
      rw [e1] at hok
      have hnm : s.vm.findClass "[I" = some ka.1 := (hG.1.2 0 (ka.1, .int) rfl).2
      have hr1 : m.2.2.1 + 1 ≤ R.cells + c0 := hr.1
      have hr2 : m.2.2.2 + len ≤ R.slots + w0 := hr.2
      have hcl : va_Nw (.castable "[I" "java/lang/Cloneable") s := hG.2.2.2.2.2.2.2.2.2.2.2 _ (by simp [nwL])
      refine va_clone hx hb (hml.trans hL.1.symm) hown (ad := "[I") (hts _ hw) (hts _ (hJ _ (by simp))) (hts _ (hJ _ (by simp))) (hts _ (hJ _ (by simp))) (hts _ (hJ _ (by simp))) hcl hG.1 hP hD hVS hA a 0 (ty := .int) hgt rfl hnm (fun i v hv => ?_) hfr (by omega) (by omega) (by show slots + len ≤ _; omega) hd (fun q H1 hK1 hP1 hD1 hS1 => ?_)
      · by_cases hi : i < len
        · have hv2 : (arrV ka.1 len (fun j => .int (Int32.ofInt (f j)))).slots[i]? = some v := hv
          rw [arrV_read _ _ hi] at hv2
          cases hv2
          rfl
        · have hv2 : (arrV ka.1 len (fun j => .int (Int32.ofInt (f j)))).slots[i]? = some v := hv
          rw [Array.getElem?_eq_none (by rw [arrV_size]; omega)] at hv2
          cases hv2
      have e5 := wsA_new (ad := ad) (xa := xa) (zv := zv) (ka := ka) (m := m) hM (c := ca 0 len f) (w := len) (q := q) hok
      have hP2 : va_P D vwCl (wsA (up ad m.2.1 q) xa zv ka (mnew m (ca 0 len f) len)) H1 := by rw [← e5]; exact hP1
      have hD2 : va_D A (wsA (up ad m.2.1 q) xa zv ka (mnew m (ca 0 len f) len)) := by rw [← e5]; exact hD1
      have hext : ∀ k, k < m.2.1 → up ad m.2.1 q k = ad k := fun k hk => by unfold up; rw [if_neg (by omega)]
      have fin := kk (up ad m.2.1 q) lsR H1 locs (cells + 1) (slots + len) hext ⟨hL.ext hext hokL, hP2, hD2, hM.new hok, fun v hv => (hokL v hv).le (Nat.le_succ _), hLG, hS1, (by show cells + 1 + c0 = m.2.2.1 + 1; omega), (by show slots + len + w0 = m.2.2.2 + len; omega)⟩ (fun w hv => (List.mem_cons.mp hv).elim (fun z => by rw [z]; exact Nat.lt_succ_self _) (fun hv => (hst w (List.mem_cons_of_mem _ hv)).le (Nat.le_succ _)))
      have e6 : (vr m.2.1 :: st0).map (rv (up ad m.2.1 q) xa zv) = .ref q :: st0.map (rv ad xa zv) := by
        rw [List.map_cons, rvs_ext hext (fun w hv => hst w (List.mem_cons_of_mem _ hv))]
        show Value.ref (up ad m.2.1 q m.2.1) :: _ = _
        unfold up
        rw [if_pos rfl]
      rw [e6] at fin
      exact fin
    next => cases h
  next => cases h

end SimStep2
