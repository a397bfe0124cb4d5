/-! ===== CHECKS BY PROGRAM: what leaves a block ===== -/
/-- the words of a method that is called -/
def MWok (mt : MTab) (rcv : Nat → Option Nat) (k : Nat) : Prop :=
  ((mt k).2.2.2.2.2.1 = 0 ∧ Jvm.Cond.static (mt k).1 ∈ AWs) ∨
  ((mt k).2.2.2.2.2.1 = 1 ∧ (Jvm.Cond.instanceMethod (mt k).1 ∈ AWs ∧ Jvm.Cond.selects (mt k).1.cls (mt k).1 (mt k).1 ∈ AWs) ∧ ((∃ ci r, rcv k = some ci ∧ ci ≠ 100 ∧ vwCl[ci]? = some r ∧ r.1 = (mt k).1.cls) ∨ (rcv k = some 100 ∧ (mt k).1.cls = "java/lang/String"))) ∨
  ((mt k).2.2.2.2.2.1 = 2 ∧ (mt k).2.2.2.1 = none ∧ (mt k).1.name = "<init>" ∧ (∃ ci, rcv k = some ci ∧ ci ≠ 100) ∧ Jvm.Cond.instanceMethod (mt k).1 ∈ AWs) ∨
  ((mt k).2.2.2.2.2.1 = 3 ∧ Jvm.Cond.static (mt k).1 ∈ AWs)
def passB (cp : List CPE) (pc E : Nat) (z : ExceptionTableEntry) : Bool := !covers z pc || (decide (z.catchType ≠ 0) && (match lk z.catchType cp with
  | some (12, F) => decide (0 ≤ F) && decide (F < 5) && decide (F.toNat ≠ E)
  | _ => false))
def exCk (cp : List CPE) (cc : ByteArray) (nL : Nat) (lgs : List Nat) (pc E : Nat) (hsE : Option (Nat × Nat)) : List ExceptionTableEntry → Bool
  | [] => hsE.isNone
  | z :: zs => if passB cp pc E z = true then exCk cp cc nL lgs pc E hsE zs else match hsE with
    | none => false
    | some (j, L) => covers z pc && decide (z.catchType ≠ 0) && decide (lk z.catchType cp = some (12, (E : Int))) && Nat.ble (j + 1) nL && (lgs.all fun i => !(Nat.beq (i + 1) j)) && (match decode cc z.handlerPc with
      | .ok (.astore j', n) => Nat.beq n 2 && Nat.beq j' j && Nat.beq (z.handlerPc + 2) L
      | .ok (.astore_n f, n) => Nat.beq n 1 && Nat.beq (f : Nat) j && Nat.beq (z.handlerPc + 1) L
      | _ => false)
def tgtB (pc : Nat) (off t : Int) : Bool := decide ((pc : Int) + off = t) && decide (0 ≤ t)
def cCk (mt : MTab) (nM : Nat) (cp : List CPE) (hs : Nat → Option (Nat × Nat)) (cc : ByteArray) (nL : Nat) (lgs : List Nat) (ret : Option FieldType) (hh : List (Nat × Nat × Nat × Nat)) (pc : Nat) (raw : Instr) (len : Nat) (i : Instr) : Bool :=
  match i with
  | .goto t => match raw with
    | .goto off => Nat.beq len 3 && tgtB pc off t
    | _ => false
  | .ifCond c t => match raw with
    | .ifCond c' off => decide (c' = c) && Nat.beq len 3 && tgtB pc off t
    | _ => false
  | .if_icmp c t => match raw with
    | .if_icmp c' off => decide (c' = c) && Nat.beq len 3 && tgtB pc off t
    | _ => false
  | .ifnull t => match raw with
    | .ifnull off => Nat.beq len 3 && tgtB pc off t
    | _ => false
  | .ifnonnull t => match raw with
    | .ifnonnull off => Nat.beq len 3 && tgtB pc off t
    | _ => false
  | .lookupswitch d ps => decide (0 ≤ d) && (ps.toList.all fun q => decide (0 ≤ q.2)) && (match raw with
    | .lookupswitch d0 ps0 => (ps0.toList.zip (ps0.toList.drop 1)).all (fun (a, next) => a.1 < next.1) && decide ((pc : Int) + d0 = d) && decide (ps.toList = ps0.toList.map fun q => (q.1, (pc : Int) + q.2))
    | .tableswitch d0 lo hi offs => decide ((pc : Int) + d0 = d) && decide (hi = lo + offs.size - 1) && decide (ps.toList = (List.range offs.size).map fun (j : Nat) => (lo + (j : Int), (pc : Int) + offs.getD j 0))
    | _ => false)
  | .ireturn => decide (raw = .ireturn) && Nat.beq len 1 && decide (ret = some .int)
  | .freturn => decide (raw = .ireturn) && Nat.beq len 1 && decide (ret = some .boolean)
  | .dreturn => decide (raw = .ireturn) && Nat.beq len 1 && decide (ret = some .byte)
  | .lreturn => decide (raw = .ireturn) && Nat.beq len 1 && decide (ret = some .char)
  | .areturn => decide (raw = .areturn) && Nat.beq len 1 && (match ret with
    | some (.object _) => true
    | some (.array _) => true
    | _ => false)
  | .return_ => decide (raw = .return_) && Nat.beq len 1 && decide (ret = none)
  | .invokeinterface k n => Nat.beq len 3 && Nat.ble (k + 1) nM && ((List.range 5).all fun E => exCk cp cc nL lgs pc E (hs E) (tableOf hh)) && (match raw with
    | .invokestatic q => decide (lk q cp = some (2, (k : Int))) && (Nat.beq (mt k).2.2.2.2.2.1 0 || Nat.beq (mt k).2.2.2.2.2.1 3) && Nat.beq n (mt k).2.2.2.2.2.2
    | .invokevirtual q => decide (lk q cp = some (2, (k : Int))) && Nat.beq (mt k).2.2.2.2.2.1 1 && Nat.beq n ((mt k).2.2.2.2.2.2 + 1)
    | .invokespecial q => (decide (lk q cp = some (2, (k : Int))) || decide (lk q cp = some (20, (k : Int)))) && Nat.beq (mt k).2.2.2.2.2.1 2 && Nat.beq n ((mt k).2.2.2.2.2.2 + 1)
    | _ => false)
  | .invokedynamic E => hh.isEmpty && Nat.ble (E + 1) 5 && (match raw with
    | .new ik => Nat.beq len 3 && decide (lk ik cp = some (12, (E : Int))) && decide (decode cc (pc + 3) = .ok (.dup, 1)) && (match decode cc (pc + 4) with
      | .ok (.ldc is, n) => Nat.beq n 2 && (match lk is cp with
        | some (4, _) => (match decode cc (pc + 6) with
          | .ok (.invokespecial ic, n2) => Nat.beq n2 3 && decide (lk ic cp = some (21, (E : Int))) && decide (decode cc (pc + 9) = .ok (.athrow, 1))
          | _ => false)
        | _ => false)
      | .ok (.ldc_w is, n) => Nat.beq n 3 && (match lk is cp with
        | some (4, _) => (match decode cc (pc + 7) with
          | .ok (.invokespecial ic, n2) => Nat.beq n2 3 && decide (lk ic cp = some (21, (E : Int))) && decide (decode cc (pc + 10) = .ok (.athrow, 1))
          | _ => false)
        | _ => false)
      | _ => false)
    | _ => false)
  | _ => false
/-- what is needed of the exceptions' classes -/
def EFacts : Prop := ∀ E, E < 5 → Jvm.Cond.initialized (excN E) ∈ AWs ∧ Jvm.Cond.castable (excN E) (excN E) ∈ nwL ∧ ∀ own ic, Jvm.Cond.methodLink own ic (Bundle.initS (excN E)) ∈ AWs → ∀ w ∈ vx_atE own ic E, w ∈ AWs ∨ (w ∈ nwL ∧ w.onTables = true)
theorem passB_ok {mt : MTab} {own : String} {cp : List CPE} (hcp : cp.all (cpCk mt own) = true) {pc E : Nat} {z : ExceptionTableEntry} (h : passB cp pc E z = true) : passes own pc E z := by
  unfold passB at h
  rw [Bool.or_eq_true] at h
  rcases h with h | h
  · refine Or.inl ?_
    cases h9 : covers z pc with
    | false => rfl
    | true => rw [h9] at h; cases h
  · rw [Bool.and_eq_true] at h
    obtain ⟨h1, h2⟩ := h
    split at h2
    next F hF =>
      simp only [Bool.and_eq_true, decide_eq_true_eq] at h2
      exact Or.inr ⟨of_decide_eq_true h1, F.toNat, by omega, h2.2, lk_ok hcp hF⟩
    next => cases h2
theorem exCk_ok {mt : MTab} {own : String} {cp : List CPE} (hcp : cp.all (cpCk mt own) = true) (hE : EFacts) {cc : ByteArray} {nL : Nat} {lgs : List Nat} {pc E : Nat} {hsE : Option (Nat × Nat)} (hE5 : E < 5) : ∀ zs : List ExceptionTableEntry, exCk cp cc nL lgs pc E hsE zs = true → match hsE with
      | none => ∀ z ∈ zs, passes own pc E z
      | some (j, L) => ∃ pre x suf, zs = pre ++ x :: suf ∧ (∀ z ∈ pre, passes own pc E z) ∧ covers x pc = true ∧ x.catchType ≠ 0 ∧ Cond.classLink own x.catchType (excN E) ∈ AWs ∧ Cond.castable (excN E) (excN E) ∈ nwL ∧ j < nL ∧ (∀ i, lgs.contains i = true → i + 1 ≠ j) ∧
          ((decode cc x.handlerPc = .ok (.astore j, 2) ∧ x.handlerPc + 2 = L) ∨ ∃ f : Fin 4, (f : Nat) = j ∧ decode cc x.handlerPc = .ok (.astore_n f, 1) ∧ x.handlerPc + 1 = L) := by
  intro zs
  induction zs with
  | nil =>
    intro h
    unfold exCk at h
    cases hsE with
    | none => exact fun z hz => nomatch hz
    | some q => cases h
  | cons z zs ih =>
    intro h
    unfold exCk at h
    split at h
    next hp =>
      have h2 := ih h
      have h3 := passB_ok hcp hp
      cases hsE with
      | none => exact fun w hw => (List.mem_cons.mp hw).elim (fun e => by rw [e]; exact h3) (h2 w)
      | some q =>
        obtain ⟨j, L⟩ := q
        obtain ⟨pre, x, suf, e1, e2, e3⟩ := h2
        exact ⟨z :: pre, x, suf, by rw [e1]; rfl, fun w hw => (List.mem_cons.mp hw).elim (fun e => by rw [e]; exact h3) (e2 w), e3⟩
    next hp =>
      split at h
      next => cases h
      next j L =>
        rw [Bool.and_eq_true, Bool.and_eq_true, Bool.and_eq_true, Bool.and_eq_true, Bool.and_eq_true] at h
        obtain ⟨⟨⟨⟨⟨h1, h2⟩, h3⟩, h4⟩, h5⟩, h6⟩ := h
        have h2 := of_decide_eq_true h2
        have h3 := of_decide_eq_true h3
        have h7 := lk_ok hcp h3
        unfold cpOK cpW at h7
        simp only [Int.toNat_natCast] at h7
        refine ⟨[], z, zs, rfl, (fun w hw => nomatch hw), h1, h2, h7, (hE E hE5).2.1, Nat.le_of_ble_eq_true h4, lgn_ok h5, ?_⟩
        split at h6
        next j' n hd =>
          simp only [Bool.and_eq_true] at h6
          obtain ⟨⟨g1, g2⟩, g3⟩ := h6
          cases Nat.eq_of_beq_eq_true g1
          cases Nat.eq_of_beq_eq_true g2
          exact Or.inl ⟨hd, Nat.eq_of_beq_eq_true g3⟩
        next f n hd =>
          simp only [Bool.and_eq_true] at h6
          obtain ⟨⟨g1, g2⟩, g3⟩ := h6
          cases Nat.eq_of_beq_eq_true g1
          exact Or.inr ⟨f, Nat.eq_of_beq_eq_true g2, hd, Nat.eq_of_beq_eq_true g3⟩
        next => cases h6
theorem tgtB_ok {pc : Nat} {off t : Int} (h : tgtB pc off t = true) : (pc : Int) + off = t ∧ 0 ≤ t := by
  unfold tgtB at h
  simp only [Bool.and_eq_true, decide_eq_true_eq] at h
  exact h
set_option maxHeartbeats 16000000 in
theorem cCk_ok {mt : MTab} {nM : Nat} {rcv : Nat → Option Nat} {own : String} {cp : List CPE} {hs : Nat → Option (Nat × Nat)} {cc : ByteArray} {lgs : List Nat} {nL : Nat} {ret : Option FieldType} {hh : List (Nat × Nat × Nat × Nat)} {pc : Nat} {raw : Instr} {len : Nat} {i : Instr} (hcp : cp.all (cpCk mt own) = true) (hMW : ∀ k, k < nM → MWok mt rcv k) (hE : EFacts) (hd : decode cc pc = .ok (raw, len))
    (h : cCk mt nM cp hs cc nL lgs ret hh pc raw len i = true) : cOK mt rcv hs own cc nL lgs.contains ret hh pc raw len i := by
  unfold cCk at h
  split at h
  · split at h <;> (try simp only [Bool.and_eq_true] at h)
    · exact ⟨_, rfl, Nat.eq_of_beq_eq_true h.1, tgtB_ok h.2⟩
    · cases h
  · split at h <;> (try simp only [Bool.and_eq_true, decide_eq_true_eq] at h)
    · obtain ⟨⟨rfl, h2⟩, h3⟩ := h
      exact ⟨_, rfl, Nat.eq_of_beq_eq_true h2, tgtB_ok h3⟩
    · cases h
  · split at h <;> (try simp only [Bool.and_eq_true, decide_eq_true_eq] at h)
    · obtain ⟨⟨rfl, h2⟩, h3⟩ := h
      exact ⟨_, rfl, Nat.eq_of_beq_eq_true h2, tgtB_ok h3⟩
    · cases h
  · split at h <;> (try simp only [Bool.and_eq_true] at h)
    · exact ⟨_, rfl, Nat.eq_of_beq_eq_true h.1, tgtB_ok h.2⟩
    · cases h
  · split at h <;> (try simp only [Bool.and_eq_true] at h)
    · exact ⟨_, rfl, Nat.eq_of_beq_eq_true h.1, tgtB_ok h.2⟩
    · cases h
  · rw [Bool.and_eq_true, Bool.and_eq_true] at h
    obtain ⟨⟨h1, h2⟩, h3⟩ := h
    refine ⟨⟨of_decide_eq_true h1, fun q hq => of_decide_eq_true (List.all_eq_true.mp h2 q hq)⟩, ?_⟩
    split at h3
    · rw [Bool.and_eq_true, Bool.and_eq_true] at h3
      exact Or.inl ⟨_, _, rfl, h3.1.1, of_decide_eq_true h3.1.2, of_decide_eq_true h3.2⟩
    · rw [Bool.and_eq_true, Bool.and_eq_true] at h3
      exact Or.inr ⟨_, _, _, _, rfl, of_decide_eq_true h3.1.1, of_decide_eq_true h3.1.2, of_decide_eq_true h3.2⟩
    · cases h3
  · simp only [Bool.and_eq_true, decide_eq_true_eq] at h
    exact ⟨h.1.1, Nat.eq_of_beq_eq_true h.1.2, h.2⟩
  · simp only [Bool.and_eq_true, decide_eq_true_eq] at h
    exact ⟨h.1.1, Nat.eq_of_beq_eq_true h.1.2, h.2⟩
  · simp only [Bool.and_eq_true, decide_eq_true_eq] at h
    exact ⟨h.1.1, Nat.eq_of_beq_eq_true h.1.2, h.2⟩
  · simp only [Bool.and_eq_true, decide_eq_true_eq] at h
    exact ⟨h.1.1, Nat.eq_of_beq_eq_true h.1.2, h.2⟩
  · rw [Bool.and_eq_true, Bool.and_eq_true] at h
    obtain ⟨⟨h1, h2⟩, h3⟩ := h
    refine ⟨of_decide_eq_true h1, Nat.eq_of_beq_eq_true h2, ?_⟩
    split at h3
    · exact ⟨_, rfl, Or.inl ⟨_, rfl⟩⟩
    · exact ⟨_, rfl, Or.inr ⟨_, rfl⟩⟩
    · cases h3
  · simp only [Bool.and_eq_true, decide_eq_true_eq] at h
    exact ⟨h.1.1, Nat.eq_of_beq_eq_true h.1.2, h.2⟩
  · -- a call
    rw [Bool.and_eq_true, Bool.and_eq_true, Bool.and_eq_true] at h
    obtain ⟨⟨⟨h1, h2⟩, h3⟩, h4⟩ := h
    refine ⟨Nat.eq_of_beq_eq_true h1, fun E hE5 => exCk_ok hcp hE hE5 _ (List.all_eq_true.mp h3 E (List.mem_range.mpr hE5)), ?_⟩
    have hw := hMW _ (Nat.le_of_ble_eq_true h2)
    have w2 : ∀ {q k : Nat}, lk q cp = some (2, (k : Int)) → Jvm.Cond.methodLink own q (mt k).1 ∈ AWs := by
      intro q k hq
      have h7 := lk_ok hcp hq
      unfold cpOK cpW at h7
      simp only [Int.toNat_natCast] at h7
      exact h7
    split at h4 <;> (try simp only [Bool.and_eq_true, Bool.or_eq_true, decide_eq_true_eq] at h4)
    · obtain ⟨⟨g1, g2⟩, g3⟩ := h4
      rcases g2 with g2 | g2
      · have g2 := Nat.eq_of_beq_eq_true g2
        rcases hw with ⟨-, hw⟩ | ⟨z, -⟩ | ⟨z, -⟩ | ⟨z, -⟩
        · exact Or.inl ⟨g2, Nat.eq_of_beq_eq_true g3, _, rfl, w2 g1, hw⟩
        · rw [g2] at z; cases z
        · rw [g2] at z; cases z
        · rw [g2] at z; cases z
      · have g2 := Nat.eq_of_beq_eq_true g2
        rcases hw with ⟨z, -⟩ | ⟨z, -⟩ | ⟨z, -⟩ | ⟨-, hw⟩
        · rw [g2] at z; cases z
        · rw [g2] at z; cases z
        · rw [g2] at z; cases z
        · exact Or.inr (Or.inr (Or.inr ⟨g2, Nat.eq_of_beq_eq_true g3, _, rfl, w2 g1, hw⟩))
    · obtain ⟨⟨g1, g2⟩, g3⟩ := h4
      have g2 := Nat.eq_of_beq_eq_true g2
      rcases hw with ⟨z, -⟩ | ⟨-, hw, hw2⟩ | ⟨z, -⟩ | ⟨z, -⟩
      · rw [g2] at z; cases z
      · exact Or.inr (Or.inl ⟨g2, Nat.eq_of_beq_eq_true g3, ⟨_, rfl, w2 g1, hw⟩, hw2⟩)
      · rw [g2] at z; cases z
      · rw [g2] at z; cases z
    · obtain ⟨⟨g1, g2⟩, g3⟩ := h4
      have g2 := Nat.eq_of_beq_eq_true g2
      rcases hw with ⟨z, -⟩ | ⟨z, -⟩ | ⟨-, k1, k2, k3, k4⟩ | ⟨z, -⟩
      · rw [g2] at z; cases z
      · rw [g2] at z; cases z
      · refine Or.inr (Or.inr (Or.inl ⟨g2, Nat.eq_of_beq_eq_true g3, k1, k2, k3, _, rfl, k4, ?_⟩))
        rcases g1 with g1 | g1
        · exact Or.inl (w2 g1)
        · have h7 := lk_ok hcp g1
          unfold cpOK at h7
          simp only [Int.toNat_natCast] at h7
          exact Or.inr h7
      · rw [g2] at z; cases z
    · cases h4
  · -- a throw
    rw [Bool.and_eq_true, Bool.and_eq_true] at h
    obtain ⟨⟨h1, h2⟩, h3⟩ := h
    have hE5 := Nat.le_of_ble_eq_true h2
    refine ⟨List.isEmpty_iff.mp h1, hE5, ?_⟩
    split at h3
    next ik =>
      rw [Bool.and_eq_true, Bool.and_eq_true, Bool.and_eq_true] at h3
      obtain ⟨⟨⟨g0, g1⟩, g2⟩, g3⟩ := h3
      cases Nat.eq_of_beq_eq_true g0
      have w1 := lk_ok hcp (of_decide_eq_true g1)
      unfold cpOK cpW at w1
      simp only [Int.toNat_natCast] at w1
      have w21 : ∀ {ic E : Nat}, lk ic cp = some (21, (E : Int)) → Jvm.Cond.methodLink own ic (Bundle.initS (excN E)) ∈ AWs := by
        intro ic E hq
        have h7 := lk_ok hcp hq
        unfold cpOK cpW at h7
        simp only [Int.toNat_natCast] at h7
        exact h7
      split at g3
      next is n hd4 =>
        rw [Bool.and_eq_true] at g3
        obtain ⟨g4, g5⟩ := g3
        cases Nat.eq_of_beq_eq_true g4
        split at g5
        next sv hs4 =>
          split at g5
          next ic n2 hd6 =>
            simp only [Bool.and_eq_true, decide_eq_true_eq] at g5
            obtain ⟨⟨g6, g7⟩, g8⟩ := g5
            cases Nat.eq_of_beq_eq_true g6
            exact ⟨ik, is, ic, sv.toNat, w1, (hE _ hE5).1, lk_ok hcp hs4, (hE _ hE5).2.2 own ic (w21 g7), hd, of_decide_eq_true g2, Or.inl ⟨hd4, hd6, g8⟩⟩
          next => cases g5
        next => cases g5
      next is n hd4 =>
        rw [Bool.and_eq_true] at g3
        obtain ⟨g4, g5⟩ := g3
        cases Nat.eq_of_beq_eq_true g4
        split at g5
        next sv hs4 =>
          split at g5
          next ic n2 hd6 =>
            simp only [Bool.and_eq_true, decide_eq_true_eq] at g5
            obtain ⟨⟨g6, g7⟩, g8⟩ := g5
            cases Nat.eq_of_beq_eq_true g6
            exact ⟨ik, is, ic, sv.toNat, w1, (hE _ hE5).1, lk_ok hcp hs4, (hE _ hE5).2.2 own ic (w21 g7), hd, of_decide_eq_true g2, Or.inr ⟨hd4, hd6, g8⟩⟩
          next => cases g5
        next => cases g5
      next => cases g3
    next => cases h3
  · cases h
def bChk (mt : MTab) (nM : Nat) (cp : List CPE) (fk : List (Nat × Nat × Bool)) (oci : Nat) (ini : Bool) (lgs : List Nat) (hs : Nat → Option (Nat × Nat)) (cc : ByteArray) (nL : Nat) (ret : Option FieldType) (hh : List (Nat × Nat × Nat × Nat)) : Nat → List Instr → Bool
  | _, [] => true
  | pc, i :: is => if isPs i = true then (match i with
      | .jsr t => decide (t = (pc : Int))
      | _ => true) && bChk mt nM cp fk oci ini lgs hs cc nL ret hh pc is
    else match decode cc pc with
      | .ok (raw, len) => (if isCtl i = true then cCk mt nM cp hs cc nL lgs ret hh pc raw len i else iCk cp fk oci ini lgs nL raw len i) && bChk mt nM cp fk oci ini lgs hs cc nL ret hh (pc + len) is
      | .error _ => false
theorem bChk_ok {mt : MTab} {nM : Nat} {rcv : Nat → Option Nat} {own : String} {cp : List CPE} {fk : List (Nat × Nat × Bool)} {oci : Nat} {ini : Bool} {hs : Nat → Option (Nat × Nat)} {cc : ByteArray} {lgs : List Nat} {nL : Nat} {ret : Option FieldType} {hh : List (Nat × Nat × Nat × Nat)} (hcp : cp.all (cpCk mt own) = true) (hfk : (fk.all fun z => fkCk z.1 z.2) = true) (hoc : ∀ r, vwCl[oci]? = some r → r.1 = own) (hMW : ∀ k, k < nM → MWok mt rcv k) (hE : EFacts) :
    ∀ is pc, bChk mt nM cp fk oci ini lgs hs cc nL ret hh pc is = true → bOK mt rcv hs own ini cc nL lgs.contains ret hh pc is := by
  intro is
  induction is with
  | nil => exact fun _ _ => trivial
  | cons i is ih =>
    intro pc h
    unfold bChk at h
    unfold bOK
    split at h
    next hp =>
      rw [if_pos hp]
      rw [Bool.and_eq_true] at h
      refine ⟨fun t ht => ?_, ih pc h.2⟩
      subst ht
      exact of_decide_eq_true h.1
    next hp =>
      rw [if_neg hp]
      split at h
      next raw len hd =>
        rw [Bool.and_eq_true] at h
        refine ⟨raw, len, hd, ?_, ih _ h.2⟩
        split
        next hc => rw [if_pos hc] at h; exact cCk_ok hcp hMW hE hd h.1
        next hc => rw [if_neg hc] at h; exact iCk_ok hcp hfk hoc h.1
      next => cases h
