/-! ===== THE TABLES ARE RIGHT ===== -/
set_option maxRecDepth 100000 in
theorem cpo0_ok : (cpo0.all (cpCk mt "SnowNames$Days")) = true := by decide +kernel
set_option maxRecDepth 100000 in
theorem cpo1_ok : (cpo1.all (cpCk mt "SnowNames$Debts")) = true := by decide +kernel
set_option maxRecDepth 100000 in
theorem cpo2_ok : (cpo2.all (cpCk mt "SnowNames$Lasting")) = true := by decide +kernel
set_option maxRecDepth 100000 in
theorem cpo3_ok : (cpo3.all (cpCk mt "SnowNames$Law")) = true := by decide +kernel
set_option maxRecDepth 100000 in
theorem cpo4_ok : (cpo4.all (cpCk mt "SnowNames$LawText")) = true := by decide +kernel
set_option maxRecDepth 100000 in
theorem cpo5_ok : (cpo5.all (cpCk mt "SnowNames$Log")) = true := by decide +kernel
set_option maxRecDepth 100000 in
theorem cpo6_ok : (cpo6.all (cpCk mt "SnowNames$Names")) = true := by decide +kernel
set_option maxRecDepth 100000 in
theorem cpo7_ok : (cpo7.all (cpCk mt "SnowNames$ProvinceText")) = true := by decide +kernel
set_option maxRecDepth 100000 in
theorem cpo8_ok : (cpo8.all (cpCk mt "SnowNames$Strikes")) = true := by decide +kernel
set_option maxRecDepth 100000 in
theorem cpo9_ok : (cpo9.all (cpCk mt "SnowNames$Words")) = true := by decide +kernel
set_option maxRecDepth 100000 in
theorem cpo10_ok : (cpo10.all (cpCk mt "SnowNames$World")) = true := by decide +kernel
set_option maxRecDepth 100000 in
theorem cpo11_ok : (cpo11.all (cpCk mt "SnowNames")) = true := by decide +kernel
set_option maxRecDepth 100000 in
theorem cpo12_ok : (cpo12.all (cpCk mt "SnowNamesModel")) = true := by decide +kernel
set_option maxRecDepth 100000 in
theorem cpo13_ok : (cpo13.all (cpCk mt "SnowNamesLaw")) = true := by decide +kernel
set_option maxRecDepth 100000 in
theorem cpo14_ok : (cpo14.all (cpCk mt "java/lang/Integer")) = true := by decide +kernel
set_option maxRecDepth 100000 in
theorem cpo15_ok : (cpo15.all (cpCk mt "java/util/Arrays")) = true := by decide +kernel
set_option maxRecDepth 100000 in
theorem cpo16_ok : (cpo16.all (cpCk mt "java/lang/String")) = true := by decide +kernel
set_option maxRecDepth 100000 in
theorem cpo17_ok : (cpo17.all (cpCk mt "java/lang/StringLatin1")) = true := by decide +kernel
set_option maxRecDepth 100000 in
theorem cpo18_ok : (cpo18.all (cpCk mt "jdk/internal/util/Preconditions")) = true := by decide +kernel
/-- the code word at a place of the tables, but for the bytes -/
def codeCk (i : Nat) (y : MethodName) (n : Nat) (r : Option FieldType) (hh : List (Nat × Nat × Nat × Nat)) (tab : Bool) : Bool := match lw_tbl[i]? with
  | some (.code y' _ n' r') => !tab && decide (y' = y) && Nat.beq n' n && decide (r' = r)
  | some (.codeWith y' _ n' r' hh') => tab && decide (y' = y) && Nat.beq n' n && decide (r' = r) && decide (hh' = hh)
  | _ => false
theorem codeCk_ok {i : Nat} {y : MethodName} {n : Nat} {r : Option FieldType} {hh : List (Nat × Nat × Nat × Nat)} {tab : Bool} (h : codeCk i y n r hh tab = true) : (tab = false ∧ Jvm.Cond.code y (ccAt i) n r ∈ AWs) ∨ (tab = true ∧ Jvm.Cond.codeWith y (ccAt i) n r hh ∈ AWs) := by
  unfold codeCk at h
  unfold ccAt
  split at h
  next y' b n' r' e =>
    simp only [Bool.and_eq_true, decide_eq_true_eq] at h
    obtain ⟨⟨⟨h1, rfl⟩, h3⟩, rfl⟩ := h
    cases Nat.eq_of_beq_eq_true h3
    rw [e]
    exact Or.inl ⟨by simpa using h1, List.mem_filter.mpr ⟨List.mem_of_getElem? e, rfl⟩⟩
  next y' b n' r' hh' e =>
    simp only [Bool.and_eq_true, decide_eq_true_eq] at h
    obtain ⟨⟨⟨⟨h1, rfl⟩, h3⟩, rfl⟩, rfl⟩ := h
    cases Nat.eq_of_beq_eq_true h3
    rw [e]
    exact Or.inr ⟨h1, List.mem_filter.mpr ⟨List.mem_of_getElem? e, rfl⟩⟩
  next => cases h
def mWck (M : Nat) : Bool :=
  codeCk (mx M).1 (mt M).1 (mt M).2.2.1 (mt M).2.2.2.1 (mt M).2.2.2.2.1 (Nat.beq (mt M).2.2.2.2.2.1 3) &&
  (Nat.beq (mt M).2.2.2.2.2.1 3 || (mt M).2.2.2.2.1.isEmpty) &&
  (match (mt M).2.2.2.2.2.1 with
    | 0 => memAt (mx M).2.1 (.static (mt M).1)
    | 3 => memAt (mx M).2.1 (.static (mt M).1)
    | 1 => memAt (mx M).2.1 (.instanceMethod (mt M).1) && memAt (mx M).2.2.1 (.selects (mt M).1.cls (mt M).1 (mt M).1) && (match (mx M).2.2.2.2.1 with
      | some ci => if Nat.beq ci 100 = true then decide ((mt M).1.cls = "java/lang/String") else (match vwCl[ci]? with
        | some r => decide (r.1 = (mt M).1.cls)
        | none => false)
      | none => false)
    | 2 => memAt (mx M).2.1 (.instanceMethod (mt M).1) && decide ((mt M).2.2.2.1 = none) && decide ((mt M).1.name = "<init>") && (match (mx M).2.2.2.2.1 with
      | some ci => !(Nat.beq ci 100)
      | none => false)
    | _ => false) &&
  memAt (mx M).2.2.2.1 (.initialized (mt M).1.cls) && plainName (mt M).1.cls && decide ((mt M).1.cls ≠ "java/lang/invoke/MethodHandle") && decide ((mt M).1.cls ≠ "java/lang/invoke/VarHandle") &&
  (match parseMethodDescriptor (mt M).1.desc with
    | some sig => Nat.beq (mt M).2.2.2.2.2.2 sig.parameters.length
    | none => true) && Nat.ble (mt M).2.2.1 70
def rcvM (M : Nat) : Option Nat := (mx M).2.2.2.2.1
theorem mWck_ok {M : Nat} (h : mWck M = true) : MWok mt rcvM M ∧ plainName (mt M).1.cls = true ∧ ((mt M).1.cls ≠ "java/lang/invoke/MethodHandle" ∧ (mt M).1.cls ≠ "java/lang/invoke/VarHandle") ∧ Jvm.Cond.initialized (mt M).1.cls ∈ AWs ∧ (∀ sig, parseMethodDescriptor (mt M).1.desc = some sig → (mt M).2.2.2.2.2.2 = sig.parameters.length) ∧ (mt M).2.2.1 ≤ 70 ∧
    (((mt M).2.2.2.2.2.1 ≠ 3 ∧ (mt M).2.2.2.2.1 = [] ∧ Jvm.Cond.code (mt M).1 (mt M).2.1 (mt M).2.2.1 (mt M).2.2.2.1 ∈ AWs) ∨ ((mt M).2.2.2.2.2.1 = 3 ∧ Jvm.Cond.codeWith (mt M).1 (mt M).2.1 (mt M).2.2.1 (mt M).2.2.2.1 (mt M).2.2.2.2.1 ∈ AWs)) := by
  unfold mWck at h
  rw [Bool.and_eq_true, Bool.and_eq_true, Bool.and_eq_true, Bool.and_eq_true, Bool.and_eq_true, Bool.and_eq_true, Bool.and_eq_true, Bool.and_eq_true] at h
  obtain ⟨⟨⟨⟨⟨⟨⟨⟨h1, h2⟩, h3⟩, h4⟩, h5⟩, h6⟩, h7⟩, h8⟩, h9⟩ := h
  refine ⟨?_, h5, ⟨of_decide_eq_true h6, of_decide_eq_true h7⟩, memAt_ok h4, ?_, Nat.le_of_ble_eq_true h9, ?_⟩
  · split at h3
    next e => exact Or.inl ⟨e, memAt_ok h3⟩
    next e => exact Or.inr (Or.inr (Or.inr ⟨e, memAt_ok h3⟩))
    next e =>
      rw [Bool.and_eq_true, Bool.and_eq_true] at h3
      obtain ⟨⟨g1, g2⟩, g3⟩ := h3
      refine Or.inr (Or.inl ⟨e, ⟨memAt_ok g1, memAt_ok g2⟩, ?_⟩)
      split at g3
      next ci hci =>
        split at g3
        next hb => exact Or.inr ⟨by unfold rcvM; rw [hci, Nat.eq_of_beq_eq_true hb], of_decide_eq_true g3⟩
        next hb =>
          split at g3
          next r hr => exact Or.inl ⟨ci, r, hci, (fun z => hb (by rw [z]; rfl)), hr, of_decide_eq_true g3⟩
          next => cases g3
      next => cases g3
    next e =>
      rw [Bool.and_eq_true, Bool.and_eq_true, Bool.and_eq_true] at h3
      obtain ⟨⟨⟨g1, g2⟩, g3⟩, g4⟩ := h3
      split at g4
      next ci hci => exact Or.inr (Or.inr (Or.inl ⟨e, of_decide_eq_true g2, of_decide_eq_true g3, ⟨ci, hci, fun z => by rw [z] at g4; cases g4⟩, memAt_ok g1⟩))
      next => cases g4
    next => cases h3
  · intro sig hs
    rw [hs] at h8
    exact Nat.eq_of_beq_eq_true h8
  · rcases codeCk_ok h1 with ⟨e, w⟩ | ⟨e, w⟩
    · rw [Bool.or_eq_true] at h2
      have e' : ¬ (Nat.beq (mt M).2.2.2.2.2.1 3 = true) := by rw [e]; exact Bool.false_ne_true
      exact Or.inl ⟨fun z => e' (by rw [z]; rfl), List.isEmpty_iff.mp (h2.resolve_left e'), w⟩
    · exact Or.inr ⟨Nat.eq_of_beq_eq_true e, w⟩
set_option maxRecDepth 100000 in
theorem mW0 : ((List.range 40).all fun k => mWck (0 + k)) = true := by decide +kernel
set_option maxRecDepth 100000 in
theorem mW1 : ((List.range 40).all fun k => mWck (40 + k)) = true := by decide +kernel
set_option maxRecDepth 100000 in
theorem mW2 : ((List.range 40).all fun k => mWck (80 + k)) = true := by decide +kernel
set_option maxRecDepth 100000 in
theorem mW3 : ((List.range 40).all fun k => mWck (120 + k)) = true := by decide +kernel
set_option maxRecDepth 100000 in
theorem mW4 : ((List.range 40).all fun k => mWck (160 + k)) = true := by decide +kernel
set_option maxRecDepth 100000 in
theorem mW5 : ((List.range 40).all fun k => mWck (200 + k)) = true := by decide +kernel
set_option maxRecDepth 100000 in
theorem mW6 : ((List.range 40).all fun k => mWck (240 + k)) = true := by decide +kernel
set_option maxRecDepth 100000 in
theorem mW7 : ((List.range 40).all fun k => mWck (280 + k)) = true := by decide +kernel
set_option maxRecDepth 100000 in
theorem mW8 : ((List.range 40).all fun k => mWck (320 + k)) = true := by decide +kernel
set_option maxRecDepth 100000 in
theorem mW9 : ((List.range 33).all fun k => mWck (360 + k)) = true := by decide +kernel
theorem mW_all : ∀ M, M < 393 → mWck M = true := by
  intro M h
  by_cases h0 : M < 40
  · have := List.all_eq_true.mp mW0 (M - 0) (List.mem_range.mpr (by omega))
    rwa [show 0 + (M - 0) = M by omega] at this
  by_cases h1 : M < 80
  · have := List.all_eq_true.mp mW1 (M - 40) (List.mem_range.mpr (by omega))
    rwa [show 40 + (M - 40) = M by omega] at this
  by_cases h2 : M < 120
  · have := List.all_eq_true.mp mW2 (M - 80) (List.mem_range.mpr (by omega))
    rwa [show 80 + (M - 80) = M by omega] at this
  by_cases h3 : M < 160
  · have := List.all_eq_true.mp mW3 (M - 120) (List.mem_range.mpr (by omega))
    rwa [show 120 + (M - 120) = M by omega] at this
  by_cases h4 : M < 200
  · have := List.all_eq_true.mp mW4 (M - 160) (List.mem_range.mpr (by omega))
    rwa [show 160 + (M - 160) = M by omega] at this
  by_cases h5 : M < 240
  · have := List.all_eq_true.mp mW5 (M - 200) (List.mem_range.mpr (by omega))
    rwa [show 200 + (M - 200) = M by omega] at this
  by_cases h6 : M < 280
  · have := List.all_eq_true.mp mW6 (M - 240) (List.mem_range.mpr (by omega))
    rwa [show 240 + (M - 240) = M by omega] at this
  by_cases h7 : M < 320
  · have := List.all_eq_true.mp mW7 (M - 280) (List.mem_range.mpr (by omega))
    rwa [show 280 + (M - 280) = M by omega] at this
  by_cases h8 : M < 360
  · have := List.all_eq_true.mp mW8 (M - 320) (List.mem_range.mpr (by omega))
    rwa [show 320 + (M - 320) = M by omega] at this
  by_cases h9 : M < 393
  · have := List.all_eq_true.mp mW9 (M - 360) (List.mem_range.mpr (by omega))
    rwa [show 360 + (M - 360) = M by omega] at this
  omega
theorem hMW : ∀ k, k < 393 → MWok mt rcvM k := fun k h => (mWck_ok (mW_all k h)).1
