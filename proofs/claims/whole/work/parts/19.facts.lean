/-! ===== FACTS OF EXCEPTIONS, OF THE JDK, OF CLASSES, OF METHODS ===== -/
def wCk1 (w : Jvm.Cond) (i : Nat) : Bool := if Nat.beq i 9999 = true then decide (w ∈ nwL) && w.onTables else memAt i w
def zipCk : List Jvm.Cond → List Nat → Bool
  | [], _ => true
  | w :: ws, i :: is => wCk1 w i && zipCk ws is
  | _ :: _, [] => false
theorem zipCk_ok : ∀ (ws : List Jvm.Cond) (is : List Nat), zipCk ws is = true → ∀ w ∈ ws, w ∈ AWs ∨ (w ∈ nwL ∧ w.onTables = true)
  | [], _, _ => fun _ h => nomatch h
  | w :: ws, [], h => by cases h
  | w :: ws, i :: is, h => by
    unfold zipCk at h
    rw [Bool.and_eq_true] at h
    intro v hv
    rcases List.mem_cons.mp hv with e | e
    · subst e
      have h1 := h.1
      unfold wCk1 at h1
      split at h1
      · rw [Bool.and_eq_true] at h1
        exact Or.inr ⟨of_decide_eq_true h1.1, h1.2⟩
      · exact Or.inl (memAt_ok h1)
    · exact zipCk_ok ws is h.2 v e
def zipCkA : List Jvm.Cond → List Nat → Bool
  | [], _ => true
  | w :: ws, i :: is => memAt i w && zipCkA ws is
  | _ :: _, [] => false
theorem zipCkA_ok : ∀ (ws : List Jvm.Cond) (is : List Nat), zipCkA ws is = true → ∀ w ∈ ws, w ∈ AWs
  | [], _, _ => fun _ h => nomatch h
  | w :: ws, [], h => by cases h
  | w :: ws, i :: is, h => by
    unfold zipCkA at h
    rw [Bool.and_eq_true] at h
    intro v hv
    rcases List.mem_cons.mp hv with e | e
    · subst e
      exact memAt_ok h.1
    · exact zipCkA_ok ws is h.2 v e
theorem own_split {own own0 X : String} {ic ic0 : Nat} {names : List String} {w : Jvm.Cond} (h : w ∈ Bundle.ownAtoms own ic X names) : w = Jvm.Cond.methodLink own ic (Bundle.initS X) ∨ w ∈ Bundle.ownAtoms own0 ic0 X names := by
  unfold Bundle.ownAtoms at h ⊢
  rcases List.mem_append.mp h with h | h
  · exact Or.inr (List.mem_append.mpr (Or.inl h))
  · rcases List.mem_cons.mp h with h | h
    · exact Or.inl h
    · exact Or.inr (List.mem_append.mpr (Or.inr (List.mem_cons_of_mem _ h)))
set_option maxRecDepth 100000 in
theorem exW0 : zipCk (vx_atS "SnowNames" 276 (excN 0) (excU 0)) [149, 897, 906, 912, 915, 917, 898, 899, 168, 169, 900, 905, 913, 933, 887, 934, 889, 935, 891, 901, 903, 893, 929, 930, 932, 893, 1311, 1312, 1313, 923, 9999, 923, 924, 925, 926, 9999, 926, 927, 928, 929, 9999, 1310, 1301, 9999, 1303, 908, 1304, 1305, 1306, 1307, 896, 895, 1308] = true := by decide +kernel
set_option maxRecDepth 100000 in
theorem exW1 : zipCk (vx_atS "SnowNames" 114 (excN 1) (excU 1)) [149, 897, 906, 912, 915, 917, 898, 899, 168, 169, 900, 905, 913, 933, 887, 934, 889, 935, 891, 901, 903, 893, 929, 930, 932, 893, 920, 921, 922, 923, 9999, 923, 924, 925, 926, 9999, 926, 927, 928, 929, 9999, 919, 876, 9999, 884, 885, 886, 888, 890, 892, 896, 895, 894] = true := by decide +kernel
set_option maxRecDepth 100000 in
theorem exW2 : zipCk (vx_atS "SnowNames" 244 (excN 2) (excU 2)) [149, 897, 906, 912, 915, 917, 898, 899, 168, 169, 900, 905, 913, 933, 887, 934, 889, 935, 891, 901, 903, 893, 929, 930, 932, 893, 1098, 1099, 1100, 923, 9999, 923, 924, 925, 926, 9999, 926, 927, 928, 929, 9999, 1097, 1088, 9999, 1090, 909, 1091, 1092, 1093, 1094, 896, 895, 1095] = true := by decide +kernel
set_option maxRecDepth 100000 in
theorem exW3 : zipCk (vx_atS "SnowNames" 124 (excN 3) (excU 3)) [149, 897, 906, 912, 915, 917, 898, 899, 168, 169, 900, 905, 913, 933, 887, 934, 889, 935, 891, 901, 903, 893, 929, 930, 932, 893, 956, 957, 958, 923, 9999, 923, 924, 925, 926, 9999, 926, 927, 928, 929, 9999, 955, 946, 9999, 948, 910, 949, 950, 951, 952, 896, 895, 953] = true := by decide +kernel
set_option maxRecDepth 100000 in
theorem exW4 : zipCk (vx_atE "SnowNames" 161 4) [149, 897, 906, 912, 915, 917, 898, 899, 168, 169, 900, 905, 913, 933, 887, 934, 889, 935, 891, 901, 903, 893, 929, 930, 932, 893, 1119, 1120, 1121, 923, 9999, 923, 924, 925, 926, 9999, 926, 927, 928, 929, 9999, 149, 897, 906, 912, 915, 917, 898, 899, 168, 169, 900, 905, 913, 933, 887, 934, 889, 935, 891, 901, 903, 893, 930, 932, 893, 1118, 1109, 9999, 1111, 911, 1112, 1113, 1114, 1115, 896, 895, 1116] = true := by decide +kernel
theorem ex_at {own own0 : String} {ic ic0 E : Nat} {is : List Nat} (e4 : E ≠ 4) (h : zipCk (vx_atS own0 ic0 (excN E) (excU E)) is = true) (hm : Jvm.Cond.methodLink own ic (Bundle.initS (excN E)) ∈ AWs) : ∀ w ∈ vx_atE own ic E, w ∈ AWs ∨ (w ∈ nwL ∧ w.onTables = true) := by
  intro w hw
  rw [show vx_atE own ic E = vx_atS own ic (excN E) (excU E) from if_neg e4] at hw
  have h2 := List.mem_filter.mp hw
  rcases own_split (own0 := own0) (ic0 := ic0) h2.1 with e | e
  · rw [e]; exact Or.inl hm
  · exact zipCk_ok _ _ h w (List.mem_filter.mpr ⟨e, h2.2⟩)
theorem ex_at4 {own own0 : String} {ic ic0 : Nat} {is : List Nat} (h : zipCk (vx_atE own0 ic0 4) is = true) (hm : Jvm.Cond.methodLink own ic (Bundle.initS (excN 4)) ∈ AWs) : ∀ w ∈ vx_atE own ic 4, w ∈ AWs ∨ (w ∈ nwL ∧ w.onTables = true) := by
  intro w hw
  have e9 : ∀ o i, vx_atE o i 4 = (xw_all o i (excN 4) "java/lang/RuntimeException" ["java/lang/Exception"] 13 rx13).filter vx_no := fun o i => if_pos rfl
  rw [e9] at hw h
  have h2 := List.mem_filter.mp hw
  have ok := fun q => zipCk_ok _ _ h w (List.mem_filter.mpr ⟨q, h2.2⟩)
  have h3 := h2.1
  unfold xw_all at h3
  rcases List.mem_append.mp h3 with e | e
  · rcases List.mem_append.mp e with e | e
    · exact ok (xw_t e)
    · exact ok (xw_s e)
  · rcases List.mem_append.mp e with e | e
    · exact ok (xw_p e)
    · rcases List.mem_append.mp e with e | e
      · exact ok (xw_c e)
      · have e2 := List.mem_filter.mp e
        rcases own_split (own0 := own0) (ic0 := ic0) e2.1 with q | q
        · rw [q]; exact Or.inl hm
        · exact ok (xw_o q (of_decide_eq_true e2.2))
theorem EF : EFacts := by
  intro E hE
  have h5 : E = 0 ∨ E = 1 ∨ E = 2 ∨ E = 3 ∨ E = 4 := by omega
  rcases h5 with rfl | rfl | rfl | rfl | rfl
  · exact ⟨memAt_ok (i := 160) (by decide +kernel), by decide +kernel, fun own ic hm => ex_at (by decide) exW0 hm⟩
  · exact ⟨memAt_ok (i := 152) (by decide +kernel), by decide +kernel, fun own ic hm => ex_at (by decide) exW1 hm⟩
  · exact ⟨memAt_ok (i := 156) (by decide +kernel), by decide +kernel, fun own ic hm => ex_at (by decide) exW2 hm⟩
  · exact ⟨memAt_ok (i := 153) (by decide +kernel), by decide +kernel, fun own ic hm => ex_at (by decide) exW3 hm⟩
  · exact ⟨memAt_ok (i := 157) (by decide +kernel), by decide +kernel, fun own ic hm => ex_at4 exW4 hm⟩
set_option maxRecDepth 100000 in
theorem JF : JFacts := by
  unfold JFacts
  exact zipCkA_ok _ [596, 144, 597, 573, 574, 661, 660, 143, 168, 169, 200, 499, 446, 983, 984, 985, 986] (by decide +kernel)
def dfl : Nat → List AV := fun k => match k with
  | 0 => [vi 0, vn, vn, vn]
  | 1 => [vn, vn, vn, vn, vn, vn, vi 0]
  | 2 => [vi 0, vn, vn, vn, vn, vn]
  | 3 => [vn, vn, vn, vn, vn, vi 0]
  | 4 => [vi 0, vn]
  | 5 => [vn, vn, vi 0, vn, vn, vn, vi 0]
  | 6 => [vn, vi 0]
  | 7 => [vn, vi 0, vi 0, vi 0, vi 0, vi 0, vi 0]
  | 8 => [vi 0, vn, vn, vn, vi 0, vn, vn, vn, vn, vn, vn, vn, vn, vi 0, vi 0, vn, vn]
  | 9 => [vn, vi 0, vi 0, vn, vn, vn, vi 0, vn, vi 0, vi 0, vn, vn, vn, vn, vn, vn, vn]
  | 10 => [vi 0, vn, vn, vi 0, vn, vn, vi 0, vn, vi 0, vi 0, vi 0, vi 0, vi 0, vi 0, vn, vi 0, vi 0, vi 0, vi 0, vi 0, vn, vn, vn, vn, vn, vn, vn, vn, vn]
  | _ => []
/-- the tables of the program: with a script -/
def tbS (n : Nat) (f : Nat → Int) : Tab := (dfl, (strB, (n, f)))
def okZ : AV → Bool
  | .inr (.inl _) => false
  | _ => true
theorem okZ_ok : ∀ {v : AV}, okZ v = true → okV 0 v
  | .inl _, _ => trivial
  | .inr (.inl _), h => by cases h
  | .inr (.inr _), _ => trivial
def dfCk (t : FieldType) (v : AV) : Bool := match t with
  | .int => decide (v = vi 0)
  | .boolean => decide (v = vi 0)
  | .object _ => decide (v = vn)
  | .array _ => decide (v = vn)
  | _ => false
theorem dfCk_ok {ad xa : Nat → Nat} {zv : Value} {t : FieldType} {v : AV} (h : dfCk t v = true) : defaultValue t = rv ad xa zv v := by
  unfold dfCk at h
  split at h
  · rw [of_decide_eq_true h]; rfl
  · rw [of_decide_eq_true h]; rfl
  · rw [of_decide_eq_true h]; rfl
  · rw [of_decide_eq_true h]; rfl
  · cases h
def tyD (s : String) : FieldType := (parseFieldDescriptor s).getD .int
def cfCk (r : vw_C) (d : List AV) (is : List Nat) (a b : Nat) : Bool :=
  zipCkA (u_ws r.1 r.2.1 r.2.2) is && memAt a (.instantiable r.1 r.2.2) && memAt b (.initialized r.1) && Nat.beq d.length r.2.2 && d.all okZ &&
  (List.range r.2.2).all (fun k => decide (parseFieldDescriptor (r.2.1 k).2.2.1 = some (tyD (r.2.1 k).2.2.1)) && (match d[k]? with
    | some v => dfCk (tyD (r.2.1 k).2.2.1) v
    | none => false)) &&
  (List.range r.2.2).all (fun a => (List.range r.2.2).all fun b => Nat.beq a b || decide ((r.2.1 a).2.1 ≠ (r.2.1 b).2.1))
theorem cfCk_ok {r : vw_C} {d : List AV} {is : List Nat} {a b : Nat} (h : cfCk r d is a b = true) :
    (∀ w ∈ u_ws r.1 r.2.1 r.2.2, w ∈ AWs) ∧ Jvm.Cond.instantiable r.1 r.2.2 ∈ AWs ∧ Jvm.Cond.initialized r.1 ∈ AWs ∧ (d.length = r.2.2 ∧ ∀ v ∈ d, okV 0 v) ∧
    ∃ ty0 : Nat → FieldType, (∀ k, k < r.2.2 → parseFieldDescriptor (r.2.1 k).2.2.1 = some (ty0 k)) ∧ (∀ a, a < r.2.2 → ∀ b, b < r.2.2 → a ≠ b → (r.2.1 a).2.1 ≠ (r.2.1 b).2.1) ∧ ∀ ad xa zv j, j < r.2.2 → defaultValue (ty0 j) = vp_V (d.map (rv ad xa zv)) j := by
  unfold cfCk at h
  rw [Bool.and_eq_true, Bool.and_eq_true, Bool.and_eq_true, Bool.and_eq_true, Bool.and_eq_true, Bool.and_eq_true] at h
  obtain ⟨⟨⟨⟨⟨⟨h1, h2⟩, h3⟩, h4⟩, h5⟩, h6⟩, h7⟩ := h
  refine ⟨zipCkA_ok _ _ h1, memAt_ok h2, memAt_ok h3, ⟨Nat.eq_of_beq_eq_true h4, fun v hv => okZ_ok (List.all_eq_true.mp h5 v hv)⟩, fun k => tyD (r.2.1 k).2.2.1, fun k hk => ?_, fun a ha b hb hab => ?_, fun ad xa zv j hj => ?_⟩
  · have := List.all_eq_true.mp h6 k (List.mem_range.mpr hk)
    rw [Bool.and_eq_true] at this
    exact of_decide_eq_true this.1
  · have := List.all_eq_true.mp (List.all_eq_true.mp h7 a (List.mem_range.mpr ha)) b (List.mem_range.mpr hb)
    rw [Bool.or_eq_true] at this
    rcases this with q | q
    · exact absurd (Nat.eq_of_beq_eq_true q) hab
    · exact of_decide_eq_true q
  · have := List.all_eq_true.mp h6 j (List.mem_range.mpr hj)
    rw [Bool.and_eq_true] at this
    have h8 := this.2
    split at h8
    next v hv =>
      unfold vp_V
      rw [List.getD_eq_getElem?_getD, List.getElem?_map, hv]
      exact dfCk_ok h8
    next => cases h8
set_option maxRecDepth 100000 in
theorem cf0 : cfCk (RX1, TX1, 4) (dfl 0) [191, 193, 195, 197] 177 135 = true := by decide +kernel
set_option maxRecDepth 100000 in
theorem cf1 : cfCk (RX2, TX2, 7) (dfl 1) [431, 433, 435, 437, 439, 441, 443] 417 141 = true := by decide +kernel
set_option maxRecDepth 100000 in
theorem cf2 : cfCk (RX3, TX3, 6) (dfl 2) [1002, 1004, 1006, 1008, 1010, 1012] 842 154 = true := by decide +kernel
set_option maxRecDepth 100000 in
theorem cf3 : cfCk (RX4, TX4, 6) (dfl 3) [375, 377, 379, 381, 383, 385] 361 139 = true := by decide +kernel
set_option maxRecDepth 100000 in
theorem cf4 : cfCk (RX5, TX5, 2) (dfl 4) [210, 212] 202 136 = true := by decide +kernel
set_option maxRecDepth 100000 in
theorem cf5 : cfCk (RX6, TX6, 7) (dfl 5) [401, 403, 405, 407, 409, 411, 413] 389 140 = true := by decide +kernel
set_option maxRecDepth 100000 in
theorem cf6 : cfCk (RX7, TX7, 2) (dfl 6) [355, 357] 316 137 = true := by decide +kernel
set_option maxRecDepth 100000 in
theorem cf7 : cfCk (RX9, TX9, 7) (dfl 7) [337, 339, 341, 343, 345, 347, 349] 322 138 = true := by decide +kernel
set_option maxRecDepth 100000 in
theorem cf8 : cfCk (RX10, TX10, 17) (dfl 8) [279, 281, 283, 285, 287, 289, 291, 293, 295, 297, 299, 301, 303, 305, 307, 309, 311] 171 134 = true := by decide +kernel
set_option maxRecDepth 100000 in
theorem cf9 : cfCk (RX11, TX11, 17) (dfl 9) [464, 466, 468, 470, 472, 474, 476, 478, 480, 482, 484, 486, 488, 490, 492, 494, 496] 163 133 = true := by decide +kernel
set_option maxRecDepth 100000 in
theorem cf10 : cfCk (RX12, TX12, 29) (dfl 10) [1703, 1705, 1707, 1709, 1711, 1713, 1715, 1717, 1719, 1721, 1723, 1725, 1727, 1729, 1731, 1733, 1735, 1737, 1739, 1741, 1743, 1745, 1747, 1749, 1751, 1753, 1755, 1757, 1759] 1666 142 = true := by decide +kernel
theorem CF (n : Nat) (f : Nat → Int) : CFacts (tbS n f) := by
  refine ⟨rfl, fun ci r h => ?_⟩
  match ci, h with
  | 0, h => cases h; exact cfCk_ok cf0
  | 1, h => cases h; exact cfCk_ok cf1
  | 2, h => cases h; exact cfCk_ok cf2
  | 3, h => cases h; exact cfCk_ok cf3
  | 4, h => cases h; exact cfCk_ok cf4
  | 5, h => cases h; exact cfCk_ok cf5
  | 6, h => cases h; exact cfCk_ok cf6
  | 7, h => cases h; exact cfCk_ok cf7
  | 8, h => cases h; exact cfCk_ok cf8
  | 9, h => cases h; exact cfCk_ok cf9
  | 10, h => cases h; exact cfCk_ok cf10
  | n + 11, h => cases h
theorem owns_ok : ∀ r ∈ owns, (r.2.1.all (cpCk mt r.1)) = true := by
  unfold owns
  simp only [List.forall_mem_cons, List.not_mem_nil, false_implies, implies_true, and_true]
  exact ⟨cpo0_ok, cpo1_ok, cpo2_ok, cpo3_ok, cpo4_ok, cpo5_ok, cpo6_ok, cpo7_ok, cpo8_ok, cpo9_ok, cpo10_ok, cpo11_ok, cpo12_ok, cpo13_ok, cpo14_ok, cpo15_ok, cpo16_ok, cpo17_ok, cpo18_ok⟩
theorem owns_oc : (owns.all fun r => match vwCl[r.2.2]? with
  | some q => decide (q.1 = r.1)
  | none => true) = true := by decide +kernel
theorem fndB_mem {L : Nat} : ∀ {l : List (Nat × List Instr)}, fndB L l ≠ [] → (L, fndB L l) ∈ l
  | [], h => absurd rfl h
  | q :: qs, h => by
    unfold fndB at h ⊢
    cases e : Nat.beq q.1 L with
    | true =>
      have e2 := Nat.eq_of_beq_eq_true e
      subst e2
      exact List.mem_cons_self
    | false =>
      rw [e] at h
      exact List.mem_cons_of_mem _ (fndB_mem h)
theorem MF : MFacts mt pg pg.2.2.2.2 := by
  intro M L h
  have hN : M < 393 := by
    rcases Nat.lt_or_ge M 393 with q | q
    · exact q
    · refine absurd ?_ h
      show fndB L (bkM M) = []
      unfold bkM
      rw [Nat.ble_eq_true_of_le q]
      rfl
  obtain ⟨-, w2, w3, w4, w5, w6, w7⟩ := mWck_ok (mW_all M hN)
  have hc := mC_all M hN
  unfold mCk at hc
  rw [Bool.and_eq_true] at hc
  have hb := List.all_eq_true.mp hc.2 _ (fndB_mem h)
  have ho := hc.1
  unfold ownCk at ho
  refine ⟨w2, w3, w4, w5, w6, rfl, w7, ?_⟩
  split at ho
  next r hr =>
    have ho2 := of_decide_eq_true ho
    have hcp : (cpM M).all (cpCk mt (mt M).1.cls) = true := by
      unfold cpM
      rw [hr, ← ho2]
      exact owns_ok r (List.mem_of_getElem? hr)
    have hoc : ∀ q, vwCl[ociM M]? = some q → q.1 = (mt M).1.cls := by
      intro q hq
      have := List.all_eq_true.mp owns_oc r (List.mem_of_getElem? hr)
      unfold ociM at hq
      rw [hr] at hq
      dsimp only at hq
      rw [hq] at this
      rw [← ho2]
      exact of_decide_eq_true this
    exact bChk_ok hcp fkT_ok hoc hMW EF _ _ hb
  next => cases ho
/-- what the abstract machine runs, the real one meets -/
theorem sm_all {l : Launch} {n : Nat} {f : Nat → Int} {D : va_G} {ka : KA} {xa : Nat → Nat} {zv : Value} {b0 : Nat} (hl : l.stackTraces = false) :
    ∀ d M args m o mf, Runs (tbS n f) pg d M args m (one o mf) → okM m → (∀ v ∈ args, okV m.2.1 v) → MetC l mt (tbS n f) D ka xa zv b0 d M args m o mf := sm_method hl MF (CF n f) JF
