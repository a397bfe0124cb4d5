/-! ===== THE CONSTRUCTORS ===== -/
/-- which cell of a World a cell is (99: of none) -/
def wPos (a : Nat) : Nat := if 2 ≤ a ∧ a < 53 then (a - 2) % 17 else if 71 ≤ a ∧ a < 88 then a - 71 else if 96 ≤ a ∧ a < 300 then (a - 96) % 17 else 99
/-- the state behind the constructors -/
def S0 : Nat → Int → Int := fun a j =>
  if wPos a = 0 then (if j = 13 then 1 else if j = 15 then -1 else 0)
  else if wPos a = 15 then (if j = 0 then 5 else if j = 1 then 50 else 0)
  else if a = 0 then (if j = 2 then -1 else 0)
  else if a = 54 then (if j = 1 then -1 else 0)
  else if a = 55 then (if j = 0 then 56 else if j = 4 then 3 else if j = 5 ∨ j = 6 then -1 else 0)
  else if a = 58 then (if j = 0 then 59 else if j = 4 then 3 else if j = 5 ∨ j = 6 then -1 else 0)
  else if a = 64 ∨ a = 70 then (if j = 6 then -1 else 0)
  else if a = 300 then (if j = 12 then -1 else 0)
  else if a = 301 then (if j = 1 then -1 else if j = 6 then 5 else if j = 7 then 50 else if j = 12 then 1 else 0)
  else if a = 312 then (if 0 ≤ j ∧ j < 7 then worthT j.toNat else 0)
  else 0
theorem wPos_w {w k : Nat} (hw : isW w) (hk : k < 17) : wPos (w + k) = k := by
  unfold isW at hw
  unfold wPos
  by_cases h1 : 2 ≤ w + k ∧ w + k < 53
  · rw [if_pos h1]; omega
  · rw [if_neg h1]
    by_cases h2 : 71 ≤ w + k ∧ w + k < 88
    · rw [if_pos h2]; omega
    · rw [if_neg h2, if_pos (by omega)]; omega
theorem S0_w0 {w : Nat} (hw : isW w) (j : Int) : S0 w j = if j = 13 then 1 else if j = 15 then -1 else 0 := if_pos (wPos_w (k := 0) hw (by decide))
theorem S0_w15 {w : Nat} (hw : isW w) (j : Int) : S0 (w + 15) j = if j = 0 then 5 else if j = 1 then 50 else 0 := by
  have e := wPos_w (k := 15) hw (by decide)
  unfold S0
  rw [if_neg (by omega), if_pos e]
theorem S0_wk {w k : Nat} (hw : isW w) (hk : k < 17) (h0 : k ≠ 0) (h1 : k ≠ 15) (j : Int) : S0 (w + k) j = 0 := by
  have e := wPos_w hw hk
  have hw9 := hw
  unfold isW at hw9
  unfold S0
  rw [if_neg (by omega), if_neg (by omega), if_neg (by omega), if_neg (by omega), if_neg (by omega), if_neg (by omega), if_neg (by omega), if_neg (by omega), if_neg (by omega), if_neg (by omega)]
/-- k cells are made, and no more room than that takes -/
def CT (k : Nat) (m : AM) : Prop := m.2.1 = k ∧ m.2.2.1 = k ∧ m.2.2.2 ≤ 5000 * k
/-- an object at a is being made: its fields, and what lies behind it -/
def PO (m0 : AM) (a ci : Nat) (fs : List AV) (k : Nat) (G : Nat → AC) (m : AM) : Prop := m.1 a = co ci fs ∧ CT k m ∧ a < k ∧ (∀ b, b < a → m.1 b = m0.1 b) ∧ (∀ b, a < b → b < k → m.1 b = G b)
/-- a constructor makes n cells from k on -/
def CTR (tb : Tab) (d C cj n k : Nat) : Prop := ∀ (m1 : AM) (K : Out → AM → Prop), CT (k + 1) m1 → m1.1 k = co cj (dfl cj) → (∀ m', CT (k + n) m' → (∀ b, b < k → m'.1 b = m1.1 b) → (∀ b, k ≤ b → b < k + n → m'.1 b = cX b (S0 b)) → K (.inl none) m') → Runs tb pg d C [vr k] m1 K
theorem PO_new {m0 m : AM} {a ci k w : Nat} {fs : List AV} {G : Nat → AC} {c : AC} (h : PO m0 a ci fs k G m) (hc : G k = c) (hw : w ≤ 5000) : PO m0 a ci fs (k + 1) G (mnew m c w) := by
  obtain ⟨h1, ⟨h2, h3, h4⟩, h5, h6, h7⟩ := h
  refine ⟨?_, ⟨by show m.2.1 + 1 = k + 1; omega, by show m.2.2.1 + 1 = k + 1; omega, by show m.2.2.2 + w ≤ 5000 * (k + 1); omega⟩, by omega, fun b hb => ?_, fun b b0 b1 => ?_⟩
  · rw [mnew_1, if_neg (by omega)]; exact h1
  · rw [mnew_1, if_neg (by omega)]; exact h6 b hb
  · rw [mnew_1]
    by_cases z : b = m.2.1
    · rw [if_pos z, ← hc]; congr 1; omega
    · rw [if_neg z]; exact h7 b b0 (by omega)
theorem PO_set {m0 m : AM} {a ci k : Nat} {fs gs : List AV} {G : Nat → AC} (h : PO m0 a ci fs k G m) : PO m0 a ci gs k G (mset m a (co ci gs)) := by
  obtain ⟨h1, h2, h5, h6, h7⟩ := h
  refine ⟨if_pos rfl, h2, h5, fun b hb => ?_, fun b b0 b1 => ?_⟩
  · show (if b = a then _ else m.1 b) = _
    rw [if_neg (by omega)]; exact h6 b hb
  · show (if b = a then _ else m.1 b) = _
    rw [if_neg (by omega)]; exact h7 b b0 b1
theorem PO_st {m0 m : AM} {a ci k b : Nat} {fs : List AV} {G : Nat → AC} {c : AC} (h : PO m0 a ci fs k G m) (hb : a < b) : PO m0 a ci fs k (up G b c) (mset m b c) := by
  obtain ⟨h1, h2, h5, h6, h7⟩ := h
  refine ⟨?_, h2, h5, fun e he => ?_, fun e e0 e1 => ?_⟩
  · show (if a = b then _ else m.1 a) = _
    rw [if_neg (by omega)]; exact h1
  · show (if e = b then _ else m.1 e) = _
    rw [if_neg (by omega)]; exact h6 e he
  · show (if e = b then _ else m.1 e) = (if e = b then _ else G e)
    by_cases z : e = b
    · rw [if_pos z, if_pos z]
    · rw [if_neg z, if_neg z]; exact h7 e e0 e1
theorem G_i {k : Nat} {n : Int} (hA : isA k 0) (hl : (lenX k : Int) = n) (hs : ∀ j, S0 k j = 0) : cX k (S0 k) = ca 0 n.toNat (fun _ => 0) := by
  rw [hA.2, ← hl, Int.toNat_natCast]
  exact congrArg (ca 0 (lenX k)) (funext fun j => hs j)
section PoRules
variable {tb : Tab} {hs : Nat → Option (Nat × Nat)} {Q : Out → AM → Prop} {J : Nat → List AV → List AV → AM → Prop} {is : List Instr} {ls st : List AV} {m m0 : AM} {a ci k d : Nat} {fs : List AV} {G : Nat → AC}
theorem po_newi {C : Nat → List AV → AM → (Out → AM → Prop) → Prop} {n : Int} (h : PO m0 a ci fs k G m) (hG : G k = ca 0 n.toNat (fun _ => 0)) (hn : 0 ≤ n ∧ n ≤ 5000) (hK : ∀ m', PO m0 a ci fs (k + 1) G m' → wpB tb hs C Q J is ls (vr k :: st) m') : wpB tb hs C Q J (.newarray .int :: is) ls (vi n :: st) m := by
  rw [w_newi]
  refine ⟨⟨hn.1, by omega⟩, ?_⟩
  have e : m.2.1 = k := h.2.1.1
  rw [e]
  exact hK _ (PO_new h hG (by omega))
theorem po_newl {C : Nat → List AV → AM → (Out → AM → Prop) → Prop} {n : Int} (h : PO m0 a ci fs k G m) (hG : G k = ca 1 n.toNat (fun _ => 0)) (hn : 0 ≤ n ∧ n ≤ 5000) (hK : ∀ m', PO m0 a ci fs (k + 1) G m' → wpB tb hs C Q J is ls (vr k :: st) m') : wpB tb hs C Q J (.newarray .long :: is) ls (vi n :: st) m := by
  rw [w_newl]
  refine ⟨⟨hn.1, by omega⟩, ?_⟩
  have e : m.2.1 = k := h.2.1.1
  rw [e]
  exact hK _ (PO_new h hG (by omega))
theorem po_newz {C : Nat → List AV → AM → (Out → AM → Prop) → Prop} {n : Int} (h : PO m0 a ci fs k G m) (hG : G k = ca 2 n.toNat (fun _ => 0)) (hn : 0 ≤ n ∧ n ≤ 5000) (hK : ∀ m', PO m0 a ci fs (k + 1) G m' → wpB tb hs C Q J is ls (vr k :: st) m') : wpB tb hs C Q J (.newarray .boolean :: is) ls (vi n :: st) m := by
  rw [w_newz]
  refine ⟨⟨hn.1, by omega⟩, ?_⟩
  have e : m.2.1 = k := h.2.1.1
  rw [e]
  exact hK _ (PO_new h hG (by omega))
theorem po_newa {C : Nat → List AV → AM → (Out → AM → Prop) → Prop} {n : Int} {q : Nat} (h : PO m0 a ci fs k G m) (hG : G k = cr n.toNat (fun _ => none)) (hn : 0 ≤ n ∧ n ≤ 5000) (hK : ∀ m', PO m0 a ci fs (k + 1) G m' → wpB tb hs C Q J is ls (vr k :: st) m') : wpB tb hs C Q J (.anewarray q :: is) ls (vi n :: st) m := by
  rw [w_newa]
  refine ⟨⟨hn.1, by omega⟩, ?_⟩
  have e : m.2.1 = k := h.2.1.1
  rw [e]
  exact hK _ (PO_new h hG (by omega))
theorem po_putr {C : Nat → List AV → AM → (Out → AM → Prop) → Prop} {g : Nat} {v : Nat ⊕ (Nat ⊕ Bool)} (h : PO m0 a ci fs k G m) (hg : ci = g / 100) (hK : ∀ m', PO m0 a ci (fs.set (g % 100) (.inr v)) k G m' → wpB tb hs C Q J is ls st m') : wpB tb hs C Q J (.putstatic g :: is) ls (.inr v :: vr a :: st) m := by
  rw [w_putr h.1]
  exact ⟨hg, hK _ (PO_set h)⟩
theorem po_putf {C : Nat → List AV → AM → (Out → AM → Prop) → Prop} {g : Nat} {v : Int} (h : PO m0 a ci fs k G m) (hg : ci = g / 100) (hK : ∀ m', PO m0 a ci (fs.set (g % 100) (vi v)) k G m' → wpB tb hs C Q J is ls st m') : wpB tb hs C Q J (.putfield g :: is) ls (vi v :: vr a :: st) m := by
  rw [w_putf h.1]
  exact ⟨hg, hK _ (PO_set h)⟩
theorem po_putz {C : Nat → List AV → AM → (Out → AM → Prop) → Prop} {g : Nat} {v : Int} (h : PO m0 a ci fs k G m) (hg : ci = g / 100) (hv : v = 0 ∨ v = 1) (hK : ∀ m', PO m0 a ci (fs.set (g % 100) (vi v)) k G m' → wpB tb hs C Q J is ls st m') : wpB tb hs C Q J (.dstore g :: is) ls (vi v :: vr a :: st) m := by
  rw [w_putz h.1]
  exact ⟨⟨hv, hg⟩, hK _ (PO_set h)⟩
theorem po_get {C : Nat → List AV → AM → (Out → AM → Prop) → Prop} {g : Nat} {v : AV} (h : PO m0 a ci fs k G m) (hg : ci = g / 100) (hv : fs[g % 100]? = some v) (hK : wpB tb hs C Q J is ls (v :: st) m) : wpB tb hs C Q J (.getfield g :: is) ls (vr a :: st) m := by
  rw [w_getf h.1 hv]
  exact ⟨hg, hK⟩
theorem po_ist {C : Nat → List AV → AM → (Out → AM → Prop) → Prop} {b len : Nat} {f : Nat → Int} {j v : Int} (h : PO m0 a ci fs k G m) (hb : a < b ∧ b < k) (hG : G b = ca 0 len f) (hj : 0 ≤ j ∧ j < len) (hK : ∀ m', PO m0 a ci fs k (up G b (ca 0 len (up f j.toNat v))) m' → wpB tb hs C Q J is ls st m') : wpB tb hs C Q J (.iastore :: is) ls (vi v :: vi j :: vr b :: st) m := by
  rw [w_iastore ((h.2.2.2.2 b hb.1 hb.2).trans hG)]
  exact ⟨hj, hK _ (PO_st h hb.1)⟩
theorem po_ild {C : Nat → List AV → AM → (Out → AM → Prop) → Prop} {b len : Nat} {f : Nat → Int} {j : Int} (h : PO m0 a ci fs k G m) (hb : a < b ∧ b < k) (hG : G b = ca 0 len f) (hj : 0 ≤ j ∧ j < len) (hK : wpB tb hs C Q J is ls (vi (f j.toNat) :: st) m) : wpB tb hs C Q J (.iaload :: is) ls (vi j :: vr b :: st) m := by
  rw [w_iaload ((h.2.2.2.2 b hb.1 hb.2).trans hG)]
  exact ⟨hj, hK⟩
theorem po_sub {C cj n : Nat} (hC : CTR tb d C cj n k) (hT : tb.1 = dfl) (h : PO m0 a ci fs k G m) (hst : st.length ≤ 3) (hG : ∀ b, k ≤ b → b < k + n → G b = cX b (S0 b)) (hn : 1 ≤ n) (hl : (dfl cj).length ≤ 5000) (hK : ∀ m', PO m0 a ci fs (k + n) G m' → wpB tb hs (Runs tb pg d) Q J is ls (vr k :: st) m') : wpB tb hs (Runs tb pg d) Q J (.new cj :: .dup :: .invokeinterface C 1 :: is) ls st m := by
  obtain ⟨h1, ⟨h2, h3, h4⟩, h5, h6, h7⟩ := h
  rw [w_new, w_dupr, w_call, hT, h2]
  refine ⟨⟨by simp, by simp; omega⟩, hC _ _ ⟨by show m.2.1 + 1 = k + 1; omega, by show m.2.2.1 + 1 = k + 1; omega, by show m.2.2.2 + _ ≤ 5000 * (k + 1); omega⟩ (by rw [mnew_1, if_pos h2.symm]) (fun m' g1 g2 g3 => ?_)⟩
  refine hK m' ⟨?_, g1, by omega, fun b hb => ?_, fun b b0 b1 => ?_⟩
  · rw [g2 a h5, mnew_1, if_neg (by omega)]; exact h1
  · rw [g2 b (by omega), mnew_1, if_neg (by omega)]; exact h6 b hb
  · by_cases z : b < k
    · rw [g2 b z, mnew_1, if_neg (by omega)]; exact h7 b b0 z
    · rw [g3 b (by omega) b1]; exact (hG b (by omega) b1).symm
theorem po_start {m1 : AM} {cj : Nat} (h : CT (k + 1) m1) (g : m1.1 k = co cj (dfl cj)) : PO m1 k cj (dfl cj) (k + 1) G m1 := ⟨g, h, by omega, fun _ _ => rfl, fun b b0 b1 => by omega⟩
theorem po_end {m1 : AM} {n : Nat} {K : Out → AM → Prop} (h : PO m1 k ci fs (k + n) G m) (hn : 1 ≤ n) (hf : co ci fs = cX k (S0 k)) (hG : ∀ b, k < b → b < k + n → G b = cX b (S0 b)) (hK : ∀ m', CT (k + n) m' → (∀ b, b < k → m'.1 b = m1.1 b) → (∀ b, k ≤ b → b < k + n → m'.1 b = cX b (S0 b)) → K (.inl none) m') : K (.inl none) m := by
  obtain ⟨h1, h2, h5, h6, h7⟩ := h
  refine hK m h2 h6 (fun b b0 b1 => ?_)
  by_cases z : b = k
  · rw [z, h1]; exact hf
  · rw [h7 b (by omega) b1]; exact hG b (by omega) b1
end PoRules
theorem cX_wk {w k : Nat} (hw : isW w) (hk : k < 17) (h0 : k ≠ 0) (h1 : k ≠ 15) : cX (w + k) (S0 (w + k)) = wX w k (fun _ => 0) := by
  rw [cX_w hw hk]
  exact congrArg (wX w k) (funext fun j => S0_wk hw hk h0 h1 j)
theorem c_12 {tb : Tab} {d : Nat} (hT : tb.1 = dfl) {w : Nat} (hw : isW w) : CTR tb (d + 1) 12 0 4 (w + 9) := by
  intro m1 K hC hc hK
  have H : PO m1 (w + 9) 0 [vi 0, vn, vn, vn] (w + 10) (fun b => cX b (S0 b)) m1 := po_start hC hc
  refine Runs.of (al := [vr (w + 9)]) (n := 0) ⟨(w + 9), _, _, rfl, hc⟩ rfl rfl trivial ?_
  rw [At.eq k12_0]
  try simp only [w_aload, w_iconst, w_init, w_null, w_return, w_iload, List.getElem?_cons_zero, List.getElem?_cons_succ, List.length_nil, List.length_cons, Nat.zero_le, true_and, List.append_eq, List.cons_append, List.nil_append, List.replicate_zero, List.replicate_succ]
  refine po_putf H (by decide) (fun mm1 (H1 : PO m1 (w + 9) 0 [vi 0, vn, vn, vn] (w + 10) (fun b => cX b (S0 b)) mm1) => ?_)
  try simp only [w_aload, w_iconst, w_init, w_null, w_return, w_iload, List.getElem?_cons_zero, List.getElem?_cons_succ, List.length_nil, List.length_cons, Nat.zero_le, true_and, List.append_eq, List.cons_append, List.nil_append, List.replicate_zero, List.replicate_succ]
  refine po_newi H1 (G_i (isA_w10 hw) (by rw [len_w10 hw]; rfl) (fun j => S0_wk (k := 10) hw (by decide) (by decide) (by decide) j)) (by decide) (fun mm2 (H2 : PO m1 (w + 9) 0 [vi 0, vn, vn, vn] (w + 11) (fun b => cX b (S0 b)) mm2) => ?_)
  try simp only [w_aload, w_iconst, w_init, w_null, w_return, w_iload, List.getElem?_cons_zero, List.getElem?_cons_succ, List.length_nil, List.length_cons, Nat.zero_le, true_and, List.append_eq, List.cons_append, List.nil_append, List.replicate_zero, List.replicate_succ]
  refine po_putr H2 (by decide) (fun mm3 (H3 : PO m1 (w + 9) 0 [vi 0, vr (w + 10), vn, vn] (w + 11) (fun b => cX b (S0 b)) mm3) => ?_)
  try simp only [w_aload, w_iconst, w_init, w_null, w_return, w_iload, List.getElem?_cons_zero, List.getElem?_cons_succ, List.length_nil, List.length_cons, Nat.zero_le, true_and, List.append_eq, List.cons_append, List.nil_append, List.replicate_zero, List.replicate_succ]
  refine po_newi H3 (G_i (isA_w11 hw) (by rw [len_w11 hw]; rfl) (fun j => S0_wk (k := 11) hw (by decide) (by decide) (by decide) j)) (by decide) (fun mm4 (H4 : PO m1 (w + 9) 0 [vi 0, vr (w + 10), vn, vn] (w + 12) (fun b => cX b (S0 b)) mm4) => ?_)
  try simp only [w_aload, w_iconst, w_init, w_null, w_return, w_iload, List.getElem?_cons_zero, List.getElem?_cons_succ, List.length_nil, List.length_cons, Nat.zero_le, true_and, List.append_eq, List.cons_append, List.nil_append, List.replicate_zero, List.replicate_succ]
  refine po_putr H4 (by decide) (fun mm5 (H5 : PO m1 (w + 9) 0 [vi 0, vr (w + 10), vr (w + 11), vn] (w + 12) (fun b => cX b (S0 b)) mm5) => ?_)
  try simp only [w_aload, w_iconst, w_init, w_null, w_return, w_iload, List.getElem?_cons_zero, List.getElem?_cons_succ, List.length_nil, List.length_cons, Nat.zero_le, true_and, List.append_eq, List.cons_append, List.nil_append, List.replicate_zero, List.replicate_succ]
  refine po_newi H5 (G_i (isA_w12 hw) (by rw [len_w12 hw]; rfl) (fun j => S0_wk (k := 12) hw (by decide) (by decide) (by decide) j)) (by decide) (fun mm6 (H6 : PO m1 (w + 9) 0 [vi 0, vr (w + 10), vr (w + 11), vn] (w + 13) (fun b => cX b (S0 b)) mm6) => ?_)
  try simp only [w_aload, w_iconst, w_init, w_null, w_return, w_iload, List.getElem?_cons_zero, List.getElem?_cons_succ, List.length_nil, List.length_cons, Nat.zero_le, true_and, List.append_eq, List.cons_append, List.nil_append, List.replicate_zero, List.replicate_succ]
  refine po_putr H6 (by decide) (fun mm7 (H7 : PO m1 (w + 9) 0 [vi 0, vr (w + 10), vr (w + 11), vr (w + 12)] (w + 13) (fun b => cX b (S0 b)) mm7) => ?_)
  try simp only [w_aload, w_iconst, w_init, w_null, w_return, w_iload, List.getElem?_cons_zero, List.getElem?_cons_succ, List.length_nil, List.length_cons, Nat.zero_le, true_and, List.append_eq, List.cons_append, List.nil_append, List.replicate_zero, List.replicate_succ]
  exact po_end (n := 4) H7 (by decide) ((cX_wk (k := 9) hw (by decide) (by decide) (by decide)).symm) (fun _ _ _ => rfl) hK
theorem c_48 {tb : Tab} {d : Nat} (hT : tb.1 = dfl) {w : Nat} (hw : isW w) : CTR tb (d + 1) 48 4 2 (w + 13) := by
  intro m1 K hC hc hK
  have H : PO m1 (w + 13) 4 [vi 0, vn] (w + 14) (fun b => cX b (S0 b)) m1 := po_start hC hc
  refine Runs.of (al := [vr (w + 13)]) (n := 0) ⟨(w + 13), _, _, rfl, hc⟩ rfl rfl trivial ?_
  rw [At.eq k48_0]
  try simp only [w_aload, w_iconst, w_init, w_null, w_return, w_iload, List.getElem?_cons_zero, List.getElem?_cons_succ, List.length_nil, List.length_cons, Nat.zero_le, true_and, List.append_eq, List.cons_append, List.nil_append, List.replicate_zero, List.replicate_succ]
  refine po_putf H (by decide) (fun mm1 (H1 : PO m1 (w + 13) 4 [vi 0, vn] (w + 14) (fun b => cX b (S0 b)) mm1) => ?_)
  try simp only [w_aload, w_iconst, w_init, w_null, w_return, w_iload, List.getElem?_cons_zero, List.getElem?_cons_succ, List.length_nil, List.length_cons, Nat.zero_le, true_and, List.append_eq, List.cons_append, List.nil_append, List.replicate_zero, List.replicate_succ]
  refine po_newi H1 (G_i (isA_w14 hw) (by rw [len_w14 hw]; rfl) (fun j => S0_wk (k := 14) hw (by decide) (by decide) (by decide) j)) (by decide) (fun mm2 (H2 : PO m1 (w + 13) 4 [vi 0, vn] (w + 15) (fun b => cX b (S0 b)) mm2) => ?_)
  try simp only [w_aload, w_iconst, w_init, w_null, w_return, w_iload, List.getElem?_cons_zero, List.getElem?_cons_succ, List.length_nil, List.length_cons, Nat.zero_le, true_and, List.append_eq, List.cons_append, List.nil_append, List.replicate_zero, List.replicate_succ]
  refine po_putr H2 (by decide) (fun mm3 (H3 : PO m1 (w + 13) 4 [vi 0, vr (w + 14)] (w + 15) (fun b => cX b (S0 b)) mm3) => ?_)
  try simp only [w_aload, w_iconst, w_init, w_null, w_return, w_iload, List.getElem?_cons_zero, List.getElem?_cons_succ, List.length_nil, List.length_cons, Nat.zero_le, true_and, List.append_eq, List.cons_append, List.nil_append, List.replicate_zero, List.replicate_succ]
  exact po_end (n := 2) H3 (by decide) ((cX_wk (k := 13) hw (by decide) (by decide) (by decide)).symm) (fun _ _ _ => rfl) hK
theorem k105_0 : pg.1 105 0 = [.aload 0, .invokespecial 0, .aload 0, .bipush 0, .putfield 800, .aload 0, .bipush 6, .newarray .int, .putstatic 801, .aload 0, .bipush 6, .newarray .int, .putstatic 802, .aload 0, .bipush 6, .newarray .int, .putstatic 803, .aload 0, .bipush 0, .putfield 804, .aload 0, .bipush 6, .newarray .int, .putstatic 805, .aload 0, .bipush 36, .newarray .int, .putstatic 806, .aload 0, .bipush 6, .newarray .int, .putstatic 807, .aload 0, .bipush 36, .newarray .int, .putstatic 808, .aload 0, .bipush 36, .newarray .int, .putstatic 809, .aload 0, .new 0, .dup, .invokeinterface 12 1, .putstatic 810, .aload 0, .new 4, .dup, .invokeinterface 48 1, .putstatic 811, .aload 0, .bipush 5, .newarray .int, .putstatic 812, .aload 0, .bipush 1, .putfield 813, .aload 0, .bipush 0, .putfield 814, .aload 0, .aconst_null, .putstatic 815, .aload 0, .bipush 10, .newarray .int, .putstatic 816, .aload 0, .getfield 812, .bipush 0, .bipush 5, .iastore, .aload 0, .getfield 812, .bipush 1, .bipush 50, .iastore, .return_] := rfl
theorem a105_0 {tb : Tab} {d : Nat} {K : Out → AM → Prop} {ls st : List AV} {m : AM} : At tb d 105 K 0 ls st m = wpB tb (pg.2.1 105) (Runs tb pg d) K (At tb d 105 K) [.aload 0, .invokespecial 0, .aload 0, .bipush 0, .putfield 800, .aload 0, .bipush 6, .newarray .int, .putstatic 801, .aload 0, .bipush 6, .newarray .int, .putstatic 802, .aload 0, .bipush 6, .newarray .int, .putstatic 803, .aload 0, .bipush 0, .putfield 804, .aload 0, .bipush 6, .newarray .int, .putstatic 805, .aload 0, .bipush 36, .newarray .int, .putstatic 806, .aload 0, .bipush 6, .newarray .int, .putstatic 807, .aload 0, .bipush 36, .newarray .int, .putstatic 808, .aload 0, .bipush 36, .newarray .int, .putstatic 809, .aload 0, .new 0, .dup, .invokeinterface 12 1, .putstatic 810, .aload 0, .new 4, .dup, .invokeinterface 48 1, .putstatic 811, .aload 0, .bipush 5, .newarray .int, .putstatic 812, .aload 0, .bipush 1, .putfield 813, .aload 0, .bipush 0, .putfield 814, .aload 0, .aconst_null, .putstatic 815, .aload 0, .bipush 10, .newarray .int, .putstatic 816, .aload 0, .getfield 812, .bipush 0, .bipush 5, .iastore, .aload 0, .getfield 812, .bipush 1, .bipush 50, .iastore, .return_] ls st m := At.eq k105_0
theorem c_105 {tb : Tab} {d : Nat} (hT : tb.1 = dfl) {w : Nat} (hw : isW w) : CTR tb (d + 2) 105 8 17 w := by
  intro m1 K hC hc hK
  have H : PO m1 w 8 [vi 0, vn, vn, vn, vi 0, vn, vn, vn, vn, vn, vn, vn, vn, vi 0, vi 0, vn, vn] (w + 1) (fun b => if b = w + 15 then ca 0 5 (fun _ => 0) else cX b (S0 b)) m1 := po_start hC hc
  refine Runs.of (al := [vr w]) (n := 0) ⟨w, _, _, rfl, hc⟩ rfl rfl trivial ?_
  rw [At.eq k105_0]
  try simp only [w_aload, w_iconst, w_init, w_null, w_return, w_iload, List.getElem?_cons_zero, List.getElem?_cons_succ, List.length_nil, List.length_cons, Nat.zero_le, true_and, List.append_eq, List.cons_append, List.nil_append, List.replicate_zero, List.replicate_succ]
  refine po_putf H (by decide) (fun mm1 (H1 : PO m1 (w) 8 [vi 0, vn, vn, vn, vi 0, vn, vn, vn, vn, vn, vn, vn, vn, vi 0, vi 0, vn, vn] (w + 1) (fun b => if b = w + 15 then ca 0 5 (fun _ => 0) else cX b (S0 b)) mm1) => ?_)
  try simp only [w_aload, w_iconst, w_init, w_null, w_return, w_iload, List.getElem?_cons_zero, List.getElem?_cons_succ, List.length_nil, List.length_cons, Nat.zero_le, true_and, List.append_eq, List.cons_append, List.nil_append, List.replicate_zero, List.replicate_succ]
  refine po_newi H1 ((if_neg (by omega)).trans (G_i (isA_w1 hw) (by rw [len_w1 hw]; rfl) (fun j => S0_wk (k := 1) hw (by decide) (by decide) (by decide) j))) (by decide) (fun mm2 (H2 : PO m1 (w) 8 [vi 0, vn, vn, vn, vi 0, vn, vn, vn, vn, vn, vn, vn, vn, vi 0, vi 0, vn, vn] (w + 2) (fun b => if b = w + 15 then ca 0 5 (fun _ => 0) else cX b (S0 b)) mm2) => ?_)
  try simp only [w_aload, w_iconst, w_init, w_null, w_return, w_iload, List.getElem?_cons_zero, List.getElem?_cons_succ, List.length_nil, List.length_cons, Nat.zero_le, true_and, List.append_eq, List.cons_append, List.nil_append, List.replicate_zero, List.replicate_succ]
  refine po_putr H2 (by decide) (fun mm3 (H3 : PO m1 (w) 8 [vi 0, vr (w + 1), vn, vn, vi 0, vn, vn, vn, vn, vn, vn, vn, vn, vi 0, vi 0, vn, vn] (w + 2) (fun b => if b = w + 15 then ca 0 5 (fun _ => 0) else cX b (S0 b)) mm3) => ?_)
  try simp only [w_aload, w_iconst, w_init, w_null, w_return, w_iload, List.getElem?_cons_zero, List.getElem?_cons_succ, List.length_nil, List.length_cons, Nat.zero_le, true_and, List.append_eq, List.cons_append, List.nil_append, List.replicate_zero, List.replicate_succ]
  refine po_newi H3 ((if_neg (by omega)).trans (G_i (isA_w2 hw) (by rw [len_w2 hw]; rfl) (fun j => S0_wk (k := 2) hw (by decide) (by decide) (by decide) j))) (by decide) (fun mm4 (H4 : PO m1 (w) 8 [vi 0, vr (w + 1), vn, vn, vi 0, vn, vn, vn, vn, vn, vn, vn, vn, vi 0, vi 0, vn, vn] (w + 3) (fun b => if b = w + 15 then ca 0 5 (fun _ => 0) else cX b (S0 b)) mm4) => ?_)
  try simp only [w_aload, w_iconst, w_init, w_null, w_return, w_iload, List.getElem?_cons_zero, List.getElem?_cons_succ, List.length_nil, List.length_cons, Nat.zero_le, true_and, List.append_eq, List.cons_append, List.nil_append, List.replicate_zero, List.replicate_succ]
  refine po_putr H4 (by decide) (fun mm5 (H5 : PO m1 (w) 8 [vi 0, vr (w + 1), vr (w + 2), vn, vi 0, vn, vn, vn, vn, vn, vn, vn, vn, vi 0, vi 0, vn, vn] (w + 3) (fun b => if b = w + 15 then ca 0 5 (fun _ => 0) else cX b (S0 b)) mm5) => ?_)
  try simp only [w_aload, w_iconst, w_init, w_null, w_return, w_iload, List.getElem?_cons_zero, List.getElem?_cons_succ, List.length_nil, List.length_cons, Nat.zero_le, true_and, List.append_eq, List.cons_append, List.nil_append, List.replicate_zero, List.replicate_succ]
  refine po_newi H5 ((if_neg (by omega)).trans (G_i (isA_w3 hw) (by rw [len_w3 hw]; rfl) (fun j => S0_wk (k := 3) hw (by decide) (by decide) (by decide) j))) (by decide) (fun mm6 (H6 : PO m1 (w) 8 [vi 0, vr (w + 1), vr (w + 2), vn, vi 0, vn, vn, vn, vn, vn, vn, vn, vn, vi 0, vi 0, vn, vn] (w + 4) (fun b => if b = w + 15 then ca 0 5 (fun _ => 0) else cX b (S0 b)) mm6) => ?_)
  try simp only [w_aload, w_iconst, w_init, w_null, w_return, w_iload, List.getElem?_cons_zero, List.getElem?_cons_succ, List.length_nil, List.length_cons, Nat.zero_le, true_and, List.append_eq, List.cons_append, List.nil_append, List.replicate_zero, List.replicate_succ]
  refine po_putr H6 (by decide) (fun mm7 (H7 : PO m1 (w) 8 [vi 0, vr (w + 1), vr (w + 2), vr (w + 3), vi 0, vn, vn, vn, vn, vn, vn, vn, vn, vi 0, vi 0, vn, vn] (w + 4) (fun b => if b = w + 15 then ca 0 5 (fun _ => 0) else cX b (S0 b)) mm7) => ?_)
  try simp only [w_aload, w_iconst, w_init, w_null, w_return, w_iload, List.getElem?_cons_zero, List.getElem?_cons_succ, List.length_nil, List.length_cons, Nat.zero_le, true_and, List.append_eq, List.cons_append, List.nil_append, List.replicate_zero, List.replicate_succ]
  refine po_putf H7 (by decide) (fun mm8 (H8 : PO m1 (w) 8 [vi 0, vr (w + 1), vr (w + 2), vr (w + 3), vi 0, vn, vn, vn, vn, vn, vn, vn, vn, vi 0, vi 0, vn, vn] (w + 4) (fun b => if b = w + 15 then ca 0 5 (fun _ => 0) else cX b (S0 b)) mm8) => ?_)
  try simp only [w_aload, w_iconst, w_init, w_null, w_return, w_iload, List.getElem?_cons_zero, List.getElem?_cons_succ, List.length_nil, List.length_cons, Nat.zero_le, true_and, List.append_eq, List.cons_append, List.nil_append, List.replicate_zero, List.replicate_succ]
  refine po_newi H8 ((if_neg (by omega)).trans (G_i (isA_w4 hw) (by rw [len_w4 hw]; rfl) (fun j => S0_wk (k := 4) hw (by decide) (by decide) (by decide) j))) (by decide) (fun mm9 (H9 : PO m1 (w) 8 [vi 0, vr (w + 1), vr (w + 2), vr (w + 3), vi 0, vn, vn, vn, vn, vn, vn, vn, vn, vi 0, vi 0, vn, vn] (w + 5) (fun b => if b = w + 15 then ca 0 5 (fun _ => 0) else cX b (S0 b)) mm9) => ?_)
  try simp only [w_aload, w_iconst, w_init, w_null, w_return, w_iload, List.getElem?_cons_zero, List.getElem?_cons_succ, List.length_nil, List.length_cons, Nat.zero_le, true_and, List.append_eq, List.cons_append, List.nil_append, List.replicate_zero, List.replicate_succ]
  refine po_putr H9 (by decide) (fun mm10 (H10 : PO m1 (w) 8 [vi 0, vr (w + 1), vr (w + 2), vr (w + 3), vi 0, vr (w + 4), vn, vn, vn, vn, vn, vn, vn, vi 0, vi 0, vn, vn] (w + 5) (fun b => if b = w + 15 then ca 0 5 (fun _ => 0) else cX b (S0 b)) mm10) => ?_)
  try simp only [w_aload, w_iconst, w_init, w_null, w_return, w_iload, List.getElem?_cons_zero, List.getElem?_cons_succ, List.length_nil, List.length_cons, Nat.zero_le, true_and, List.append_eq, List.cons_append, List.nil_append, List.replicate_zero, List.replicate_succ]
  refine po_newi H10 ((if_neg (by omega)).trans (G_i (isA_w5 hw) (by rw [len_w5 hw]; rfl) (fun j => S0_wk (k := 5) hw (by decide) (by decide) (by decide) j))) (by decide) (fun mm11 (H11 : PO m1 (w) 8 [vi 0, vr (w + 1), vr (w + 2), vr (w + 3), vi 0, vr (w + 4), vn, vn, vn, vn, vn, vn, vn, vi 0, vi 0, vn, vn] (w + 6) (fun b => if b = w + 15 then ca 0 5 (fun _ => 0) else cX b (S0 b)) mm11) => ?_)
  try simp only [w_aload, w_iconst, w_init, w_null, w_return, w_iload, List.getElem?_cons_zero, List.getElem?_cons_succ, List.length_nil, List.length_cons, Nat.zero_le, true_and, List.append_eq, List.cons_append, List.nil_append, List.replicate_zero, List.replicate_succ]
  refine po_putr H11 (by decide) (fun mm12 (H12 : PO m1 (w) 8 [vi 0, vr (w + 1), vr (w + 2), vr (w + 3), vi 0, vr (w + 4), vr (w + 5), vn, vn, vn, vn, vn, vn, vi 0, vi 0, vn, vn] (w + 6) (fun b => if b = w + 15 then ca 0 5 (fun _ => 0) else cX b (S0 b)) mm12) => ?_)
  try simp only [w_aload, w_iconst, w_init, w_null, w_return, w_iload, List.getElem?_cons_zero, List.getElem?_cons_succ, List.length_nil, List.length_cons, Nat.zero_le, true_and, List.append_eq, List.cons_append, List.nil_append, List.replicate_zero, List.replicate_succ]
  refine po_newi H12 ((if_neg (by omega)).trans (G_i (isA_w6 hw) (by rw [len_w6 hw]; rfl) (fun j => S0_wk (k := 6) hw (by decide) (by decide) (by decide) j))) (by decide) (fun mm13 (H13 : PO m1 (w) 8 [vi 0, vr (w + 1), vr (w + 2), vr (w + 3), vi 0, vr (w + 4), vr (w + 5), vn, vn, vn, vn, vn, vn, vi 0, vi 0, vn, vn] (w + 7) (fun b => if b = w + 15 then ca 0 5 (fun _ => 0) else cX b (S0 b)) mm13) => ?_)
  try simp only [w_aload, w_iconst, w_init, w_null, w_return, w_iload, List.getElem?_cons_zero, List.getElem?_cons_succ, List.length_nil, List.length_cons, Nat.zero_le, true_and, List.append_eq, List.cons_append, List.nil_append, List.replicate_zero, List.replicate_succ]
  refine po_putr H13 (by decide) (fun mm14 (H14 : PO m1 (w) 8 [vi 0, vr (w + 1), vr (w + 2), vr (w + 3), vi 0, vr (w + 4), vr (w + 5), vr (w + 6), vn, vn, vn, vn, vn, vi 0, vi 0, vn, vn] (w + 7) (fun b => if b = w + 15 then ca 0 5 (fun _ => 0) else cX b (S0 b)) mm14) => ?_)
  try simp only [w_aload, w_iconst, w_init, w_null, w_return, w_iload, List.getElem?_cons_zero, List.getElem?_cons_succ, List.length_nil, List.length_cons, Nat.zero_le, true_and, List.append_eq, List.cons_append, List.nil_append, List.replicate_zero, List.replicate_succ]
  refine po_newi H14 ((if_neg (by omega)).trans (G_i (isA_w7 hw) (by rw [len_w7 hw]; rfl) (fun j => S0_wk (k := 7) hw (by decide) (by decide) (by decide) j))) (by decide) (fun mm15 (H15 : PO m1 (w) 8 [vi 0, vr (w + 1), vr (w + 2), vr (w + 3), vi 0, vr (w + 4), vr (w + 5), vr (w + 6), vn, vn, vn, vn, vn, vi 0, vi 0, vn, vn] (w + 8) (fun b => if b = w + 15 then ca 0 5 (fun _ => 0) else cX b (S0 b)) mm15) => ?_)
  try simp only [w_aload, w_iconst, w_init, w_null, w_return, w_iload, List.getElem?_cons_zero, List.getElem?_cons_succ, List.length_nil, List.length_cons, Nat.zero_le, true_and, List.append_eq, List.cons_append, List.nil_append, List.replicate_zero, List.replicate_succ]
  refine po_putr H15 (by decide) (fun mm16 (H16 : PO m1 (w) 8 [vi 0, vr (w + 1), vr (w + 2), vr (w + 3), vi 0, vr (w + 4), vr (w + 5), vr (w + 6), vr (w + 7), vn, vn, vn, vn, vi 0, vi 0, vn, vn] (w + 8) (fun b => if b = w + 15 then ca 0 5 (fun _ => 0) else cX b (S0 b)) mm16) => ?_)
  try simp only [w_aload, w_iconst, w_init, w_null, w_return, w_iload, List.getElem?_cons_zero, List.getElem?_cons_succ, List.length_nil, List.length_cons, Nat.zero_le, true_and, List.append_eq, List.cons_append, List.nil_append, List.replicate_zero, List.replicate_succ]
  refine po_newi H16 ((if_neg (by omega)).trans (G_i (isA_w8 hw) (by rw [len_w8 hw]; rfl) (fun j => S0_wk (k := 8) hw (by decide) (by decide) (by decide) j))) (by decide) (fun mm17 (H17 : PO m1 (w) 8 [vi 0, vr (w + 1), vr (w + 2), vr (w + 3), vi 0, vr (w + 4), vr (w + 5), vr (w + 6), vr (w + 7), vn, vn, vn, vn, vi 0, vi 0, vn, vn] (w + 9) (fun b => if b = w + 15 then ca 0 5 (fun _ => 0) else cX b (S0 b)) mm17) => ?_)
  try simp only [w_aload, w_iconst, w_init, w_null, w_return, w_iload, List.getElem?_cons_zero, List.getElem?_cons_succ, List.length_nil, List.length_cons, Nat.zero_le, true_and, List.append_eq, List.cons_append, List.nil_append, List.replicate_zero, List.replicate_succ]
  refine po_putr H17 (by decide) (fun mm18 (H18 : PO m1 (w) 8 [vi 0, vr (w + 1), vr (w + 2), vr (w + 3), vi 0, vr (w + 4), vr (w + 5), vr (w + 6), vr (w + 7), vr (w + 8), vn, vn, vn, vi 0, vi 0, vn, vn] (w + 9) (fun b => if b = w + 15 then ca 0 5 (fun _ => 0) else cX b (S0 b)) mm18) => ?_)
  try simp only [w_aload, w_iconst, w_init, w_null, w_return, w_iload, List.getElem?_cons_zero, List.getElem?_cons_succ, List.length_nil, List.length_cons, Nat.zero_le, true_and, List.append_eq, List.cons_append, List.nil_append, List.replicate_zero, List.replicate_succ]
  refine po_sub (n := 4) (c_12 hT hw) hT H18 (Nat.le_of_ble_eq_true rfl) (fun b b0 b1 => if_neg (by omega)) (by decide) (by decide) (fun mm19 (H19 : PO m1 (w) 8 [vi 0, vr (w + 1), vr (w + 2), vr (w + 3), vi 0, vr (w + 4), vr (w + 5), vr (w + 6), vr (w + 7), vr (w + 8), vn, vn, vn, vi 0, vi 0, vn, vn] (w + 13) (fun b => if b = w + 15 then ca 0 5 (fun _ => 0) else cX b (S0 b)) mm19) => ?_)
  try simp only [w_aload, w_iconst, w_init, w_null, w_return, w_iload, List.getElem?_cons_zero, List.getElem?_cons_succ, List.length_nil, List.length_cons, Nat.zero_le, true_and, List.append_eq, List.cons_append, List.nil_append, List.replicate_zero, List.replicate_succ]
  refine po_putr H19 (by decide) (fun mm20 (H20 : PO m1 (w) 8 [vi 0, vr (w + 1), vr (w + 2), vr (w + 3), vi 0, vr (w + 4), vr (w + 5), vr (w + 6), vr (w + 7), vr (w + 8), vr (w + 9), vn, vn, vi 0, vi 0, vn, vn] (w + 13) (fun b => if b = w + 15 then ca 0 5 (fun _ => 0) else cX b (S0 b)) mm20) => ?_)
  try simp only [w_aload, w_iconst, w_init, w_null, w_return, w_iload, List.getElem?_cons_zero, List.getElem?_cons_succ, List.length_nil, List.length_cons, Nat.zero_le, true_and, List.append_eq, List.cons_append, List.nil_append, List.replicate_zero, List.replicate_succ]
  refine po_sub (n := 2) (c_48 hT hw) hT H20 (Nat.le_of_ble_eq_true rfl) (fun b b0 b1 => if_neg (by omega)) (by decide) (by decide) (fun mm21 (H21 : PO m1 (w) 8 [vi 0, vr (w + 1), vr (w + 2), vr (w + 3), vi 0, vr (w + 4), vr (w + 5), vr (w + 6), vr (w + 7), vr (w + 8), vr (w + 9), vn, vn, vi 0, vi 0, vn, vn] (w + 15) (fun b => if b = w + 15 then ca 0 5 (fun _ => 0) else cX b (S0 b)) mm21) => ?_)
  try simp only [w_aload, w_iconst, w_init, w_null, w_return, w_iload, List.getElem?_cons_zero, List.getElem?_cons_succ, List.length_nil, List.length_cons, Nat.zero_le, true_and, List.append_eq, List.cons_append, List.nil_append, List.replicate_zero, List.replicate_succ]
  refine po_putr H21 (by decide) (fun mm22 (H22 : PO m1 (w) 8 [vi 0, vr (w + 1), vr (w + 2), vr (w + 3), vi 0, vr (w + 4), vr (w + 5), vr (w + 6), vr (w + 7), vr (w + 8), vr (w + 9), vr (w + 13), vn, vi 0, vi 0, vn, vn] (w + 15) (fun b => if b = w + 15 then ca 0 5 (fun _ => 0) else cX b (S0 b)) mm22) => ?_)
  try simp only [w_aload, w_iconst, w_init, w_null, w_return, w_iload, List.getElem?_cons_zero, List.getElem?_cons_succ, List.length_nil, List.length_cons, Nat.zero_le, true_and, List.append_eq, List.cons_append, List.nil_append, List.replicate_zero, List.replicate_succ]
  refine po_newi H22 (if_pos rfl) (by decide) (fun mm23 (H23 : PO m1 (w) 8 [vi 0, vr (w + 1), vr (w + 2), vr (w + 3), vi 0, vr (w + 4), vr (w + 5), vr (w + 6), vr (w + 7), vr (w + 8), vr (w + 9), vr (w + 13), vn, vi 0, vi 0, vn, vn] (w + 16) (fun b => if b = w + 15 then ca 0 5 (fun _ => 0) else cX b (S0 b)) mm23) => ?_)
  try simp only [w_aload, w_iconst, w_init, w_null, w_return, w_iload, List.getElem?_cons_zero, List.getElem?_cons_succ, List.length_nil, List.length_cons, Nat.zero_le, true_and, List.append_eq, List.cons_append, List.nil_append, List.replicate_zero, List.replicate_succ]
  refine po_putr H23 (by decide) (fun mm24 (H24 : PO m1 (w) 8 [vi 0, vr (w + 1), vr (w + 2), vr (w + 3), vi 0, vr (w + 4), vr (w + 5), vr (w + 6), vr (w + 7), vr (w + 8), vr (w + 9), vr (w + 13), vr (w + 15), vi 0, vi 0, vn, vn] (w + 16) (fun b => if b = w + 15 then ca 0 5 (fun _ => 0) else cX b (S0 b)) mm24) => ?_)
  try simp only [w_aload, w_iconst, w_init, w_null, w_return, w_iload, List.getElem?_cons_zero, List.getElem?_cons_succ, List.length_nil, List.length_cons, Nat.zero_le, true_and, List.append_eq, List.cons_append, List.nil_append, List.replicate_zero, List.replicate_succ]
  refine po_putf H24 (by decide) (fun mm25 (H25 : PO m1 (w) 8 [vi 0, vr (w + 1), vr (w + 2), vr (w + 3), vi 0, vr (w + 4), vr (w + 5), vr (w + 6), vr (w + 7), vr (w + 8), vr (w + 9), vr (w + 13), vr (w + 15), vi 1, vi 0, vn, vn] (w + 16) (fun b => if b = w + 15 then ca 0 5 (fun _ => 0) else cX b (S0 b)) mm25) => ?_)
  try simp only [w_aload, w_iconst, w_init, w_null, w_return, w_iload, List.getElem?_cons_zero, List.getElem?_cons_succ, List.length_nil, List.length_cons, Nat.zero_le, true_and, List.append_eq, List.cons_append, List.nil_append, List.replicate_zero, List.replicate_succ]
  refine po_putf H25 (by decide) (fun mm26 (H26 : PO m1 (w) 8 [vi 0, vr (w + 1), vr (w + 2), vr (w + 3), vi 0, vr (w + 4), vr (w + 5), vr (w + 6), vr (w + 7), vr (w + 8), vr (w + 9), vr (w + 13), vr (w + 15), vi 1, vi 0, vn, vn] (w + 16) (fun b => if b = w + 15 then ca 0 5 (fun _ => 0) else cX b (S0 b)) mm26) => ?_)
  try simp only [w_aload, w_iconst, w_init, w_null, w_return, w_iload, List.getElem?_cons_zero, List.getElem?_cons_succ, List.length_nil, List.length_cons, Nat.zero_le, true_and, List.append_eq, List.cons_append, List.nil_append, List.replicate_zero, List.replicate_succ]
  refine po_putr H26 (by decide) (fun mm27 (H27 : PO m1 (w) 8 [vi 0, vr (w + 1), vr (w + 2), vr (w + 3), vi 0, vr (w + 4), vr (w + 5), vr (w + 6), vr (w + 7), vr (w + 8), vr (w + 9), vr (w + 13), vr (w + 15), vi 1, vi 0, vn, vn] (w + 16) (fun b => if b = w + 15 then ca 0 5 (fun _ => 0) else cX b (S0 b)) mm27) => ?_)
  try simp only [w_aload, w_iconst, w_init, w_null, w_return, w_iload, List.getElem?_cons_zero, List.getElem?_cons_succ, List.length_nil, List.length_cons, Nat.zero_le, true_and, List.append_eq, List.cons_append, List.nil_append, List.replicate_zero, List.replicate_succ]
  refine po_newi H27 ((if_neg (by omega)).trans (G_i (isA_w16 hw) (by rw [len_w16 hw]; rfl) (fun j => S0_wk (k := 16) hw (by decide) (by decide) (by decide) j))) (by decide) (fun mm28 (H28 : PO m1 (w) 8 [vi 0, vr (w + 1), vr (w + 2), vr (w + 3), vi 0, vr (w + 4), vr (w + 5), vr (w + 6), vr (w + 7), vr (w + 8), vr (w + 9), vr (w + 13), vr (w + 15), vi 1, vi 0, vn, vn] (w + 17) (fun b => if b = w + 15 then ca 0 5 (fun _ => 0) else cX b (S0 b)) mm28) => ?_)
  try simp only [w_aload, w_iconst, w_init, w_null, w_return, w_iload, List.getElem?_cons_zero, List.getElem?_cons_succ, List.length_nil, List.length_cons, Nat.zero_le, true_and, List.append_eq, List.cons_append, List.nil_append, List.replicate_zero, List.replicate_succ]
  refine po_putr H28 (by decide) (fun mm29 (H29 : PO m1 (w) 8 [vi 0, vr (w + 1), vr (w + 2), vr (w + 3), vi 0, vr (w + 4), vr (w + 5), vr (w + 6), vr (w + 7), vr (w + 8), vr (w + 9), vr (w + 13), vr (w + 15), vi 1, vi 0, vn, vr (w + 16)] (w + 17) (fun b => if b = w + 15 then ca 0 5 (fun _ => 0) else cX b (S0 b)) mm29) => ?_)
  try simp only [w_aload, w_iconst, w_init, w_null, w_return, w_iload, List.getElem?_cons_zero, List.getElem?_cons_succ, List.length_nil, List.length_cons, Nat.zero_le, true_and, List.append_eq, List.cons_append, List.nil_append, List.replicate_zero, List.replicate_succ]
  refine po_get H29 (by decide) rfl ?_
  try simp only [w_aload, w_iconst, w_init, w_null, w_return, w_iload, List.getElem?_cons_zero, List.getElem?_cons_succ, List.length_nil, List.length_cons, Nat.zero_le, true_and, List.append_eq, List.cons_append, List.nil_append, List.replicate_zero, List.replicate_succ]
  refine po_ist (len := 5) (f := fun _ => 0) H29 ⟨by omega, by omega⟩ (if_pos rfl) (by decide) (fun mm80 H80 => ?_)
  try simp only [w_aload, w_iconst, w_init, w_null, w_return, w_iload, List.getElem?_cons_zero, List.getElem?_cons_succ, List.length_nil, List.length_cons, Nat.zero_le, true_and, List.append_eq, List.cons_append, List.nil_append, List.replicate_zero, List.replicate_succ]
  refine po_get H80 (by decide) rfl ?_
  try simp only [w_aload, w_iconst, w_init, w_null, w_return, w_iload, List.getElem?_cons_zero, List.getElem?_cons_succ, List.length_nil, List.length_cons, Nat.zero_le, true_and, List.append_eq, List.cons_append, List.nil_append, List.replicate_zero, List.replicate_succ]
  refine po_ist (len := 5) (f := up (fun _ => 0) 0 5) H80 ⟨by omega, by omega⟩ (if_pos rfl) (by decide) (fun mm81 H81 => ?_)
  try simp only [w_aload, w_iconst, w_init, w_null, w_return, w_iload, List.getElem?_cons_zero, List.getElem?_cons_succ, List.length_nil, List.length_cons, Nat.zero_le, true_and, List.append_eq, List.cons_append, List.nil_append, List.replicate_zero, List.replicate_succ]
  refine po_end (n := 17) H81 (by decide) ?_ (fun b b0 b1 => ?_) hK
  · rw [show cX w (S0 w) = wX w 0 (S0 w) from cX_w (k := 0) hw (by decide) (S0 w)]
    show _ = co 8 _
    simp only [S0_w0 hw]
    rfl
  · show (if b = w + 15 then _ else if b = w + 15 then _ else if b = w + 15 then _ else cX b (S0 b)) = cX b (S0 b)
    by_cases z : b = w + 15
    · rw [if_pos z, z, (isA_w15 hw).2, len_w15 hw]
      refine congrArg (ca 0 5) (funext fun j => ?_)
      rw [S0_w15 hw]
      show (if j = 1 then (50 : Int) else if j = 0 then 5 else 0) = _
      by_cases z0 : j = 0
      · subst z0; rfl
      · by_cases z1 : j = 1
        · subst z1; rfl
        · rw [if_neg z1, if_neg z0, if_neg (by omega), if_neg (by omega)]
    · rw [if_neg z, if_neg z, if_neg z]
theorem k93_0 : pg.1 93 0 = [.aload 0, .invokespecial 0, .aload 0, .bipush 0, .newarray .int, .putstatic 700, .aload 0, .bipush 0, .putfield 701, .aload 0, .bipush 0, .putfield 702, .aload 0, .bipush 0, .putfield 703, .aload 0, .bipush 3, .putfield 704, .aload 0, .bipush (-1), .putfield 705, .aload 0, .bipush (-1), .putfield 706, .return_] := rfl
theorem a93_0 {tb : Tab} {d : Nat} {K : Out → AM → Prop} {ls st : List AV} {m : AM} : At tb d 93 K 0 ls st m = wpB tb (pg.2.1 93) (Runs tb pg d) K (At tb d 93 K) [.aload 0, .invokespecial 0, .aload 0, .bipush 0, .newarray .int, .putstatic 700, .aload 0, .bipush 0, .putfield 701, .aload 0, .bipush 0, .putfield 702, .aload 0, .bipush 0, .putfield 703, .aload 0, .bipush 3, .putfield 704, .aload 0, .bipush (-1), .putfield 705, .aload 0, .bipush (-1), .putfield 706, .return_] ls st m := At.eq k93_0
theorem c_93_55 {tb : Tab} {d : Nat} (hT : tb.1 = dfl) : CTR tb (d + 1) 93 7 2 55 := by
  intro m1 K hC hc hK
  have H : PO m1 55 7 [vn, vi 0, vi 0, vi 0, vi 0, vi 0, vi 0] (56) (fun b => cX b (S0 b)) m1 := po_start hC hc
  refine Runs.of (al := [vr 55]) (n := 0) ⟨55, _, _, rfl, hc⟩ rfl rfl trivial ?_
  rw [At.eq k93_0]
  try simp only [w_aload, w_iconst, w_init, w_null, w_return, w_iload, List.getElem?_cons_zero, List.getElem?_cons_succ, List.length_nil, List.length_cons, Nat.zero_le, true_and, List.append_eq, List.cons_append, List.nil_append, List.replicate_zero, List.replicate_succ]
  refine po_newi H (G_i isA_56 (by rw [len_56]; rfl) (fun j => rfl)) (by decide) (fun mm1 (H1 : PO m1 55 7 [vn, vi 0, vi 0, vi 0, vi 0, vi 0, vi 0] (57) (fun b => cX b (S0 b)) mm1) => ?_)
  try simp only [w_aload, w_iconst, w_init, w_null, w_return, w_iload, List.getElem?_cons_zero, List.getElem?_cons_succ, List.length_nil, List.length_cons, Nat.zero_le, true_and, List.append_eq, List.cons_append, List.nil_append, List.replicate_zero, List.replicate_succ]
  refine po_putr H1 (by decide) (fun mm2 (H2 : PO m1 55 7 [vr 56, vi 0, vi 0, vi 0, vi 0, vi 0, vi 0] (57) (fun b => cX b (S0 b)) mm2) => ?_)
  try simp only [w_aload, w_iconst, w_init, w_null, w_return, w_iload, List.getElem?_cons_zero, List.getElem?_cons_succ, List.length_nil, List.length_cons, Nat.zero_le, true_and, List.append_eq, List.cons_append, List.nil_append, List.replicate_zero, List.replicate_succ]
  refine po_putf H2 (by decide) (fun mm3 (H3 : PO m1 55 7 [vr 56, vi 0, vi 0, vi 0, vi 0, vi 0, vi 0] (57) (fun b => cX b (S0 b)) mm3) => ?_)
  try simp only [w_aload, w_iconst, w_init, w_null, w_return, w_iload, List.getElem?_cons_zero, List.getElem?_cons_succ, List.length_nil, List.length_cons, Nat.zero_le, true_and, List.append_eq, List.cons_append, List.nil_append, List.replicate_zero, List.replicate_succ]
  refine po_putf H3 (by decide) (fun mm4 (H4 : PO m1 55 7 [vr 56, vi 0, vi 0, vi 0, vi 0, vi 0, vi 0] (57) (fun b => cX b (S0 b)) mm4) => ?_)
  try simp only [w_aload, w_iconst, w_init, w_null, w_return, w_iload, List.getElem?_cons_zero, List.getElem?_cons_succ, List.length_nil, List.length_cons, Nat.zero_le, true_and, List.append_eq, List.cons_append, List.nil_append, List.replicate_zero, List.replicate_succ]
  refine po_putf H4 (by decide) (fun mm5 (H5 : PO m1 55 7 [vr 56, vi 0, vi 0, vi 0, vi 0, vi 0, vi 0] (57) (fun b => cX b (S0 b)) mm5) => ?_)
  try simp only [w_aload, w_iconst, w_init, w_null, w_return, w_iload, List.getElem?_cons_zero, List.getElem?_cons_succ, List.length_nil, List.length_cons, Nat.zero_le, true_and, List.append_eq, List.cons_append, List.nil_append, List.replicate_zero, List.replicate_succ]
  refine po_putf H5 (by decide) (fun mm6 (H6 : PO m1 55 7 [vr 56, vi 0, vi 0, vi 0, vi 3, vi 0, vi 0] (57) (fun b => cX b (S0 b)) mm6) => ?_)
  try simp only [w_aload, w_iconst, w_init, w_null, w_return, w_iload, List.getElem?_cons_zero, List.getElem?_cons_succ, List.length_nil, List.length_cons, Nat.zero_le, true_and, List.append_eq, List.cons_append, List.nil_append, List.replicate_zero, List.replicate_succ]
  refine po_putf H6 (by decide) (fun mm7 (H7 : PO m1 55 7 [vr 56, vi 0, vi 0, vi 0, vi 3, vi (-1), vi 0] (57) (fun b => cX b (S0 b)) mm7) => ?_)
  try simp only [w_aload, w_iconst, w_init, w_null, w_return, w_iload, List.getElem?_cons_zero, List.getElem?_cons_succ, List.length_nil, List.length_cons, Nat.zero_le, true_and, List.append_eq, List.cons_append, List.nil_append, List.replicate_zero, List.replicate_succ]
  refine po_putf H7 (by decide) (fun mm8 (H8 : PO m1 55 7 [vr 56, vi 0, vi 0, vi 0, vi 3, vi (-1), vi (-1)] (57) (fun b => cX b (S0 b)) mm8) => ?_)
  try simp only [w_aload, w_iconst, w_init, w_null, w_return, w_iload, List.getElem?_cons_zero, List.getElem?_cons_succ, List.length_nil, List.length_cons, Nat.zero_le, true_and, List.append_eq, List.cons_append, List.nil_append, List.replicate_zero, List.replicate_succ]
  exact po_end (n := 2) H8 (by decide) (rfl) (fun _ _ _ => rfl) hK
theorem c_93_58 {tb : Tab} {d : Nat} (hT : tb.1 = dfl) : CTR tb (d + 1) 93 7 2 58 := by
  intro m1 K hC hc hK
  have H : PO m1 58 7 [vn, vi 0, vi 0, vi 0, vi 0, vi 0, vi 0] (59) (fun b => cX b (S0 b)) m1 := po_start hC hc
  refine Runs.of (al := [vr 58]) (n := 0) ⟨58, _, _, rfl, hc⟩ rfl rfl trivial ?_
  rw [At.eq k93_0]
  try simp only [w_aload, w_iconst, w_init, w_null, w_return, w_iload, List.getElem?_cons_zero, List.getElem?_cons_succ, List.length_nil, List.length_cons, Nat.zero_le, true_and, List.append_eq, List.cons_append, List.nil_append, List.replicate_zero, List.replicate_succ]
  refine po_newi H (G_i isA_59 (by rw [len_59]; rfl) (fun j => rfl)) (by decide) (fun mm1 (H1 : PO m1 58 7 [vn, vi 0, vi 0, vi 0, vi 0, vi 0, vi 0] (60) (fun b => cX b (S0 b)) mm1) => ?_)
  try simp only [w_aload, w_iconst, w_init, w_null, w_return, w_iload, List.getElem?_cons_zero, List.getElem?_cons_succ, List.length_nil, List.length_cons, Nat.zero_le, true_and, List.append_eq, List.cons_append, List.nil_append, List.replicate_zero, List.replicate_succ]
  refine po_putr H1 (by decide) (fun mm2 (H2 : PO m1 58 7 [vr 59, vi 0, vi 0, vi 0, vi 0, vi 0, vi 0] (60) (fun b => cX b (S0 b)) mm2) => ?_)
  try simp only [w_aload, w_iconst, w_init, w_null, w_return, w_iload, List.getElem?_cons_zero, List.getElem?_cons_succ, List.length_nil, List.length_cons, Nat.zero_le, true_and, List.append_eq, List.cons_append, List.nil_append, List.replicate_zero, List.replicate_succ]
  refine po_putf H2 (by decide) (fun mm3 (H3 : PO m1 58 7 [vr 59, vi 0, vi 0, vi 0, vi 0, vi 0, vi 0] (60) (fun b => cX b (S0 b)) mm3) => ?_)
  try simp only [w_aload, w_iconst, w_init, w_null, w_return, w_iload, List.getElem?_cons_zero, List.getElem?_cons_succ, List.length_nil, List.length_cons, Nat.zero_le, true_and, List.append_eq, List.cons_append, List.nil_append, List.replicate_zero, List.replicate_succ]
  refine po_putf H3 (by decide) (fun mm4 (H4 : PO m1 58 7 [vr 59, vi 0, vi 0, vi 0, vi 0, vi 0, vi 0] (60) (fun b => cX b (S0 b)) mm4) => ?_)
  try simp only [w_aload, w_iconst, w_init, w_null, w_return, w_iload, List.getElem?_cons_zero, List.getElem?_cons_succ, List.length_nil, List.length_cons, Nat.zero_le, true_and, List.append_eq, List.cons_append, List.nil_append, List.replicate_zero, List.replicate_succ]
  refine po_putf H4 (by decide) (fun mm5 (H5 : PO m1 58 7 [vr 59, vi 0, vi 0, vi 0, vi 0, vi 0, vi 0] (60) (fun b => cX b (S0 b)) mm5) => ?_)
  try simp only [w_aload, w_iconst, w_init, w_null, w_return, w_iload, List.getElem?_cons_zero, List.getElem?_cons_succ, List.length_nil, List.length_cons, Nat.zero_le, true_and, List.append_eq, List.cons_append, List.nil_append, List.replicate_zero, List.replicate_succ]
  refine po_putf H5 (by decide) (fun mm6 (H6 : PO m1 58 7 [vr 59, vi 0, vi 0, vi 0, vi 3, vi 0, vi 0] (60) (fun b => cX b (S0 b)) mm6) => ?_)
  try simp only [w_aload, w_iconst, w_init, w_null, w_return, w_iload, List.getElem?_cons_zero, List.getElem?_cons_succ, List.length_nil, List.length_cons, Nat.zero_le, true_and, List.append_eq, List.cons_append, List.nil_append, List.replicate_zero, List.replicate_succ]
  refine po_putf H6 (by decide) (fun mm7 (H7 : PO m1 58 7 [vr 59, vi 0, vi 0, vi 0, vi 3, vi (-1), vi 0] (60) (fun b => cX b (S0 b)) mm7) => ?_)
  try simp only [w_aload, w_iconst, w_init, w_null, w_return, w_iload, List.getElem?_cons_zero, List.getElem?_cons_succ, List.length_nil, List.length_cons, Nat.zero_le, true_and, List.append_eq, List.cons_append, List.nil_append, List.replicate_zero, List.replicate_succ]
  refine po_putf H7 (by decide) (fun mm8 (H8 : PO m1 58 7 [vr 59, vi 0, vi 0, vi 0, vi 3, vi (-1), vi (-1)] (60) (fun b => cX b (S0 b)) mm8) => ?_)
  try simp only [w_aload, w_iconst, w_init, w_null, w_return, w_iload, List.getElem?_cons_zero, List.getElem?_cons_succ, List.length_nil, List.length_cons, Nat.zero_le, true_and, List.append_eq, List.cons_append, List.nil_append, List.replicate_zero, List.replicate_succ]
  exact po_end (n := 2) H8 (by decide) (rfl) (fun _ _ _ => rfl) hK
theorem k82_0 : pg.1 82 0 = [.aload 0, .invokespecial 0, .aload 0, .new 7, .dup, .invokeinterface 93 1, .putstatic 600, .aload 0, .bipush (-1), .putfield 601, .return_] := rfl
theorem a82_0 {tb : Tab} {d : Nat} {K : Out → AM → Prop} {ls st : List AV} {m : AM} : At tb d 82 K 0 ls st m = wpB tb (pg.2.1 82) (Runs tb pg d) K (At tb d 82 K) [.aload 0, .invokespecial 0, .aload 0, .new 7, .dup, .invokeinterface 93 1, .putstatic 600, .aload 0, .bipush (-1), .putfield 601, .return_] ls st m := At.eq k82_0
theorem c_82 {tb : Tab} {d : Nat} (hT : tb.1 = dfl) : CTR tb (d + 2) 82 6 3 54 := by
  intro m1 K hC hc hK
  have H : PO m1 54 6 [vn, vi 0] (55) (fun b => cX b (S0 b)) m1 := po_start hC hc
  refine Runs.of (al := [vr 54]) (n := 0) ⟨54, _, _, rfl, hc⟩ rfl rfl trivial ?_
  rw [At.eq k82_0]
  try simp only [w_aload, w_iconst, w_init, w_null, w_return, w_iload, List.getElem?_cons_zero, List.getElem?_cons_succ, List.length_nil, List.length_cons, Nat.zero_le, true_and, List.append_eq, List.cons_append, List.nil_append, List.replicate_zero, List.replicate_succ]
  refine po_sub (n := 2) (c_93_55 hT) hT H (Nat.le_of_ble_eq_true rfl) (fun _ _ _ => rfl) (by decide) (by decide) (fun mm1 (H1 : PO m1 54 6 [vn, vi 0] (57) (fun b => cX b (S0 b)) mm1) => ?_)
  try simp only [w_aload, w_iconst, w_init, w_null, w_return, w_iload, List.getElem?_cons_zero, List.getElem?_cons_succ, List.length_nil, List.length_cons, Nat.zero_le, true_and, List.append_eq, List.cons_append, List.nil_append, List.replicate_zero, List.replicate_succ]
  refine po_putr H1 (by decide) (fun mm2 (H2 : PO m1 54 6 [vr 55, vi 0] (57) (fun b => cX b (S0 b)) mm2) => ?_)
  try simp only [w_aload, w_iconst, w_init, w_null, w_return, w_iload, List.getElem?_cons_zero, List.getElem?_cons_succ, List.length_nil, List.length_cons, Nat.zero_le, true_and, List.append_eq, List.cons_append, List.nil_append, List.replicate_zero, List.replicate_succ]
  refine po_putf H2 (by decide) (fun mm3 (H3 : PO m1 54 6 [vr 55, vi (-1)] (57) (fun b => cX b (S0 b)) mm3) => ?_)
  try simp only [w_aload, w_iconst, w_init, w_null, w_return, w_iload, List.getElem?_cons_zero, List.getElem?_cons_succ, List.length_nil, List.length_cons, Nat.zero_le, true_and, List.append_eq, List.cons_append, List.nil_append, List.replicate_zero, List.replicate_succ]
  exact po_end (n := 3) H3 (by decide) (rfl) (fun _ _ _ => rfl) hK
theorem k37_0 : pg.1 37 0 = [.aload 0, .invokespecial 0, .aload 0, .new 7, .dup, .invokeinterface 93 1, .putstatic 300, .aload 0, .bipush 12, .newarray .int, .putstatic 301, .aload 0, .bipush 12, .newarray .int, .putstatic 302, .aload 0, .bipush 13, .newarray .int, .putstatic 303, .aload 0, .bipush 400, .newarray .int, .putstatic 304, .aload 0, .bipush 0, .putfield 305, .return_] := rfl
theorem a37_0 {tb : Tab} {d : Nat} {K : Out → AM → Prop} {ls st : List AV} {m : AM} : At tb d 37 K 0 ls st m = wpB tb (pg.2.1 37) (Runs tb pg d) K (At tb d 37 K) [.aload 0, .invokespecial 0, .aload 0, .new 7, .dup, .invokeinterface 93 1, .putstatic 300, .aload 0, .bipush 12, .newarray .int, .putstatic 301, .aload 0, .bipush 12, .newarray .int, .putstatic 302, .aload 0, .bipush 13, .newarray .int, .putstatic 303, .aload 0, .bipush 400, .newarray .int, .putstatic 304, .aload 0, .bipush 0, .putfield 305, .return_] ls st m := At.eq k37_0
theorem c_37 {tb : Tab} {d : Nat} (hT : tb.1 = dfl) : CTR tb (d + 2) 37 3 7 57 := by
  intro m1 K hC hc hK
  have H : PO m1 57 3 [vn, vn, vn, vn, vn, vi 0] (58) (fun b => cX b (S0 b)) m1 := po_start hC hc
  refine Runs.of (al := [vr 57]) (n := 0) ⟨57, _, _, rfl, hc⟩ rfl rfl trivial ?_
  rw [At.eq k37_0]
  try simp only [w_aload, w_iconst, w_init, w_null, w_return, w_iload, List.getElem?_cons_zero, List.getElem?_cons_succ, List.length_nil, List.length_cons, Nat.zero_le, true_and, List.append_eq, List.cons_append, List.nil_append, List.replicate_zero, List.replicate_succ]
  refine po_sub (n := 2) (c_93_58 hT) hT H (Nat.le_of_ble_eq_true rfl) (fun _ _ _ => rfl) (by decide) (by decide) (fun mm1 (H1 : PO m1 57 3 [vn, vn, vn, vn, vn, vi 0] (60) (fun b => cX b (S0 b)) mm1) => ?_)
  try simp only [w_aload, w_iconst, w_init, w_null, w_return, w_iload, List.getElem?_cons_zero, List.getElem?_cons_succ, List.length_nil, List.length_cons, Nat.zero_le, true_and, List.append_eq, List.cons_append, List.nil_append, List.replicate_zero, List.replicate_succ]
  refine po_putr H1 (by decide) (fun mm2 (H2 : PO m1 57 3 [vr 58, vn, vn, vn, vn, vi 0] (60) (fun b => cX b (S0 b)) mm2) => ?_)
  try simp only [w_aload, w_iconst, w_init, w_null, w_return, w_iload, List.getElem?_cons_zero, List.getElem?_cons_succ, List.length_nil, List.length_cons, Nat.zero_le, true_and, List.append_eq, List.cons_append, List.nil_append, List.replicate_zero, List.replicate_succ]
  refine po_newi H2 (G_i isA_60 (by rw [len_60]; rfl) (fun j => rfl)) (by decide) (fun mm3 (H3 : PO m1 57 3 [vr 58, vn, vn, vn, vn, vi 0] (61) (fun b => cX b (S0 b)) mm3) => ?_)
  try simp only [w_aload, w_iconst, w_init, w_null, w_return, w_iload, List.getElem?_cons_zero, List.getElem?_cons_succ, List.length_nil, List.length_cons, Nat.zero_le, true_and, List.append_eq, List.cons_append, List.nil_append, List.replicate_zero, List.replicate_succ]
  refine po_putr H3 (by decide) (fun mm4 (H4 : PO m1 57 3 [vr 58, vr 60, vn, vn, vn, vi 0] (61) (fun b => cX b (S0 b)) mm4) => ?_)
  try simp only [w_aload, w_iconst, w_init, w_null, w_return, w_iload, List.getElem?_cons_zero, List.getElem?_cons_succ, List.length_nil, List.length_cons, Nat.zero_le, true_and, List.append_eq, List.cons_append, List.nil_append, List.replicate_zero, List.replicate_succ]
  refine po_newi H4 (G_i isA_61 (by rw [len_61]; rfl) (fun j => rfl)) (by decide) (fun mm5 (H5 : PO m1 57 3 [vr 58, vr 60, vn, vn, vn, vi 0] (62) (fun b => cX b (S0 b)) mm5) => ?_)
  try simp only [w_aload, w_iconst, w_init, w_null, w_return, w_iload, List.getElem?_cons_zero, List.getElem?_cons_succ, List.length_nil, List.length_cons, Nat.zero_le, true_and, List.append_eq, List.cons_append, List.nil_append, List.replicate_zero, List.replicate_succ]
  refine po_putr H5 (by decide) (fun mm6 (H6 : PO m1 57 3 [vr 58, vr 60, vr 61, vn, vn, vi 0] (62) (fun b => cX b (S0 b)) mm6) => ?_)
  try simp only [w_aload, w_iconst, w_init, w_null, w_return, w_iload, List.getElem?_cons_zero, List.getElem?_cons_succ, List.length_nil, List.length_cons, Nat.zero_le, true_and, List.append_eq, List.cons_append, List.nil_append, List.replicate_zero, List.replicate_succ]
  refine po_newi H6 (G_i isA_62 (by rw [len_62]; rfl) (fun j => rfl)) (by decide) (fun mm7 (H7 : PO m1 57 3 [vr 58, vr 60, vr 61, vn, vn, vi 0] (63) (fun b => cX b (S0 b)) mm7) => ?_)
  try simp only [w_aload, w_iconst, w_init, w_null, w_return, w_iload, List.getElem?_cons_zero, List.getElem?_cons_succ, List.length_nil, List.length_cons, Nat.zero_le, true_and, List.append_eq, List.cons_append, List.nil_append, List.replicate_zero, List.replicate_succ]
  refine po_putr H7 (by decide) (fun mm8 (H8 : PO m1 57 3 [vr 58, vr 60, vr 61, vr 62, vn, vi 0] (63) (fun b => cX b (S0 b)) mm8) => ?_)
  try simp only [w_aload, w_iconst, w_init, w_null, w_return, w_iload, List.getElem?_cons_zero, List.getElem?_cons_succ, List.length_nil, List.length_cons, Nat.zero_le, true_and, List.append_eq, List.cons_append, List.nil_append, List.replicate_zero, List.replicate_succ]
  refine po_newi H8 (G_i isA_63 (by rw [len_63]; rfl) (fun j => rfl)) (by decide) (fun mm9 (H9 : PO m1 57 3 [vr 58, vr 60, vr 61, vr 62, vn, vi 0] (64) (fun b => cX b (S0 b)) mm9) => ?_)
  try simp only [w_aload, w_iconst, w_init, w_null, w_return, w_iload, List.getElem?_cons_zero, List.getElem?_cons_succ, List.length_nil, List.length_cons, Nat.zero_le, true_and, List.append_eq, List.cons_append, List.nil_append, List.replicate_zero, List.replicate_succ]
  refine po_putr H9 (by decide) (fun mm10 (H10 : PO m1 57 3 [vr 58, vr 60, vr 61, vr 62, vr 63, vi 0] (64) (fun b => cX b (S0 b)) mm10) => ?_)
  try simp only [w_aload, w_iconst, w_init, w_null, w_return, w_iload, List.getElem?_cons_zero, List.getElem?_cons_succ, List.length_nil, List.length_cons, Nat.zero_le, true_and, List.append_eq, List.cons_append, List.nil_append, List.replicate_zero, List.replicate_succ]
  refine po_putf H10 (by decide) (fun mm11 (H11 : PO m1 57 3 [vr 58, vr 60, vr 61, vr 62, vr 63, vi 0] (64) (fun b => cX b (S0 b)) mm11) => ?_)
  try simp only [w_aload, w_iconst, w_init, w_null, w_return, w_iload, List.getElem?_cons_zero, List.getElem?_cons_succ, List.length_nil, List.length_cons, Nat.zero_le, true_and, List.append_eq, List.cons_append, List.nil_append, List.replicate_zero, List.replicate_succ]
  exact po_end (n := 7) H11 (by decide) (rfl) (fun _ _ _ => rfl) hK
theorem k54_0 : pg.1 54 0 = [.aload 0, .invokespecial 0, .aload 0, .bipush 49, .newarray .int, .putstatic 500, .aload 0, .bipush 12, .newarray .int, .putstatic 501, .aload 0, .bipush 0, .putfield 502, .aload 0, .bipush 6, .newarray .int, .putstatic 503, .aload 0, .bipush 6, .newarray .int, .putstatic 504, .aload 0, .bipush 6, .newarray .int, .putstatic 505, .aload 0, .bipush (-1), .putfield 506, .return_] := rfl
theorem a54_0 {tb : Tab} {d : Nat} {K : Out → AM → Prop} {ls st : List AV} {m : AM} : At tb d 54 K 0 ls st m = wpB tb (pg.2.1 54) (Runs tb pg d) K (At tb d 54 K) [.aload 0, .invokespecial 0, .aload 0, .bipush 49, .newarray .int, .putstatic 500, .aload 0, .bipush 12, .newarray .int, .putstatic 501, .aload 0, .bipush 0, .putfield 502, .aload 0, .bipush 6, .newarray .int, .putstatic 503, .aload 0, .bipush 6, .newarray .int, .putstatic 504, .aload 0, .bipush 6, .newarray .int, .putstatic 505, .aload 0, .bipush (-1), .putfield 506, .return_] ls st m := At.eq k54_0
theorem c_54 {tb : Tab} {d : Nat} (hT : tb.1 = dfl) : CTR tb (d + 1) 54 5 6 64 := by
  intro m1 K hC hc hK
  have H : PO m1 64 5 [vn, vn, vi 0, vn, vn, vn, vi 0] (65) (fun b => cX b (S0 b)) m1 := po_start hC hc
  refine Runs.of (al := [vr 64]) (n := 0) ⟨64, _, _, rfl, hc⟩ rfl rfl trivial ?_
  rw [At.eq k54_0]
  try simp only [w_aload, w_iconst, w_init, w_null, w_return, w_iload, List.getElem?_cons_zero, List.getElem?_cons_succ, List.length_nil, List.length_cons, Nat.zero_le, true_and, List.append_eq, List.cons_append, List.nil_append, List.replicate_zero, List.replicate_succ]
  refine po_newi H (G_i isA_65 (by rw [len_65]; rfl) (fun j => rfl)) (by decide) (fun mm1 (H1 : PO m1 64 5 [vn, vn, vi 0, vn, vn, vn, vi 0] (66) (fun b => cX b (S0 b)) mm1) => ?_)
  try simp only [w_aload, w_iconst, w_init, w_null, w_return, w_iload, List.getElem?_cons_zero, List.getElem?_cons_succ, List.length_nil, List.length_cons, Nat.zero_le, true_and, List.append_eq, List.cons_append, List.nil_append, List.replicate_zero, List.replicate_succ]
  refine po_putr H1 (by decide) (fun mm2 (H2 : PO m1 64 5 [vr 65, vn, vi 0, vn, vn, vn, vi 0] (66) (fun b => cX b (S0 b)) mm2) => ?_)
  try simp only [w_aload, w_iconst, w_init, w_null, w_return, w_iload, List.getElem?_cons_zero, List.getElem?_cons_succ, List.length_nil, List.length_cons, Nat.zero_le, true_and, List.append_eq, List.cons_append, List.nil_append, List.replicate_zero, List.replicate_succ]
  refine po_newi H2 (G_i isA_66 (by rw [len_66]; rfl) (fun j => rfl)) (by decide) (fun mm3 (H3 : PO m1 64 5 [vr 65, vn, vi 0, vn, vn, vn, vi 0] (67) (fun b => cX b (S0 b)) mm3) => ?_)
  try simp only [w_aload, w_iconst, w_init, w_null, w_return, w_iload, List.getElem?_cons_zero, List.getElem?_cons_succ, List.length_nil, List.length_cons, Nat.zero_le, true_and, List.append_eq, List.cons_append, List.nil_append, List.replicate_zero, List.replicate_succ]
  refine po_putr H3 (by decide) (fun mm4 (H4 : PO m1 64 5 [vr 65, vr 66, vi 0, vn, vn, vn, vi 0] (67) (fun b => cX b (S0 b)) mm4) => ?_)
  try simp only [w_aload, w_iconst, w_init, w_null, w_return, w_iload, List.getElem?_cons_zero, List.getElem?_cons_succ, List.length_nil, List.length_cons, Nat.zero_le, true_and, List.append_eq, List.cons_append, List.nil_append, List.replicate_zero, List.replicate_succ]
  refine po_putf H4 (by decide) (fun mm5 (H5 : PO m1 64 5 [vr 65, vr 66, vi 0, vn, vn, vn, vi 0] (67) (fun b => cX b (S0 b)) mm5) => ?_)
  try simp only [w_aload, w_iconst, w_init, w_null, w_return, w_iload, List.getElem?_cons_zero, List.getElem?_cons_succ, List.length_nil, List.length_cons, Nat.zero_le, true_and, List.append_eq, List.cons_append, List.nil_append, List.replicate_zero, List.replicate_succ]
  refine po_newi H5 (G_i isA_67 (by rw [len_67]; rfl) (fun j => rfl)) (by decide) (fun mm6 (H6 : PO m1 64 5 [vr 65, vr 66, vi 0, vn, vn, vn, vi 0] (68) (fun b => cX b (S0 b)) mm6) => ?_)
  try simp only [w_aload, w_iconst, w_init, w_null, w_return, w_iload, List.getElem?_cons_zero, List.getElem?_cons_succ, List.length_nil, List.length_cons, Nat.zero_le, true_and, List.append_eq, List.cons_append, List.nil_append, List.replicate_zero, List.replicate_succ]
  refine po_putr H6 (by decide) (fun mm7 (H7 : PO m1 64 5 [vr 65, vr 66, vi 0, vr 67, vn, vn, vi 0] (68) (fun b => cX b (S0 b)) mm7) => ?_)
  try simp only [w_aload, w_iconst, w_init, w_null, w_return, w_iload, List.getElem?_cons_zero, List.getElem?_cons_succ, List.length_nil, List.length_cons, Nat.zero_le, true_and, List.append_eq, List.cons_append, List.nil_append, List.replicate_zero, List.replicate_succ]
  refine po_newi H7 (G_i isA_68 (by rw [len_68]; rfl) (fun j => rfl)) (by decide) (fun mm8 (H8 : PO m1 64 5 [vr 65, vr 66, vi 0, vr 67, vn, vn, vi 0] (69) (fun b => cX b (S0 b)) mm8) => ?_)
  try simp only [w_aload, w_iconst, w_init, w_null, w_return, w_iload, List.getElem?_cons_zero, List.getElem?_cons_succ, List.length_nil, List.length_cons, Nat.zero_le, true_and, List.append_eq, List.cons_append, List.nil_append, List.replicate_zero, List.replicate_succ]
  refine po_putr H8 (by decide) (fun mm9 (H9 : PO m1 64 5 [vr 65, vr 66, vi 0, vr 67, vr 68, vn, vi 0] (69) (fun b => cX b (S0 b)) mm9) => ?_)
  try simp only [w_aload, w_iconst, w_init, w_null, w_return, w_iload, List.getElem?_cons_zero, List.getElem?_cons_succ, List.length_nil, List.length_cons, Nat.zero_le, true_and, List.append_eq, List.cons_append, List.nil_append, List.replicate_zero, List.replicate_succ]
  refine po_newi H9 (G_i isA_69 (by rw [len_69]; rfl) (fun j => rfl)) (by decide) (fun mm10 (H10 : PO m1 64 5 [vr 65, vr 66, vi 0, vr 67, vr 68, vn, vi 0] (70) (fun b => cX b (S0 b)) mm10) => ?_)
  try simp only [w_aload, w_iconst, w_init, w_null, w_return, w_iload, List.getElem?_cons_zero, List.getElem?_cons_succ, List.length_nil, List.length_cons, Nat.zero_le, true_and, List.append_eq, List.cons_append, List.nil_append, List.replicate_zero, List.replicate_succ]
  refine po_putr H10 (by decide) (fun mm11 (H11 : PO m1 64 5 [vr 65, vr 66, vi 0, vr 67, vr 68, vr 69, vi 0] (70) (fun b => cX b (S0 b)) mm11) => ?_)
  try simp only [w_aload, w_iconst, w_init, w_null, w_return, w_iload, List.getElem?_cons_zero, List.getElem?_cons_succ, List.length_nil, List.length_cons, Nat.zero_le, true_and, List.append_eq, List.cons_append, List.nil_append, List.replicate_zero, List.replicate_succ]
  refine po_putf H11 (by decide) (fun mm12 (H12 : PO m1 64 5 [vr 65, vr 66, vi 0, vr 67, vr 68, vr 69, vi (-1)] (70) (fun b => cX b (S0 b)) mm12) => ?_)
  try simp only [w_aload, w_iconst, w_init, w_null, w_return, w_iload, List.getElem?_cons_zero, List.getElem?_cons_succ, List.length_nil, List.length_cons, Nat.zero_le, true_and, List.append_eq, List.cons_append, List.nil_append, List.replicate_zero, List.replicate_succ]
  exact po_end (n := 6) H12 (by decide) (rfl) (fun _ _ _ => rfl) hK
theorem k23_0 : pg.1 23 0 = [.aload 0, .invokespecial 0, .aload 0, .new 8, .dup, .invokeinterface 105 1, .putstatic 100, .aload 0, .bipush 36, .newarray .boolean, .putstatic 101, .aload 0, .bipush 7, .newarray .int, .putstatic 102, .aload 0, .bipush 6, .newarray .int, .putstatic 103, .aload 0, .bipush 6, .newarray .int, .putstatic 104, .aload 0, .bipush 6, .newarray .int, .putstatic 105, .aload 0, .bipush (-1), .putfield 106, .return_] := rfl
theorem a23_0 {tb : Tab} {d : Nat} {K : Out → AM → Prop} {ls st : List AV} {m : AM} : At tb d 23 K 0 ls st m = wpB tb (pg.2.1 23) (Runs tb pg d) K (At tb d 23 K) [.aload 0, .invokespecial 0, .aload 0, .new 8, .dup, .invokeinterface 105 1, .putstatic 100, .aload 0, .bipush 36, .newarray .boolean, .putstatic 101, .aload 0, .bipush 7, .newarray .int, .putstatic 102, .aload 0, .bipush 6, .newarray .int, .putstatic 103, .aload 0, .bipush 6, .newarray .int, .putstatic 104, .aload 0, .bipush 6, .newarray .int, .putstatic 105, .aload 0, .bipush (-1), .putfield 106, .return_] ls st m := At.eq k23_0
theorem c_23 {tb : Tab} {d : Nat} (hT : tb.1 = dfl) : CTR tb (d + 3) 23 1 23 70 := by
  intro m1 K hC hc hK
  have H : PO m1 70 1 [vn, vn, vn, vn, vn, vn, vi 0] (71) (fun b => cX b (S0 b)) m1 := po_start hC hc
  refine Runs.of (al := [vr 70]) (n := 0) ⟨70, _, _, rfl, hc⟩ rfl rfl trivial ?_
  rw [At.eq k23_0]
  try simp only [w_aload, w_iconst, w_init, w_null, w_return, w_iload, List.getElem?_cons_zero, List.getElem?_cons_succ, List.length_nil, List.length_cons, Nat.zero_le, true_and, List.append_eq, List.cons_append, List.nil_append, List.replicate_zero, List.replicate_succ]
  refine po_sub (n := 17) (c_105 hT (Or.inr (Or.inr (Or.inr (Or.inl rfl))))) hT H (Nat.le_of_ble_eq_true rfl) (fun _ _ _ => rfl) (by decide) (by decide) (fun mm1 (H1 : PO m1 70 1 [vn, vn, vn, vn, vn, vn, vi 0] (88) (fun b => cX b (S0 b)) mm1) => ?_)
  try simp only [w_aload, w_iconst, w_init, w_null, w_return, w_iload, List.getElem?_cons_zero, List.getElem?_cons_succ, List.length_nil, List.length_cons, Nat.zero_le, true_and, List.append_eq, List.cons_append, List.nil_append, List.replicate_zero, List.replicate_succ]
  refine po_putr H1 (by decide) (fun mm2 (H2 : PO m1 70 1 [vr 71, vn, vn, vn, vn, vn, vi 0] (88) (fun b => cX b (S0 b)) mm2) => ?_)
  try simp only [w_aload, w_iconst, w_init, w_null, w_return, w_iload, List.getElem?_cons_zero, List.getElem?_cons_succ, List.length_nil, List.length_cons, Nat.zero_le, true_and, List.append_eq, List.cons_append, List.nil_append, List.replicate_zero, List.replicate_succ]
  refine po_newz H2 (rfl) (by decide) (fun mm3 (H3 : PO m1 70 1 [vr 71, vn, vn, vn, vn, vn, vi 0] (89) (fun b => cX b (S0 b)) mm3) => ?_)
  try simp only [w_aload, w_iconst, w_init, w_null, w_return, w_iload, List.getElem?_cons_zero, List.getElem?_cons_succ, List.length_nil, List.length_cons, Nat.zero_le, true_and, List.append_eq, List.cons_append, List.nil_append, List.replicate_zero, List.replicate_succ]
  refine po_putr H3 (by decide) (fun mm4 (H4 : PO m1 70 1 [vr 71, vr 88, vn, vn, vn, vn, vi 0] (89) (fun b => cX b (S0 b)) mm4) => ?_)
  try simp only [w_aload, w_iconst, w_init, w_null, w_return, w_iload, List.getElem?_cons_zero, List.getElem?_cons_succ, List.length_nil, List.length_cons, Nat.zero_le, true_and, List.append_eq, List.cons_append, List.nil_append, List.replicate_zero, List.replicate_succ]
  refine po_newi H4 (G_i isA_89 (by rw [len_89]; rfl) (fun j => rfl)) (by decide) (fun mm5 (H5 : PO m1 70 1 [vr 71, vr 88, vn, vn, vn, vn, vi 0] (90) (fun b => cX b (S0 b)) mm5) => ?_)
  try simp only [w_aload, w_iconst, w_init, w_null, w_return, w_iload, List.getElem?_cons_zero, List.getElem?_cons_succ, List.length_nil, List.length_cons, Nat.zero_le, true_and, List.append_eq, List.cons_append, List.nil_append, List.replicate_zero, List.replicate_succ]
  refine po_putr H5 (by decide) (fun mm6 (H6 : PO m1 70 1 [vr 71, vr 88, vr 89, vn, vn, vn, vi 0] (90) (fun b => cX b (S0 b)) mm6) => ?_)
  try simp only [w_aload, w_iconst, w_init, w_null, w_return, w_iload, List.getElem?_cons_zero, List.getElem?_cons_succ, List.length_nil, List.length_cons, Nat.zero_le, true_and, List.append_eq, List.cons_append, List.nil_append, List.replicate_zero, List.replicate_succ]
  refine po_newi H6 (G_i isA_90 (by rw [len_90]; rfl) (fun j => rfl)) (by decide) (fun mm7 (H7 : PO m1 70 1 [vr 71, vr 88, vr 89, vn, vn, vn, vi 0] (91) (fun b => cX b (S0 b)) mm7) => ?_)
  try simp only [w_aload, w_iconst, w_init, w_null, w_return, w_iload, List.getElem?_cons_zero, List.getElem?_cons_succ, List.length_nil, List.length_cons, Nat.zero_le, true_and, List.append_eq, List.cons_append, List.nil_append, List.replicate_zero, List.replicate_succ]
  refine po_putr H7 (by decide) (fun mm8 (H8 : PO m1 70 1 [vr 71, vr 88, vr 89, vr 90, vn, vn, vi 0] (91) (fun b => cX b (S0 b)) mm8) => ?_)
  try simp only [w_aload, w_iconst, w_init, w_null, w_return, w_iload, List.getElem?_cons_zero, List.getElem?_cons_succ, List.length_nil, List.length_cons, Nat.zero_le, true_and, List.append_eq, List.cons_append, List.nil_append, List.replicate_zero, List.replicate_succ]
  refine po_newi H8 (G_i isA_91 (by rw [len_91]; rfl) (fun j => rfl)) (by decide) (fun mm9 (H9 : PO m1 70 1 [vr 71, vr 88, vr 89, vr 90, vn, vn, vi 0] (92) (fun b => cX b (S0 b)) mm9) => ?_)
  try simp only [w_aload, w_iconst, w_init, w_null, w_return, w_iload, List.getElem?_cons_zero, List.getElem?_cons_succ, List.length_nil, List.length_cons, Nat.zero_le, true_and, List.append_eq, List.cons_append, List.nil_append, List.replicate_zero, List.replicate_succ]
  refine po_putr H9 (by decide) (fun mm10 (H10 : PO m1 70 1 [vr 71, vr 88, vr 89, vr 90, vr 91, vn, vi 0] (92) (fun b => cX b (S0 b)) mm10) => ?_)
  try simp only [w_aload, w_iconst, w_init, w_null, w_return, w_iload, List.getElem?_cons_zero, List.getElem?_cons_succ, List.length_nil, List.length_cons, Nat.zero_le, true_and, List.append_eq, List.cons_append, List.nil_append, List.replicate_zero, List.replicate_succ]
  refine po_newi H10 (G_i isA_92 (by rw [len_92]; rfl) (fun j => rfl)) (by decide) (fun mm11 (H11 : PO m1 70 1 [vr 71, vr 88, vr 89, vr 90, vr 91, vn, vi 0] (93) (fun b => cX b (S0 b)) mm11) => ?_)
  try simp only [w_aload, w_iconst, w_init, w_null, w_return, w_iload, List.getElem?_cons_zero, List.getElem?_cons_succ, List.length_nil, List.length_cons, Nat.zero_le, true_and, List.append_eq, List.cons_append, List.nil_append, List.replicate_zero, List.replicate_succ]
  refine po_putr H11 (by decide) (fun mm12 (H12 : PO m1 70 1 [vr 71, vr 88, vr 89, vr 90, vr 91, vr 92, vi 0] (93) (fun b => cX b (S0 b)) mm12) => ?_)
  try simp only [w_aload, w_iconst, w_init, w_null, w_return, w_iload, List.getElem?_cons_zero, List.getElem?_cons_succ, List.length_nil, List.length_cons, Nat.zero_le, true_and, List.append_eq, List.cons_append, List.nil_append, List.replicate_zero, List.replicate_succ]
  refine po_putf H12 (by decide) (fun mm13 (H13 : PO m1 70 1 [vr 71, vr 88, vr 89, vr 90, vr 91, vr 92, vi (-1)] (93) (fun b => cX b (S0 b)) mm13) => ?_)
  try simp only [w_aload, w_iconst, w_init, w_null, w_return, w_iload, List.getElem?_cons_zero, List.getElem?_cons_succ, List.length_nil, List.length_cons, Nat.zero_le, true_and, List.append_eq, List.cons_append, List.nil_append, List.replicate_zero, List.replicate_succ]
  exact po_end (n := 23) H13 (by decide) (rfl) (fun _ _ _ => rfl) hK
theorem k127_0 : pg.1 127 0 = [.aload 0, .invokespecial 0, .aload 0, .bipush 400, .newarray .int, .putstatic 900, .aload 0, .bipush 0, .putfield 901, .aload 0, .bipush (-1), .putfield 902, .aload 0, .new 8, .dup, .invokeinterface 105 1, .putstatic 903, .aload 0, .new 8, .dup, .invokeinterface 105 1, .putstatic 904, .aload 0, .new 8, .dup, .invokeinterface 105 1, .putstatic 905, .aload 0, .bipush 0, .dstore 906, .aload 0, .bipush 12, .anewarray 0, .putstatic 907, .aload 0, .bipush 0, .putfield 908, .aload 0, .bipush 0, .putfield 909, .aload 0, .new 6, .dup, .invokeinterface 82 1, .putstatic 910, .aload 0, .new 3, .dup, .invokeinterface 37 1, .putstatic 911, .aload 0, .new 5, .dup, .invokeinterface 54 1, .putstatic 912, .aload 0, .new 1, .dup, .invokeinterface 23 1, .putstatic 913, .aload 0, .bipush 64, .newarray .int, .putstatic 914, .aload 0, .bipush 6, .newarray .int, .putstatic 915, .aload 0, .bipush 6, .newarray .long, .putstatic 916, .bipush 0, .istore 1, .jsr 150] := rfl
theorem a127_0 {tb : Tab} {d : Nat} {K : Out → AM → Prop} {ls st : List AV} {m : AM} : At tb d 127 K 0 ls st m = wpB tb (pg.2.1 127) (Runs tb pg d) K (At tb d 127 K) [.aload 0, .invokespecial 0, .aload 0, .bipush 400, .newarray .int, .putstatic 900, .aload 0, .bipush 0, .putfield 901, .aload 0, .bipush (-1), .putfield 902, .aload 0, .new 8, .dup, .invokeinterface 105 1, .putstatic 903, .aload 0, .new 8, .dup, .invokeinterface 105 1, .putstatic 904, .aload 0, .new 8, .dup, .invokeinterface 105 1, .putstatic 905, .aload 0, .bipush 0, .dstore 906, .aload 0, .bipush 12, .anewarray 0, .putstatic 907, .aload 0, .bipush 0, .putfield 908, .aload 0, .bipush 0, .putfield 909, .aload 0, .new 6, .dup, .invokeinterface 82 1, .putstatic 910, .aload 0, .new 3, .dup, .invokeinterface 37 1, .putstatic 911, .aload 0, .new 5, .dup, .invokeinterface 54 1, .putstatic 912, .aload 0, .new 1, .dup, .invokeinterface 23 1, .putstatic 913, .aload 0, .bipush 64, .newarray .int, .putstatic 914, .aload 0, .bipush 6, .newarray .int, .putstatic 915, .aload 0, .bipush 6, .newarray .long, .putstatic 916, .bipush 0, .istore 1, .jsr 150] ls st m := At.eq k127_0
theorem k127_150 : pg.1 127 150 = [.iload 1, .bipush 12, .if_icmp .ge 175, .aload 0, .getfield 907, .iload 1, .new 8, .dup, .invokeinterface 105 1, .aastore, .iinc 1 1, .goto 150] := rfl
theorem a127_150 {tb : Tab} {d : Nat} {K : Out → AM → Prop} {ls st : List AV} {m : AM} : At tb d 127 K 150 ls st m = wpB tb (pg.2.1 127) (Runs tb pg d) K (At tb d 127 K) [.iload 1, .bipush 12, .if_icmp .ge 175, .aload 0, .getfield 907, .iload 1, .new 8, .dup, .invokeinterface 105 1, .aastore, .iinc 1 1, .goto 150] ls st m := At.eq k127_150
theorem k127_175 : pg.1 127 175 = [.return_] := rfl
theorem a127_175 {tb : Tab} {d : Nat} {K : Out → AM → Prop} {ls st : List AV} {m : AM} : At tb d 127 K 175 ls st m = wpB tb (pg.2.1 127) (Runs tb pg d) K (At tb d 127 K) [.return_] ls st m := At.eq k127_175
def GG (i : Nat) : Nat → AC := fun b => if b = 53 then cr 12 (fun q => if q < i then some (96 + 17 * q) else none) else cX b (S0 b)
theorem c_127 {tb : Tab} {d : Nat} (hT : tb.1 = dfl) : CTR tb (d + 4) 127 9 300 0 := by
  intro m1 K hC hc hK
  have H : PO m1 0 9 [vn, vi 0, vi 0, vn, vn, vn, vi 0, vn, vi 0, vi 0, vn, vn, vn, vn, vn, vn, vn] 1 (fun b => if b = 53 then cr 12 (fun i => if i < 0 then some (96 + 17 * i) else none) else cX b (S0 b)) m1 := po_start hC hc
  refine Runs.of (al := [vr 0]) (n := 1) ⟨0, _, _, rfl, hc⟩ rfl rfl trivial ?_
  have hL : ∀ (j i : Nat) (m : AM), i + j = 12 → PO m1 0 9 [vr 1, vi 0, vi (-1), vr 2, vr 19, vr 36, vi 0, vr 53, vi 0, vi 0, vr 54, vr 57, vr 64, vr 70, vr 93, vr 94, vr 95] (96 + 17 * i) (GG i) m → At tb (d + 3) 127 K 150 [vr 0, vi (i : Int)] [] m := by
    intro j
    induction j with
    | zero =>
      intro i m hi hP
      have e : i = 12 := by omega
      subst e
      rw [At.eq k127_150]
      simp only [w_iload, w_iconst, w_ifc, cI, Int.reduceToNat, List.getElem?_cons_zero, List.getElem?_cons_succ]
      refine ⟨Or.inl (by unfold R32; decide), fun _ => ?_, fun z => absurd (by decide) z⟩
      rw [At.eq k127_175, w_return]
      refine po_end (n := 300) hP (by decide) rfl (fun b b0 b1 => ?_) hK
      show (if b = 53 then _ else cX b (S0 b)) = cX b (S0 b)
      by_cases z : b = 53
      · rw [if_pos z, z]
        show cr 12 _ = cr 12 _
        rfl
      · rw [if_neg z]
    | succ j ih =>
      intro i m hi hP
      have hi9 : i < 12 := by omega
      have hw : isW (96 + 17 * i) := Or.inr (Or.inr (Or.inr (Or.inr ⟨by omega, by omega, by omega⟩)))
      rw [At.eq k127_150]
      simp only [w_aload, w_iload, w_iconst, w_ifc, cI, Int.reduceToNat, List.getElem?_cons_zero, List.getElem?_cons_succ]
      refine ⟨Or.inl (by unfold R32; omega), fun z => absurd z (by omega), fun _ => ?_⟩
      refine po_get hP (by decide) rfl ?_
      simp only [w_aload, w_iload, List.getElem?_cons_zero, List.getElem?_cons_succ]
      refine po_sub (n := 17) (c_105 hT hw) hT hP (Nat.le_of_ble_eq_true rfl) (fun b b0 b1 => if_neg (by omega)) (by decide) (by decide) (fun m2 (H2 : PO m1 0 9 [vr 1, vi 0, vi (-1), vr 2, vr 19, vr 36, vi 0, vr 53, vi 0, vi 0, vr 54, vr 57, vr 64, vr 70, vr 93, vr 94, vr 95] (96 + 17 * i + 17) (GG i) m2) => ?_)
      have h53 : m2.1 53 = cr 12 (fun q => if q < i then some (96 + 17 * q) else none) := (H2.2.2.2.2 53 (by decide) (by omega)).trans (if_pos rfl)
      have hW : ∃ gs, m2.1 (96 + 17 * i) = co 8 gs := ⟨_, (H2.2.2.2.2 (96 + 17 * i) (by omega) (by omega)).trans ((if_neg (by omega)).trans (cX_w (k := 0) hw (by decide) _))⟩
      rw [w_aastore h53]
      refine ⟨⟨hW, by omega, by omega⟩, ?_⟩
      simp only [w_iinc, lgB, Nat.reduceSub, w_goto, Int.reduceToNat, List.getElem?_cons_zero, List.getElem?_cons_succ, List.set_cons_zero, List.set_cons_succ]
      refine ⟨trivial, ?_⟩
      rw [show (i : Int) + 1 = ((i + 1 : Nat) : Int) by omega]
      refine ih (i + 1) _ (by omega) ?_
      have hG : up (GG i) 53 (cr 12 (up (fun q => if q < i then some (96 + 17 * q) else none) ((i : Int)).toNat (some (96 + 17 * i)))) = GG (i + 1) := by
        funext b
        show (if b = 53 then _ else (if b = 53 then _ else cX b (S0 b))) = (if b = 53 then _ else cX b (S0 b))
        by_cases z : b = 53
        · rw [if_pos z, if_pos z]
          refine congrArg (cr 12) (funext fun q => ?_)
          show (if q = ((i : Int)).toNat then some (96 + 17 * i) else if q < i then some (96 + 17 * q) else none) = if q < i + 1 then some (96 + 17 * q) else none
          by_cases y : q = i
          · rw [if_pos (by omega), if_pos (by omega), y]
          · rw [if_neg (by omega)]
            by_cases x : q < i
            · rw [if_pos x, if_pos (by omega)]
            · rw [if_neg x, if_neg (by omega)]
        · rw [if_neg z, if_neg z, if_neg z]
      rw [← hG]
      have := PO_st (b := 53) (c := cr 12 (up (fun q => if q < i then some (96 + 17 * q) else none) ((i : Int)).toNat (some (96 + 17 * i)))) H2 (by decide)
      rw [show 96 + 17 * (i + 1) = 96 + 17 * i + 17 by omega]
      exact this
  rw [At.eq k127_0]
  try simp only [w_aload, w_iconst, w_init, w_null, w_return, w_iload, List.getElem?_cons_zero, List.getElem?_cons_succ, List.length_nil, List.length_cons, Nat.zero_le, true_and, List.append_eq, List.cons_append, List.nil_append, List.replicate_zero, List.replicate_succ]
  refine po_newi H ((if_neg (by decide)).trans (G_i isA_1 (by rw [len_1]; rfl) (fun j => rfl))) (by decide) (fun mm1 (H1 : PO m1 0 9 [vn, vi 0, vi 0, vn, vn, vn, vi 0, vn, vi 0, vi 0, vn, vn, vn, vn, vn, vn, vn] (2) (fun b => if b = 53 then cr 12 (fun i => if i < 0 then some (96 + 17 * i) else none) else cX b (S0 b)) mm1) => ?_)
  try simp only [w_aload, w_iconst, w_init, w_null, w_return, w_iload, List.getElem?_cons_zero, List.getElem?_cons_succ, List.length_nil, List.length_cons, Nat.zero_le, true_and, List.append_eq, List.cons_append, List.nil_append, List.replicate_zero, List.replicate_succ]
  refine po_putr H1 (by decide) (fun mm2 (H2 : PO m1 0 9 [vr 1, vi 0, vi 0, vn, vn, vn, vi 0, vn, vi 0, vi 0, vn, vn, vn, vn, vn, vn, vn] (2) (fun b => if b = 53 then cr 12 (fun i => if i < 0 then some (96 + 17 * i) else none) else cX b (S0 b)) mm2) => ?_)
  try simp only [w_aload, w_iconst, w_init, w_null, w_return, w_iload, List.getElem?_cons_zero, List.getElem?_cons_succ, List.length_nil, List.length_cons, Nat.zero_le, true_and, List.append_eq, List.cons_append, List.nil_append, List.replicate_zero, List.replicate_succ]
  refine po_putf H2 (by decide) (fun mm3 (H3 : PO m1 0 9 [vr 1, vi 0, vi 0, vn, vn, vn, vi 0, vn, vi 0, vi 0, vn, vn, vn, vn, vn, vn, vn] (2) (fun b => if b = 53 then cr 12 (fun i => if i < 0 then some (96 + 17 * i) else none) else cX b (S0 b)) mm3) => ?_)
  try simp only [w_aload, w_iconst, w_init, w_null, w_return, w_iload, List.getElem?_cons_zero, List.getElem?_cons_succ, List.length_nil, List.length_cons, Nat.zero_le, true_and, List.append_eq, List.cons_append, List.nil_append, List.replicate_zero, List.replicate_succ]
  refine po_putf H3 (by decide) (fun mm4 (H4 : PO m1 0 9 [vr 1, vi 0, vi (-1), vn, vn, vn, vi 0, vn, vi 0, vi 0, vn, vn, vn, vn, vn, vn, vn] (2) (fun b => if b = 53 then cr 12 (fun i => if i < 0 then some (96 + 17 * i) else none) else cX b (S0 b)) mm4) => ?_)
  try simp only [w_aload, w_iconst, w_init, w_null, w_return, w_iload, List.getElem?_cons_zero, List.getElem?_cons_succ, List.length_nil, List.length_cons, Nat.zero_le, true_and, List.append_eq, List.cons_append, List.nil_append, List.replicate_zero, List.replicate_succ]
  refine po_sub (n := 17) (c_105 hT isW_2) hT H4 (Nat.le_of_ble_eq_true rfl) (fun b b0 b1 => if_neg (by omega)) (by decide) (by decide) (fun mm5 (H5 : PO m1 0 9 [vr 1, vi 0, vi (-1), vn, vn, vn, vi 0, vn, vi 0, vi 0, vn, vn, vn, vn, vn, vn, vn] (19) (fun b => if b = 53 then cr 12 (fun i => if i < 0 then some (96 + 17 * i) else none) else cX b (S0 b)) mm5) => ?_)
  try simp only [w_aload, w_iconst, w_init, w_null, w_return, w_iload, List.getElem?_cons_zero, List.getElem?_cons_succ, List.length_nil, List.length_cons, Nat.zero_le, true_and, List.append_eq, List.cons_append, List.nil_append, List.replicate_zero, List.replicate_succ]
  refine po_putr H5 (by decide) (fun mm6 (H6 : PO m1 0 9 [vr 1, vi 0, vi (-1), vr 2, vn, vn, vi 0, vn, vi 0, vi 0, vn, vn, vn, vn, vn, vn, vn] (19) (fun b => if b = 53 then cr 12 (fun i => if i < 0 then some (96 + 17 * i) else none) else cX b (S0 b)) mm6) => ?_)
  try simp only [w_aload, w_iconst, w_init, w_null, w_return, w_iload, List.getElem?_cons_zero, List.getElem?_cons_succ, List.length_nil, List.length_cons, Nat.zero_le, true_and, List.append_eq, List.cons_append, List.nil_append, List.replicate_zero, List.replicate_succ]
  refine po_sub (n := 17) (c_105 hT isW_19) hT H6 (Nat.le_of_ble_eq_true rfl) (fun b b0 b1 => if_neg (by omega)) (by decide) (by decide) (fun mm7 (H7 : PO m1 0 9 [vr 1, vi 0, vi (-1), vr 2, vn, vn, vi 0, vn, vi 0, vi 0, vn, vn, vn, vn, vn, vn, vn] (36) (fun b => if b = 53 then cr 12 (fun i => if i < 0 then some (96 + 17 * i) else none) else cX b (S0 b)) mm7) => ?_)
  try simp only [w_aload, w_iconst, w_init, w_null, w_return, w_iload, List.getElem?_cons_zero, List.getElem?_cons_succ, List.length_nil, List.length_cons, Nat.zero_le, true_and, List.append_eq, List.cons_append, List.nil_append, List.replicate_zero, List.replicate_succ]
  refine po_putr H7 (by decide) (fun mm8 (H8 : PO m1 0 9 [vr 1, vi 0, vi (-1), vr 2, vr 19, vn, vi 0, vn, vi 0, vi 0, vn, vn, vn, vn, vn, vn, vn] (36) (fun b => if b = 53 then cr 12 (fun i => if i < 0 then some (96 + 17 * i) else none) else cX b (S0 b)) mm8) => ?_)
  try simp only [w_aload, w_iconst, w_init, w_null, w_return, w_iload, List.getElem?_cons_zero, List.getElem?_cons_succ, List.length_nil, List.length_cons, Nat.zero_le, true_and, List.append_eq, List.cons_append, List.nil_append, List.replicate_zero, List.replicate_succ]
  refine po_sub (n := 17) (c_105 hT isW_36) hT H8 (Nat.le_of_ble_eq_true rfl) (fun b b0 b1 => if_neg (by omega)) (by decide) (by decide) (fun mm9 (H9 : PO m1 0 9 [vr 1, vi 0, vi (-1), vr 2, vr 19, vn, vi 0, vn, vi 0, vi 0, vn, vn, vn, vn, vn, vn, vn] (53) (fun b => if b = 53 then cr 12 (fun i => if i < 0 then some (96 + 17 * i) else none) else cX b (S0 b)) mm9) => ?_)
  try simp only [w_aload, w_iconst, w_init, w_null, w_return, w_iload, List.getElem?_cons_zero, List.getElem?_cons_succ, List.length_nil, List.length_cons, Nat.zero_le, true_and, List.append_eq, List.cons_append, List.nil_append, List.replicate_zero, List.replicate_succ]
  refine po_putr H9 (by decide) (fun mm10 (H10 : PO m1 0 9 [vr 1, vi 0, vi (-1), vr 2, vr 19, vr 36, vi 0, vn, vi 0, vi 0, vn, vn, vn, vn, vn, vn, vn] (53) (fun b => if b = 53 then cr 12 (fun i => if i < 0 then some (96 + 17 * i) else none) else cX b (S0 b)) mm10) => ?_)
  try simp only [w_aload, w_iconst, w_init, w_null, w_return, w_iload, List.getElem?_cons_zero, List.getElem?_cons_succ, List.length_nil, List.length_cons, Nat.zero_le, true_and, List.append_eq, List.cons_append, List.nil_append, List.replicate_zero, List.replicate_succ]
  refine po_putz H10 (by decide) (by decide) (fun mm11 (H11 : PO m1 0 9 [vr 1, vi 0, vi (-1), vr 2, vr 19, vr 36, vi 0, vn, vi 0, vi 0, vn, vn, vn, vn, vn, vn, vn] (53) (fun b => if b = 53 then cr 12 (fun i => if i < 0 then some (96 + 17 * i) else none) else cX b (S0 b)) mm11) => ?_)
  try simp only [w_aload, w_iconst, w_init, w_null, w_return, w_iload, List.getElem?_cons_zero, List.getElem?_cons_succ, List.length_nil, List.length_cons, Nat.zero_le, true_and, List.append_eq, List.cons_append, List.nil_append, List.replicate_zero, List.replicate_succ]
  refine po_newa H11 (if_pos rfl) (by decide) (fun mm12 (H12 : PO m1 0 9 [vr 1, vi 0, vi (-1), vr 2, vr 19, vr 36, vi 0, vn, vi 0, vi 0, vn, vn, vn, vn, vn, vn, vn] (54) (fun b => if b = 53 then cr 12 (fun i => if i < 0 then some (96 + 17 * i) else none) else cX b (S0 b)) mm12) => ?_)
  try simp only [w_aload, w_iconst, w_init, w_null, w_return, w_iload, List.getElem?_cons_zero, List.getElem?_cons_succ, List.length_nil, List.length_cons, Nat.zero_le, true_and, List.append_eq, List.cons_append, List.nil_append, List.replicate_zero, List.replicate_succ]
  refine po_putr H12 (by decide) (fun mm13 (H13 : PO m1 0 9 [vr 1, vi 0, vi (-1), vr 2, vr 19, vr 36, vi 0, vr 53, vi 0, vi 0, vn, vn, vn, vn, vn, vn, vn] (54) (fun b => if b = 53 then cr 12 (fun i => if i < 0 then some (96 + 17 * i) else none) else cX b (S0 b)) mm13) => ?_)
  try simp only [w_aload, w_iconst, w_init, w_null, w_return, w_iload, List.getElem?_cons_zero, List.getElem?_cons_succ, List.length_nil, List.length_cons, Nat.zero_le, true_and, List.append_eq, List.cons_append, List.nil_append, List.replicate_zero, List.replicate_succ]
  refine po_putf H13 (by decide) (fun mm14 (H14 : PO m1 0 9 [vr 1, vi 0, vi (-1), vr 2, vr 19, vr 36, vi 0, vr 53, vi 0, vi 0, vn, vn, vn, vn, vn, vn, vn] (54) (fun b => if b = 53 then cr 12 (fun i => if i < 0 then some (96 + 17 * i) else none) else cX b (S0 b)) mm14) => ?_)
  try simp only [w_aload, w_iconst, w_init, w_null, w_return, w_iload, List.getElem?_cons_zero, List.getElem?_cons_succ, List.length_nil, List.length_cons, Nat.zero_le, true_and, List.append_eq, List.cons_append, List.nil_append, List.replicate_zero, List.replicate_succ]
  refine po_putf H14 (by decide) (fun mm15 (H15 : PO m1 0 9 [vr 1, vi 0, vi (-1), vr 2, vr 19, vr 36, vi 0, vr 53, vi 0, vi 0, vn, vn, vn, vn, vn, vn, vn] (54) (fun b => if b = 53 then cr 12 (fun i => if i < 0 then some (96 + 17 * i) else none) else cX b (S0 b)) mm15) => ?_)
  try simp only [w_aload, w_iconst, w_init, w_null, w_return, w_iload, List.getElem?_cons_zero, List.getElem?_cons_succ, List.length_nil, List.length_cons, Nat.zero_le, true_and, List.append_eq, List.cons_append, List.nil_append, List.replicate_zero, List.replicate_succ]
  refine po_sub (n := 3) (c_82 hT) hT H15 (Nat.le_of_ble_eq_true rfl) (fun b b0 b1 => if_neg (by omega)) (by decide) (by decide) (fun mm16 (H16 : PO m1 0 9 [vr 1, vi 0, vi (-1), vr 2, vr 19, vr 36, vi 0, vr 53, vi 0, vi 0, vn, vn, vn, vn, vn, vn, vn] (57) (fun b => if b = 53 then cr 12 (fun i => if i < 0 then some (96 + 17 * i) else none) else cX b (S0 b)) mm16) => ?_)
  try simp only [w_aload, w_iconst, w_init, w_null, w_return, w_iload, List.getElem?_cons_zero, List.getElem?_cons_succ, List.length_nil, List.length_cons, Nat.zero_le, true_and, List.append_eq, List.cons_append, List.nil_append, List.replicate_zero, List.replicate_succ]
  refine po_putr H16 (by decide) (fun mm17 (H17 : PO m1 0 9 [vr 1, vi 0, vi (-1), vr 2, vr 19, vr 36, vi 0, vr 53, vi 0, vi 0, vr 54, vn, vn, vn, vn, vn, vn] (57) (fun b => if b = 53 then cr 12 (fun i => if i < 0 then some (96 + 17 * i) else none) else cX b (S0 b)) mm17) => ?_)
  try simp only [w_aload, w_iconst, w_init, w_null, w_return, w_iload, List.getElem?_cons_zero, List.getElem?_cons_succ, List.length_nil, List.length_cons, Nat.zero_le, true_and, List.append_eq, List.cons_append, List.nil_append, List.replicate_zero, List.replicate_succ]
  refine po_sub (n := 7) (c_37 hT) hT H17 (Nat.le_of_ble_eq_true rfl) (fun b b0 b1 => if_neg (by omega)) (by decide) (by decide) (fun mm18 (H18 : PO m1 0 9 [vr 1, vi 0, vi (-1), vr 2, vr 19, vr 36, vi 0, vr 53, vi 0, vi 0, vr 54, vn, vn, vn, vn, vn, vn] (64) (fun b => if b = 53 then cr 12 (fun i => if i < 0 then some (96 + 17 * i) else none) else cX b (S0 b)) mm18) => ?_)
  try simp only [w_aload, w_iconst, w_init, w_null, w_return, w_iload, List.getElem?_cons_zero, List.getElem?_cons_succ, List.length_nil, List.length_cons, Nat.zero_le, true_and, List.append_eq, List.cons_append, List.nil_append, List.replicate_zero, List.replicate_succ]
  refine po_putr H18 (by decide) (fun mm19 (H19 : PO m1 0 9 [vr 1, vi 0, vi (-1), vr 2, vr 19, vr 36, vi 0, vr 53, vi 0, vi 0, vr 54, vr 57, vn, vn, vn, vn, vn] (64) (fun b => if b = 53 then cr 12 (fun i => if i < 0 then some (96 + 17 * i) else none) else cX b (S0 b)) mm19) => ?_)
  try simp only [w_aload, w_iconst, w_init, w_null, w_return, w_iload, List.getElem?_cons_zero, List.getElem?_cons_succ, List.length_nil, List.length_cons, Nat.zero_le, true_and, List.append_eq, List.cons_append, List.nil_append, List.replicate_zero, List.replicate_succ]
  refine po_sub (n := 6) (c_54 hT) hT H19 (Nat.le_of_ble_eq_true rfl) (fun b b0 b1 => if_neg (by omega)) (by decide) (by decide) (fun mm20 (H20 : PO m1 0 9 [vr 1, vi 0, vi (-1), vr 2, vr 19, vr 36, vi 0, vr 53, vi 0, vi 0, vr 54, vr 57, vn, vn, vn, vn, vn] (70) (fun b => if b = 53 then cr 12 (fun i => if i < 0 then some (96 + 17 * i) else none) else cX b (S0 b)) mm20) => ?_)
  try simp only [w_aload, w_iconst, w_init, w_null, w_return, w_iload, List.getElem?_cons_zero, List.getElem?_cons_succ, List.length_nil, List.length_cons, Nat.zero_le, true_and, List.append_eq, List.cons_append, List.nil_append, List.replicate_zero, List.replicate_succ]
  refine po_putr H20 (by decide) (fun mm21 (H21 : PO m1 0 9 [vr 1, vi 0, vi (-1), vr 2, vr 19, vr 36, vi 0, vr 53, vi 0, vi 0, vr 54, vr 57, vr 64, vn, vn, vn, vn] (70) (fun b => if b = 53 then cr 12 (fun i => if i < 0 then some (96 + 17 * i) else none) else cX b (S0 b)) mm21) => ?_)
  try simp only [w_aload, w_iconst, w_init, w_null, w_return, w_iload, List.getElem?_cons_zero, List.getElem?_cons_succ, List.length_nil, List.length_cons, Nat.zero_le, true_and, List.append_eq, List.cons_append, List.nil_append, List.replicate_zero, List.replicate_succ]
  refine po_sub (n := 23) (c_23 hT) hT H21 (Nat.le_of_ble_eq_true rfl) (fun b b0 b1 => if_neg (by omega)) (by decide) (by decide) (fun mm22 (H22 : PO m1 0 9 [vr 1, vi 0, vi (-1), vr 2, vr 19, vr 36, vi 0, vr 53, vi 0, vi 0, vr 54, vr 57, vr 64, vn, vn, vn, vn] (93) (fun b => if b = 53 then cr 12 (fun i => if i < 0 then some (96 + 17 * i) else none) else cX b (S0 b)) mm22) => ?_)
  try simp only [w_aload, w_iconst, w_init, w_null, w_return, w_iload, List.getElem?_cons_zero, List.getElem?_cons_succ, List.length_nil, List.length_cons, Nat.zero_le, true_and, List.append_eq, List.cons_append, List.nil_append, List.replicate_zero, List.replicate_succ]
  refine po_putr H22 (by decide) (fun mm23 (H23 : PO m1 0 9 [vr 1, vi 0, vi (-1), vr 2, vr 19, vr 36, vi 0, vr 53, vi 0, vi 0, vr 54, vr 57, vr 64, vr 70, vn, vn, vn] (93) (fun b => if b = 53 then cr 12 (fun i => if i < 0 then some (96 + 17 * i) else none) else cX b (S0 b)) mm23) => ?_)
  try simp only [w_aload, w_iconst, w_init, w_null, w_return, w_iload, List.getElem?_cons_zero, List.getElem?_cons_succ, List.length_nil, List.length_cons, Nat.zero_le, true_and, List.append_eq, List.cons_append, List.nil_append, List.replicate_zero, List.replicate_succ]
  refine po_newi H23 ((if_neg (by decide)).trans (G_i isA_93 (by rw [len_93]; rfl) (fun j => rfl))) (by decide) (fun mm24 (H24 : PO m1 0 9 [vr 1, vi 0, vi (-1), vr 2, vr 19, vr 36, vi 0, vr 53, vi 0, vi 0, vr 54, vr 57, vr 64, vr 70, vn, vn, vn] (94) (fun b => if b = 53 then cr 12 (fun i => if i < 0 then some (96 + 17 * i) else none) else cX b (S0 b)) mm24) => ?_)
  try simp only [w_aload, w_iconst, w_init, w_null, w_return, w_iload, List.getElem?_cons_zero, List.getElem?_cons_succ, List.length_nil, List.length_cons, Nat.zero_le, true_and, List.append_eq, List.cons_append, List.nil_append, List.replicate_zero, List.replicate_succ]
  refine po_putr H24 (by decide) (fun mm25 (H25 : PO m1 0 9 [vr 1, vi 0, vi (-1), vr 2, vr 19, vr 36, vi 0, vr 53, vi 0, vi 0, vr 54, vr 57, vr 64, vr 70, vr 93, vn, vn] (94) (fun b => if b = 53 then cr 12 (fun i => if i < 0 then some (96 + 17 * i) else none) else cX b (S0 b)) mm25) => ?_)
  try simp only [w_aload, w_iconst, w_init, w_null, w_return, w_iload, List.getElem?_cons_zero, List.getElem?_cons_succ, List.length_nil, List.length_cons, Nat.zero_le, true_and, List.append_eq, List.cons_append, List.nil_append, List.replicate_zero, List.replicate_succ]
  refine po_newi H25 ((if_neg (by decide)).trans (G_i isA_94 (by rw [len_94]; rfl) (fun j => rfl))) (by decide) (fun mm26 (H26 : PO m1 0 9 [vr 1, vi 0, vi (-1), vr 2, vr 19, vr 36, vi 0, vr 53, vi 0, vi 0, vr 54, vr 57, vr 64, vr 70, vr 93, vn, vn] (95) (fun b => if b = 53 then cr 12 (fun i => if i < 0 then some (96 + 17 * i) else none) else cX b (S0 b)) mm26) => ?_)
  try simp only [w_aload, w_iconst, w_init, w_null, w_return, w_iload, List.getElem?_cons_zero, List.getElem?_cons_succ, List.length_nil, List.length_cons, Nat.zero_le, true_and, List.append_eq, List.cons_append, List.nil_append, List.replicate_zero, List.replicate_succ]
  refine po_putr H26 (by decide) (fun mm27 (H27 : PO m1 0 9 [vr 1, vi 0, vi (-1), vr 2, vr 19, vr 36, vi 0, vr 53, vi 0, vi 0, vr 54, vr 57, vr 64, vr 70, vr 93, vr 94, vn] (95) (fun b => if b = 53 then cr 12 (fun i => if i < 0 then some (96 + 17 * i) else none) else cX b (S0 b)) mm27) => ?_)
  try simp only [w_aload, w_iconst, w_init, w_null, w_return, w_iload, List.getElem?_cons_zero, List.getElem?_cons_succ, List.length_nil, List.length_cons, Nat.zero_le, true_and, List.append_eq, List.cons_append, List.nil_append, List.replicate_zero, List.replicate_succ]
  refine po_newl H27 ((if_neg (by decide)).trans (rfl)) (by decide) (fun mm28 (H28 : PO m1 0 9 [vr 1, vi 0, vi (-1), vr 2, vr 19, vr 36, vi 0, vr 53, vi 0, vi 0, vr 54, vr 57, vr 64, vr 70, vr 93, vr 94, vn] (96) (fun b => if b = 53 then cr 12 (fun i => if i < 0 then some (96 + 17 * i) else none) else cX b (S0 b)) mm28) => ?_)
  try simp only [w_aload, w_iconst, w_init, w_null, w_return, w_iload, List.getElem?_cons_zero, List.getElem?_cons_succ, List.length_nil, List.length_cons, Nat.zero_le, true_and, List.append_eq, List.cons_append, List.nil_append, List.replicate_zero, List.replicate_succ]
  refine po_putr H28 (by decide) (fun mm29 (H29 : PO m1 0 9 [vr 1, vi 0, vi (-1), vr 2, vr 19, vr 36, vi 0, vr 53, vi 0, vi 0, vr 54, vr 57, vr 64, vr 70, vr 93, vr 94, vr 95] (96) (fun b => if b = 53 then cr 12 (fun i => if i < 0 then some (96 + 17 * i) else none) else cX b (S0 b)) mm29) => ?_)
  try simp only [w_aload, w_iconst, w_init, w_null, w_return, w_iload, List.getElem?_cons_zero, List.getElem?_cons_succ, List.length_nil, List.length_cons, Nat.zero_le, true_and, List.append_eq, List.cons_append, List.nil_append, List.replicate_zero, List.replicate_succ]
  try simp only [w_aload, w_iconst, w_init, w_null, w_return, w_iload, w_istore, w_fall, w_goto, w_ifc, w_iinc, lgB, cI, Int.reduceToNat, Nat.reduceSub, List.getElem?_cons_zero, List.getElem?_cons_succ, List.set_cons_zero, List.set_cons_succ, List.length_nil, List.length_cons, Nat.zero_le, true_and, List.append_eq, List.cons_append, List.nil_append, List.replicate_zero, List.replicate_succ]
  exact hL 12 0 _ rfl H29
