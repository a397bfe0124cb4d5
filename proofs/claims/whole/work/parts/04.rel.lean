/-! ===== THE RELATION between the abstract machine's states and the real ones ===== -/
def strN : Nat → String := fun k => match k with
  | 0 => "field"
  | 1 => "slope"
  | 2 => "room"
  | 3 => "snow"
  | 4 => "name"
  | 5 => "on"
  | 6 => "debt"
  | 7 => "flakes"
  | 8 => "fall"
  | 9 => "hares"
  | 10 => "wind"
  | 11 => "day"
  | 12 => "a wrong text"
  | 13 => "too many texts"
  | 14 => "melt"
  | 15 => "keep"
  | 16 => "deep"
  | 17 => "if"
  | 18 => "not"
  | 19 => "written"
  | 20 => "whole"
  | 21 => "owes"
  | 22 => "person"
  | 23 => "letters"
  | 24 => "debts"
  | 25 => "and"
  | 26 => "or"
  | 27 => "no such field"
  | 28 => "no such what"
  | 29 => "no such person"
  | 30 => "no such debt"
  | 31 => "no such number"
  | 32 => "no snow or no room"
  | 33 => "on no field"
  | 34 => "both are one"
  | 35 => "too many debts"
  | 36 => "somebody is not whole"
  | 37 => "not rows of a place and a letter"
  | 38 => "no such letter"
  | _ => ""
def strB : Nat → List Int := fun k => match k with
  | 0 => [102, 105, 101, 108, 100]
  | 1 => [115, 108, 111, 112, 101]
  | 2 => [114, 111, 111, 109]
  | 3 => [115, 110, 111, 119]
  | 4 => [110, 97, 109, 101]
  | 5 => [111, 110]
  | 6 => [100, 101, 98, 116]
  | 7 => [102, 108, 97, 107, 101, 115]
  | 8 => [102, 97, 108, 108]
  | 9 => [104, 97, 114, 101, 115]
  | 10 => [119, 105, 110, 100]
  | 11 => [100, 97, 121]
  | 12 => [97, 32, 119, 114, 111, 110, 103, 32, 116, 101, 120, 116]
  | 13 => [116, 111, 111, 32, 109, 97, 110, 121, 32, 116, 101, 120, 116, 115]
  | 14 => [109, 101, 108, 116]
  | 15 => [107, 101, 101, 112]
  | 16 => [100, 101, 101, 112]
  | 17 => [105, 102]
  | 18 => [110, 111, 116]
  | 19 => [119, 114, 105, 116, 116, 101, 110]
  | 20 => [119, 104, 111, 108, 101]
  | 21 => [111, 119, 101, 115]
  | 22 => [112, 101, 114, 115, 111, 110]
  | 23 => [108, 101, 116, 116, 101, 114, 115]
  | 24 => [100, 101, 98, 116, 115]
  | 25 => [97, 110, 100]
  | 26 => [111, 114]
  | 27 => [110, 111, 32, 115, 117, 99, 104, 32, 102, 105, 101, 108, 100]
  | 28 => [110, 111, 32, 115, 117, 99, 104, 32, 119, 104, 97, 116]
  | 29 => [110, 111, 32, 115, 117, 99, 104, 32, 112, 101, 114, 115, 111, 110]
  | 30 => [110, 111, 32, 115, 117, 99, 104, 32, 100, 101, 98, 116]
  | 31 => [110, 111, 32, 115, 117, 99, 104, 32, 110, 117, 109, 98, 101, 114]
  | 32 => [110, 111, 32, 115, 110, 111, 119, 32, 111, 114, 32, 110, 111, 32, 114, 111, 111, 109]
  | 33 => [111, 110, 32, 110, 111, 32, 102, 105, 101, 108, 100]
  | 34 => [98, 111, 116, 104, 32, 97, 114, 101, 32, 111, 110, 101]
  | 35 => [116, 111, 111, 32, 109, 97, 110, 121, 32, 100, 101, 98, 116, 115]
  | 36 => [115, 111, 109, 101, 98, 111, 100, 121, 32, 105, 115, 32, 110, 111, 116, 32, 119, 104, 111, 108, 101]
  | 37 => [110, 111, 116, 32, 114, 111, 119, 115, 32, 111, 102, 32, 97, 32, 112, 108, 97, 99, 101, 32, 97, 110, 100, 32, 97, 32, 108, 101, 116, 116, 101, 114]
  | 38 => [110, 111, 32, 115, 117, 99, 104, 32, 108, 101, 116, 116, 101, 114]
  | _ => []
/-- class, pool index, number of the text -/
def strT : List (String × Nat × Nat) := [("SnowNames$ProvinceText", 41, 0), ("SnowNames$ProvinceText", 90, 1), ("SnowNames$ProvinceText", 97, 2), ("SnowNames$ProvinceText", 104, 3), ("SnowNames$ProvinceText", 50, 4), ("SnowNames$ProvinceText", 125, 5), ("SnowNames$ProvinceText", 55, 6), ("SnowNames$ProvinceText", 60, 7), ("SnowNames$ProvinceText", 66, 8), ("SnowNames$ProvinceText", 68, 9), ("SnowNames$ProvinceText", 70, 10), ("SnowNames$ProvinceText", 72, 11), ("SnowNames", 112, 12), ("SnowNames", 122, 13), ("SnowNames$LawText", 81, 14), ("SnowNames$LawText", 83, 15), ("SnowNames$LawText", 85, 16), ("SnowNames$LawText", 51, 17), ("SnowNames$LawText", 108, 18), ("SnowNames$LawText", 116, 19), ("SnowNames$LawText", 118, 20), ("SnowNames$LawText", 120, 21), ("SnowNames$LawText", 129, 22), ("SnowNames$LawText", 131, 0), ("SnowNames$LawText", 133, 1), ("SnowNames$LawText", 135, 3), ("SnowNames$LawText", 137, 23), ("SnowNames$LawText", 139, 24), ("SnowNames$LawText", 141, 11), ("SnowNames$LawText", 106, 25), ("SnowNames$LawText", 97, 26), ("SnowNames", 242, 27), ("SnowNames", 159, 28), ("SnowNames", 248, 29), ("SnowNames", 252, 30), ("SnowNames", 254, 31), ("SnowNames", 274, 32), ("SnowNames", 317, 33), ("SnowNames", 319, 34), ("SnowNames", 303, 35), ("SnowNames", 307, 36), ("SnowNames", 348, 37), ("SnowNames", 390, 38), ("SnowNamesModel", 263, 14), ("SnowNamesModel", 265, 15), ("SnowNamesModel", 267, 16), ("SnowNamesModel", 268, 17), ("SnowNamesModel", 244, 18), ("SnowNamesModel", 225, 19), ("SnowNamesModel", 231, 20), ("SnowNamesModel", 236, 21), ("SnowNamesModel", 216, 22), ("SnowNamesModel", 160, 0), ("SnowNamesModel", 131, 1), ("SnowNamesModel", 139, 3), ("SnowNamesModel", 218, 23), ("SnowNamesModel", 220, 24), ("SnowNamesModel", 186, 11), ("SnowNamesModel", 256, 25), ("SnowNamesModel", 261, 26), ("SnowNamesModel", 137, 2), ("SnowNamesModel", 165, 4), ("SnowNamesModel", 145, 5), ("SnowNamesModel", 170, 6), ("SnowNamesModel", 175, 7), ("SnowNamesModel", 180, 8), ("SnowNamesModel", 182, 9), ("SnowNamesModel", 184, 10)]

def AWs : List Jvm.Cond := lw_tbl.filter goodWord
/-- classes of arrays: of ints, of longs, of booleans, of worlds -/
abbrev KA : Type := Nat × Nat × Nat × Nat
abbrev tysG (ka : KA) : List (ClassId × FieldType) := [(ka.1, .int), (ka.2.1, .long), (ka.2.2.1, .boolean), (ka.2.2.2, .object "SnowNames$World")]
def rv (ad xa : Nat → Nat) (zv : Value) : AV → Value
  | .inl (.inl n) => .int (Int32.ofInt n)
  | .inl (.inr n) => .long (Int64.ofInt n)
  | .inr (.inl k) => .ref (ad k)
  | .inr (.inr (.inl k)) => .ref (xa k)
  | .inr (.inr (.inr true)) => .null
  | .inr (.inr (.inr false)) => zv
def rc (ad xa : Nat → Nat) (zv : Value) (ka : KA) : AC → va_E
  | .inl (ci, fs) => .inr (ci, fs.map (rv ad xa zv))
  | .inr (.inl (0, len, f)) => .inl (ka.1, len, .inl fun j => Int32.ofInt (f j))
  | .inr (.inl (1, len, f)) => .inl (ka.2.1, len, .inr (.inl fun j => Int64.ofInt (f j)))
  | .inr (.inl (_ + 2, len, f)) => .inl (ka.2.2.1, len, .inl fun j => Int32.ofInt (f j))
  | .inr (.inr (len, f)) => .inl (ka.2.2.2, len, .inr (.inr (.inr (.inr fun j => (f j).map ad))))
def wsA (ad xa : Nat → Nat) (zv : Value) (ka : KA) (m : AM) : va_W := (List.range m.2.1).map fun k => (ad k, rc ad xa zv ka (m.1 k))
def okV (n : Nat) : AV → Prop
  | .inr (.inl k) => k < n
  | _ => True
def okC (n : Nat) : AC → Prop
  | .inl (ci, fs) => (∃ r, vwCl[ci]? = some r ∧ fs.length = r.2.2) ∧ ∀ v ∈ fs, okV n v
  | .inr (.inl (_, len, _)) => len < 2147483648
  | .inr (.inr (len, f)) => len < 2147483648 ∧ ∀ j k, f j = some k → k < n
def okM (m : AM) : Prop := (∀ k, k < m.2.1 → okC m.2.1 (m.1 k)) ∧ ∀ k, m.2.1 ≤ k → m.1 k = co 999 []
theorem okV.le {n n' : Nat} (h : n ≤ n') {v : AV} (hv : okV n v) : okV n' v := by
  rcases v with (_ | _) | (k | (_ | _))
  · trivial
  · trivial
  · exact Nat.lt_of_lt_of_le hv h
  · trivial
  · trivial
theorem okC.le {n n' : Nat} (h : n ≤ n') {c : AC} (hc : okC n c) : okC n' c := by
  rcases c with ⟨ci, fs⟩ | (⟨kd, len, f⟩ | ⟨len, f⟩)
  · exact ⟨hc.1, fun v hv => (hc.2 v hv).le h⟩
  · exact hc
  · exact ⟨hc.1, fun j k e => Nat.lt_of_lt_of_le (hc.2 j k e) h⟩
theorem okM.lt {m : AM} (h : okM m) {a : Nat} {c : AC} (hc : m.1 a = c) (hne : c ≠ co 999 []) : a < m.2.1 := by
  rcases Nat.lt_or_ge a m.2.1 with q | q
  · exact q
  · exact absurd (hc.symm.trans (h.2 a q)) hne
theorem okM.set {m : AM} (h : okM m) {a : Nat} {c : AC} (ha : a < m.2.1) (hc : okC m.2.1 c) : okM (mset m a c) := by
  refine ⟨fun k hk => ?_, fun k hk => ?_⟩
  · show okC m.2.1 (up m.1 a c k)
    unfold up
    split
    · exact hc
    · exact h.1 k hk
  · show up m.1 a c k = _
    unfold up
    rw [if_neg (by have : m.2.1 ≤ k := hk; omega)]
    exact h.2 k hk
theorem okM.new {m : AM} (h : okM m) {c : AC} {w : Nat} (hc : okC (m.2.1 + 1) c) : okM (mnew m c w) := by
  refine ⟨fun k hk => ?_, fun k hk => ?_⟩
  · show okC (m.2.1 + 1) (up m.1 m.2.1 c k)
    have hk : k < m.2.1 + 1 := hk
    unfold up
    split
    · exact hc
    · exact (h.1 k (by omega)).le (Nat.le_succ _)
  · have hk : m.2.1 + 1 ≤ k := hk
    show up m.1 m.2.1 c k = _
    unfold up
    rw [if_neg (by omega)]
    exact h.2 k (by omega)
theorem rv_ext {ad ad' xa : Nat → Nat} {zv : Value} {n : Nat} (h : ∀ k, k < n → ad' k = ad k) {v : AV} (hv : okV n v) : rv ad' xa zv v = rv ad xa zv v := by
  rcases v with (_ | _) | (k | (_ | b))
  · rfl
  · rfl
  · show Value.ref _ = Value.ref _
    rw [h k hv]
  · rfl
  · cases b <;> rfl
theorem rvs_ext {ad ad' xa : Nat → Nat} {zv : Value} {n : Nat} (h : ∀ k, k < n → ad' k = ad k) {vs : List AV} (hv : ∀ v ∈ vs, okV n v) : vs.map (rv ad' xa zv) = vs.map (rv ad xa zv) :=
  List.map_congr_left fun v q => rv_ext h (hv v q)
theorem rc_ext {ad ad' xa : Nat → Nat} {zv : Value} {ka : KA} {n : Nat} (h : ∀ k, k < n → ad' k = ad k) {c : AC} (hc : okC n c) : rc ad' xa zv ka c = rc ad xa zv ka c := by
  rcases c with ⟨ci, fs⟩ | (⟨kd, len, f⟩ | ⟨len, f⟩)
  · show Sum.inr _ = Sum.inr _
    rw [rvs_ext h hc.2]
  · rcases kd with _ | (_ | _) <;> rfl
  · show Sum.inl _ = Sum.inl _
    congr 7
    funext j
    cases e : f j with
    | none => rfl
    | some k => exact congrArg some (h k (hc.2 j k e))
theorem wsA_get {ad xa : Nat → Nat} {zv : Value} {ka : KA} {m : AM} {k : Nat} (h : k < m.2.1) : (wsA ad xa zv ka m)[k]? = some (ad k, rc ad xa zv ka (m.1 k)) := by
  unfold wsA
  rw [List.getElem?_map, List.getElem?_range h]
  rfl
theorem wsA_set {ad xa : Nat → Nat} {zv : Value} {ka : KA} {m : AM} {a : Nat} {c : AC} : (wsA ad xa zv ka m).set a (ad a, rc ad xa zv ka c) = wsA ad xa zv ka (mset m a c) := by
  apply List.ext_getElem?
  intro k
  unfold wsA
  rw [List.getElem?_set]
  show _ = ((List.range m.2.1).map fun k => (ad k, rc ad xa zv ka (up m.1 a c k)))[k]?
  rw [List.getElem?_map, List.getElem?_map, List.length_map, List.length_range]
  by_cases hk : k < m.2.1
  · rw [List.getElem?_range hk]
    by_cases e : a = k
    · subst e
      rw [if_pos rfl, if_pos hk]
      simp [up]
    · rw [if_neg e]
      have e2 : ¬ k = a := fun q => e q.symm
      simp [up, e2]
  · rw [List.getElem?_eq_none (by simp; omega)]
    by_cases e : a = k
    · subst e
      rw [if_pos rfl, if_neg hk]
      rfl
    · rw [if_neg e]
      rfl
theorem wsA_new {ad xa : Nat → Nat} {zv : Value} {ka : KA} {m : AM} (hm : okM m) {c : AC} {w q : Nat} (hc : okC m.2.1 c) : wsA ad xa zv ka m ++ [(q, rc ad xa zv ka c)] = wsA (up ad m.2.1 q) xa zv ka (mnew m c w) := by
  have hx : ∀ k, k < m.2.1 → up ad m.2.1 q k = ad k := fun k hk => by unfold up; rw [if_neg (by omega)]
  unfold wsA
  show _ = (List.range (m.2.1 + 1)).map fun k => (up ad m.2.1 q k, rc (up ad m.2.1 q) xa zv ka (up m.1 m.2.1 c k))
  rw [List.range_succ, List.map_append]
  congr 1
  · apply List.map_congr_left
    intro k hk
    have hk := List.mem_range.mp hk
    rw [hx k hk]
    have e : up m.1 m.2.1 c k = m.1 k := by unfold up; rw [if_neg (by omega)]
    rw [e, rc_ext hx (hm.1 k hk)]
  · have e1 : up ad m.2.1 q m.2.1 = q := by unfold up; rw [if_pos rfl]
    have e2 : up m.1 m.2.1 c m.2.1 = c := by unfold up; rw [if_pos rfl]
    simp only [List.map_cons, List.map_nil, e1, e2]
    rw [rc_ext hx hc]
/-- the locals of which something is known -/
def lvs (ad xa : Nat → Nat) (zv : Value) : Nat → List AV → List (Nat × Value)
  | _, [] => []
  | i, .inr (.inr (.inr false)) :: vs => lvs ad xa zv (i + 1) vs
  | i, v :: vs => (i, rv ad xa zv v) :: lvs ad xa zv (i + 1) vs
theorem lvs_mem {ad xa : Nat → Nat} {zv : Value} (q : Nat × Value) : ∀ (ls : List AV) (i : Nat), q ∈ lvs ad xa zv i ls ↔ ∃ k v, ls[k]? = some v ∧ v ≠ vu ∧ q = (i + k, rv ad xa zv v) := by
  intro ls
  induction ls with
  | nil =>
    intro i
    constructor
    · intro h
      cases h
    · rintro ⟨k, v, h, -⟩
      simp at h
  | cons w ls ih =>
    intro i
    have step : (q ∈ lvs ad xa zv (i + 1) ls) ↔ ∃ k v, (w :: ls)[k + 1]? = some v ∧ v ≠ vu ∧ q = (i + (k + 1), rv ad xa zv v) := by
      rw [ih]
      constructor
      · rintro ⟨k, v, h1, h2, h3⟩
        exact ⟨k, v, by simpa using h1, h2, by rw [h3]; congr 1; omega⟩
      · rintro ⟨k, v, h1, h2, h3⟩
        exact ⟨k, v, by simpa using h1, h2, by rw [h3]; congr 1; omega⟩
    by_cases hw : w = vu
    · subst hw
      show q ∈ lvs ad xa zv (i + 1) ls ↔ _
      rw [step]
      constructor
      · rintro ⟨k, v, h⟩
        exact ⟨k + 1, v, h⟩
      · rintro ⟨k, v, h1, h2, h3⟩
        cases k with
        | zero =>
          simp at h1
          exact absurd h1.symm h2
        | succ k => exact ⟨k, v, h1, h2, h3⟩
    · have e : lvs ad xa zv i (w :: ls) = (i, rv ad xa zv w) :: lvs ad xa zv (i + 1) ls := by
        rcases w with (_ | _) | (_ | (_ | (_ | _)))
        · rfl
        · rfl
        · rfl
        · rfl
        · exact absurd rfl hw
        · rfl
      rw [e, List.mem_cons, step]
      constructor
      · rintro (h | ⟨k, v, h⟩)
        · exact ⟨0, w, rfl, hw, h⟩
        · exact ⟨k + 1, v, h⟩
      · rintro ⟨k, v, h1, h2, h3⟩
        cases k with
        | zero =>
          simp at h1
          subst h1
          exact Or.inl h3
        | succ k => exact Or.inr ⟨k, v, h1, h2, h3⟩
abbrev LR (ad xa : Nat → Nat) (zv : Value) (lsR : Array Slot) (nL : Nat) (ls : List AV) : Prop := lv_has lsR nL (lvs ad xa zv 0 ls)
theorem LR.get {ad xa : Nat → Nat} {zv : Value} {lsR : Array Slot} {nL : Nat} {ls : List AV} (h : LR ad xa zv lsR nL ls) {k : Nat} {v : AV} (hk : ls[k]? = some v) (hv : v ≠ vu) : lsR[k]? = some (.val (rv ad xa zv v)) :=
  h.2.2 (k, rv ad xa zv v) ((lvs_mem _ ls 0).mpr ⟨k, v, hk, hv, by rw [Nat.zero_add]⟩)
theorem LR.ext {ad ad' xa : Nat → Nat} {zv : Value} {n : Nat} (hx : ∀ k, k < n → ad' k = ad k) {lsR : Array Slot} {nL : Nat} {ls : List AV} (hl : ∀ v ∈ ls, okV n v) (h : LR ad xa zv lsR nL ls) : LR ad' xa zv lsR nL ls := by
  refine ⟨h.1, h.2.1, fun q hq => ?_⟩
  obtain ⟨k, v, h1, h2, rfl⟩ := (lvs_mem _ ls 0).mp hq
  have e := h.get h1 h2
  simp only [Nat.zero_add]
  rw [rv_ext hx (hl v (List.mem_of_getElem? h1))]
  exact e
theorem LR.kill {ad xa : Nat → Nat} {zv : Value} {lsR : Array Slot} {nL : Nat} {ls : List AV} (h : LR ad xa zv lsR nL ls) (i : Nat) : LR ad xa zv lsR nL (ls.set i vu) := by
  refine ⟨h.1, h.2.1, fun q hq => ?_⟩
  obtain ⟨k, v, h1, h2, rfl⟩ := (lvs_mem _ _ 0).mp hq
  rw [List.getElem?_set] at h1
  simp only [Nat.zero_add]
  split at h1
  · split at h1
    · cases h1
      exact absurd rfl h2
    · cases h1
  · exact h.get h1 h2
/-- where longs may lie: no other value is put behind one -/
def LG (lg : Nat → Bool) (ls : List AV) : Prop := ∀ k x, ls[k]? = some (vl x) → lg k = true
theorem LR.put {ad xa : Nat → Nat} {zv : Value} {lsR' : Array Slot} {nL i : Nat} {ls : List AV} {v : AV} {lg : Nat → Bool} (hg : LG lg ls) (hi : ∀ k, lg k = true → k + 1 ≠ i)
    (h : lv_has lsR' nL ((i, rv ad xa zv v) :: (lvs ad xa zv 0 ls).filter (fun q => !(q.1 == i) && !(q.1 + 1 == i && q.2.category == 2)))) : LR ad xa zv lsR' nL (ls.set i v) := by
  refine ⟨h.1, h.2.1, fun q hq => h.2.2 q ?_⟩
  obtain ⟨k, w, h1, h2, rfl⟩ := (lvs_mem _ _ 0).mp hq
  rw [List.getElem?_set] at h1
  simp only [Nat.zero_add]
  split at h1
  next e =>
    subst e
    split at h1
    · cases h1
      exact List.mem_cons_self
    · cases h1
  next e =>
    refine List.mem_cons_of_mem _ (List.mem_filter.mpr ⟨(lvs_mem _ _ 0).mpr ⟨k, w, h1, h2, by rw [Nat.zero_add]⟩, ?_⟩)
    have e1 : (k == i) = false := by simp; omega
    have e2 : (k + 1 == i && (rv ad xa zv w).category == 2) = false := by
      by_cases q : k + 1 = i
      · have hw : ¬ lg k = true := fun z => hi k z q
        have : (rv ad xa zv w).category ≠ 2 := by
          rcases w with (_ | x) | (_ | (_ | (_ | _)))
          · simp [rv, Value.category]
          · exact absurd (hg k x h1) hw
          · simp [rv, Value.category]
          · simp [rv, Value.category]
          · exact absurd rfl h2
          · simp [rv, Value.category]
        simp [this]
      · simp [q]
    simp [e1, e2]
theorem LR.putU {ad xa : Nat → Nat} {zv w9 : Value} {lsR' : Array Slot} {nL i : Nat} {ls : List AV} {lg : Nat → Bool} (hg : LG lg ls) (hi : ∀ k, lg k = true → k + 1 ≠ i)
    (h : lv_has lsR' nL ((i, w9) :: (lvs ad xa zv 0 ls).filter (fun q => !(q.1 == i) && !(q.1 + 1 == i && q.2.category == 2)))) : LR ad xa zv lsR' nL (ls.set i vu) := by
  refine ⟨h.1, h.2.1, fun q hq => h.2.2 q ?_⟩
  obtain ⟨k, w, h1, h2, rfl⟩ := (lvs_mem _ _ 0).mp hq
  rw [List.getElem?_set] at h1
  simp only [Nat.zero_add]
  split at h1
  next e =>
    split at h1
    · cases h1
      exact absurd rfl h2
    · cases h1
  next e =>
    refine List.mem_cons_of_mem _ (List.mem_filter.mpr ⟨(lvs_mem _ _ 0).mpr ⟨k, w, h1, h2, by rw [Nat.zero_add]⟩, ?_⟩)
    have e1 : (k == i) = false := by simp; omega
    have e2 : (k + 1 == i && (rv ad xa zv w).category == 2) = false := by
      by_cases q : k + 1 = i
      · have hw : ¬ lg k = true := fun z => hi k z q
        have : (rv ad xa zv w).category ≠ 2 := by
          rcases w with (_ | x) | (_ | (_ | (_ | _)))
          · simp [rv, Value.category]
          · exact absurd (hg k x h1) hw
          · simp [rv, Value.category]
          · simp [rv, Value.category]
          · exact absurd rfl h2
          · simp [rv, Value.category]
        simp [this]
      · simp [q]
    simp [e1, e2]
theorem LR.put2 {ad xa : Nat → Nat} {zv : Value} {lsR' : Array Slot} {nL i : Nat} {ls : List AV} {x : Int} {lg : Nat → Bool} (hg : LG lg ls) (hi : ∀ k, lg k = true → k + 1 ≠ i)
    (h : lv_has lsR' nL ((i, rv ad xa zv (vl x)) :: (lvs ad xa zv 0 ls).filter (fun q => !(q.1 == i) && (!(q.1 == i + 1) && !(q.1 + 1 == i && q.2.category == 2))))) : LR ad xa zv lsR' nL ((ls.set i (vl x)).set (i + 1) vu) := by
  refine ⟨h.1, h.2.1, fun q hq => h.2.2 q ?_⟩
  obtain ⟨k, w, h1, h2, rfl⟩ := (lvs_mem _ _ 0).mp hq
  rw [List.getElem?_set] at h1
  simp only [Nat.zero_add]
  split at h1
  next e =>
    split at h1
    · cases h1
      exact absurd rfl h2
    · cases h1
  next e9 =>
    rw [List.getElem?_set] at h1
    split at h1
    next e =>
      subst e
      split at h1
      · cases h1
        exact List.mem_cons_self
      · cases h1
    next e =>
      refine List.mem_cons_of_mem _ (List.mem_filter.mpr ⟨(lvs_mem _ _ 0).mpr ⟨k, w, h1, h2, by rw [Nat.zero_add]⟩, ?_⟩)
      have e1 : (k == i) = false := by simp; omega
      have e3 : (k == i + 1) = false := by simp; omega
      have e2 : (k + 1 == i && (rv ad xa zv w).category == 2) = false := by
        by_cases q : k + 1 = i
        · have hw : ¬ lg k = true := fun z => hi k z q
          have : (rv ad xa zv w).category ≠ 2 := by
            rcases w with (_ | x) | (_ | (_ | (_ | _)))
            · simp [rv, Value.category]
            · exact absurd (hg k x h1) hw
            · simp [rv, Value.category]
            · simp [rv, Value.category]
            · exact absurd rfl h2
            · simp [rv, Value.category]
          simp [this]
        · simp [q]
      simp [e1, e2, e3]
theorem LG.set {lg : Nat → Bool} {ls : List AV} (h : LG lg ls) {i : Nat} {v : AV} (hv : ∀ x, v = vl x → lg i = true) : LG lg (ls.set i v) := by
  intro k x e
  rw [List.getElem?_set] at e
  split at e
  next q =>
    subst q
    split at e
    · cases e
      exact hv x rfl
    · cases e
  · exact h k x e
theorem okL_set {n : Nat} {ls : List AV} (h : ∀ v ∈ ls, okV n v) {i : Nat} {v : AV} (hv : okV n v) : ∀ w ∈ ls.set i v, okV n w := by
  intro w hw
  rcases List.mem_or_eq_of_mem_set hw with q | q
  · exact h w q
  · rw [q]; exact hv
/-- words that stay true, though not of the kinds that the kit carries by itself -/
def nwL : List Jvm.Cond := [.castable "java/lang/IllegalArgumentException" "java/lang/IllegalArgumentException", .castable "java/lang/UnsupportedOperationException" "java/lang/UnsupportedOperationException", .castable "[I" "java/lang/Cloneable", .castable "java/lang/IndexOutOfBoundsException" "java/lang/IndexOutOfBoundsException", .castable "java/util/NoSuchElementException" "java/util/NoSuchElementException", .castable "java/lang/IllegalStateException" "java/lang/IllegalStateException", .castable "SnowNames" "java/lang/Object", .castable "SnowNames$World" "java/lang/Object", .castable "SnowNames$Debts" "java/lang/Object", .castable "SnowNames$Log" "java/lang/Object", .castable "SnowNames$ProvinceText" "java/lang/Object", .castable "SnowNames$Words" "java/lang/Object", .castable "SnowNames$LawText" "java/lang/Object", .castable "SnowNames$Names" "java/lang/Object", .castable "SnowNames$Lasting" "java/lang/Object", .castable "SnowNamesModel" "java/lang/Object", .castable "java/lang/IllegalArgumentException" "java/lang/Object", .castable "java/lang/UnsupportedOperationException" "java/lang/Object", .castable "SnowNames$Law" "java/lang/Object", .castable "java/lang/IndexOutOfBoundsException" "java/lang/Object", .castable "java/util/NoSuchElementException" "java/lang/Object", .castable "java/lang/IllegalStateException" "java/lang/Object", .castable "java/lang/Throwable" "java/lang/Object", .castable "java/lang/String" "java/lang/Object", .methodLinkNest "SnowNames$World" 45 ⟨"SnowNames$Debts", "<init>", "()V"⟩ "SnowNames", .methodLinkNest "SnowNames$World" 52 ⟨"SnowNames$Log", "<init>", "()V"⟩ "SnowNames", .methodLinkNest "SnowNames" 49 ⟨"SnowNames$ProvinceText", "<init>", "()V"⟩ "SnowNames", .methodLinkNest "SnowNames$ProvinceText" 11 ⟨"SnowNames$Words", "<init>", "()V"⟩ "SnowNames", .methodLinkNest "SnowNames" 56 ⟨"SnowNames$LawText", "<init>", "()V"⟩ "SnowNames", .methodLinkNest "SnowNames$LawText" 11 ⟨"SnowNames$Words", "<init>", "()V"⟩ "SnowNames", .methodLinkNest "SnowNames" 63 ⟨"SnowNames$Names", "<init>", "()V"⟩ "SnowNames", .methodLinkNest "SnowNames" 70 ⟨"SnowNames$Lasting", "<init>", "()V"⟩ "SnowNames", .declares ⟨"java/lang/RuntimeException", "<init>", "(Ljava/lang/String;)V"⟩, .declares ⟨"java/lang/Exception", "<init>", "(Ljava/lang/String;)V"⟩, .declares ⟨"java/lang/Throwable", "<init>", "(Ljava/lang/String;)V"⟩]
theorem nw_warm {s U : State} (hW : s.WarmedH U.vm) : ∀ w ∈ nwL, va_Nw w s → va_Nw w U := by
  intro w hw h
  simp only [nwL, List.mem_cons, List.not_mem_nil, or_false] at hw
  rcases hw with rfl | rfl | rfl | rfl | rfl | rfl | rfl | rfl | rfl | rfl | rfl | rfl | rfl | rfl | rfl | rfl | rfl | rfl | rfl | rfl | rfl | rfl | rfl | rfl | rfl | rfl | rfl | rfl | rfl | rfl | rfl | rfl | rfl | rfl | rfl
  · exact h.warmC hW
  · exact h.warmC hW
  · exact h.warmC hW
  · exact h.warmC hW
  · exact h.warmC hW
  · exact h.warmC hW
  · exact h.warmC hW
  · exact h.warmC hW
  · exact h.warmC hW
  · exact h.warmC hW
  · exact h.warmC hW
  · exact h.warmC hW
  · exact h.warmC hW
  · exact h.warmC hW
  · exact h.warmC hW
  · exact h.warmC hW
  · exact h.warmC hW
  · exact h.warmC hW
  · exact h.warmC hW
  · exact h.warmC hW
  · exact h.warmC hW
  · exact h.warmC hW
  · exact h.warmC hW
  · exact h.warmC hW
  · exact h.warmM hW
  · exact h.warmM hW
  · exact h.warmM hW
  · exact h.warmM hW
  · exact h.warmM hW
  · exact h.warmM hW
  · exact h.warmM hW
  · exact h.warmM hW
  · exact h.warmD hW
  · exact h.warmD hW
  · exact h.warmD hW
/-- what stays as it was at the law's begin, of a frame's own start s -/
def GF (tb : Tab) (D : va_G) (ka : KA) (xa : Nat → Nat) (zv : Value) (A : Nat → Prop) (s : State) (H : Heap) : Prop :=
  va_K D vwCl (tysG ka) s ∧ (va_T .int (xa 0) tb.2.2.1 (fun j => .int (Int32.ofInt (tb.2.2.2 j))) A s H ∧ tb.2.2.1 < 2147483648) ∧ (va_T .int (xa 1) 7 (fun j => .int (Int32.ofInt (worthT j))) A s H ∧ va_Z "SnowNames$Strikes" "WORTH" "[I" (.ref (xa 1)) A s H) ∧
  (∀ q ∈ strT, vk_R q.1 q.2.1 (strN q.2.2) (xa (2 * q.2.2 + 2)) s) ∧
  (∀ k, k < nStr → va_O "java/lang/String" (xa (2 * k + 2)) A s H ∧ va_OF "java/lang/String" "coder" "B" (.int 0) (xa (2 * k + 2)) A s H ∧ va_OF "java/lang/String" "value" "[B" (.ref (xa (2 * k + 3))) (xa (2 * k + 2)) A s H ∧ va_T .byte (xa (2 * k + 3)) (strB k).length (fun j => .int (Int32.ofInt ((strB k).getD j 0))) A s H) ∧
  va_Z "java/lang/String" "COMPACT_STRINGS" "Z" (.int 1) A s H ∧ (va_Z "jdk/internal/util/Preconditions" "SIOOBE_FORMATTER" "Ljava/util/function/BiFunction;" zv A s H ∧ (zv = .null ∨ ∃ a, zv = .ref a)) ∧
  vx_Zq Bundle.tN "UNASSIGNED_STACK" Bundle.steD A s H ∧ vx_Zq Bundle.tN "SUPPRESSED_SENTINEL" Bundle.listD A s H ∧
  (∀ E ∈ ["java/lang/IllegalStateException", "java/lang/IllegalArgumentException", "java/lang/IndexOutOfBoundsException", "java/lang/UnsupportedOperationException", "java/util/NoSuchElementException"], ∀ F ∈ ["java/lang/IllegalStateException", "java/lang/IllegalArgumentException", "java/lang/IndexOutOfBoundsException", "java/lang/UnsupportedOperationException", "java/util/NoSuchElementException"], E ≠ F → va_Nc E F s) ∧ va_AO "SnowNames$World" s ∧ ∀ w ∈ nwL, va_Nw w s
theorem GF.at {tb : Tab} {D : va_G} {ka : KA} {xa : Nat → Nat} {zv : Value} {A : Nat → Prop} {s U : State} {H H1 : Heap} (h : GF tb D ka xa zv A s H) (hW : s.WarmedH U.vm) (hq : ∀ a : Nat, a < H.size → ¬ A a → H1[a]? = H[a]?) : GF tb D ka xa zv A U H1 := by
  have hvm := hW.alike
  obtain ⟨h1, ⟨h2, h2'⟩, ⟨h3, h4⟩, h5, h6, h7, ⟨h8, h9⟩, h10, h11, h12, h13, h14⟩ := h
  exact ⟨h1.moved hvm, ⟨(h2.moved hvm).kept hq, h2'⟩, ⟨(h3.moved hvm).kept hq, (h4.moved hvm).kept hq⟩, fun q hm => (h5 q hm).warm hW,
    fun k hk => by
      obtain ⟨a1, a2, a3, a4⟩ := h6 k hk
      exact ⟨(va_O.moved hvm a1).kept hq, (va_OF.moved hvm a2).kept hq, (va_OF.moved hvm a3).kept hq, (a4.moved hvm).kept hq⟩,
    (h7.moved hvm).kept hq, ⟨(h8.moved hvm).kept hq, h9⟩, (h10.moved hvm).kept hq, (h11.moved hvm).kept hq, (fun E hE F hF hne => (h12 E hE F hF hne).moved hvm), h13.moved hvm, fun w hw => nw_warm hW w hw (h14 w hw)⟩
