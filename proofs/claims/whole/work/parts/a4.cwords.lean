/-! ===== THE CLASS: words, numbers and signs of a text ===== -/
/-- behind all figures -/
noncomputable def dgE (t : Int → Int) (n b : Int) : Int := scn (fun j => 48 ≤ t j ∧ t j ≤ 57) n b
/-- a text lies on the tape -/
def TPE (S : Nat → Int → Int) (t : Int → Int) (n : Int) : Prop := (0 ≤ n ∧ n ≤ 400) ∧ ∀ k, 0 ≤ k → k < n → S 1 k = t k ∧ 0 ≤ t k ∧ t k < 256
theorem TPE_f {S T : Nat → Int → Int} {t : Int → Int} {n : Int} (h : TPE S t n) (e : T 1 = S 1) : TPE T t n := by
  unfold TPE
  rw [e]
  exact h
/-- what the object of words holds -/
def WD (S T : Nat → Int → Int) (q : Nat) (n b f k v : Int) : Prop := FxE q S T ∧ T q 0 = 1 ∧ T q 1 = n ∧ T q 2 = b ∧ T q 3 = f ∧ T q 4 = k ∧ T q 5 = v ∧ T q 6 = S q 6
section wd
variable {S T : Nat → Int → Int} {q : Nat} {n b f k v x : Int}
theorem WD_2 (h : WD S T q n b f k v) : WD S (upS T q 2 x) q n x f k v := by
  obtain ⟨h0, h1, h2, h3, h4, h5, h6, h7⟩ := h
  refine ⟨FxE_u h0, ?_, ?_, ?_, ?_, ?_, ?_, ?_⟩ <;> rw [upS_at] <;> first | (rw [if_pos ⟨rfl, rfl⟩]) | (rw [if_neg (fun z => absurd z.2 (by decide))]; assumption)
theorem WD_3 (h : WD S T q n b f k v) : WD S (upS T q 3 x) q n b x k v := by
  obtain ⟨h0, h1, h2, h3, h4, h5, h6, h7⟩ := h
  refine ⟨FxE_u h0, ?_, ?_, ?_, ?_, ?_, ?_, ?_⟩ <;> rw [upS_at] <;> first | (rw [if_pos ⟨rfl, rfl⟩]) | (rw [if_neg (fun z => absurd z.2 (by decide))]; assumption)
theorem WD_4 (h : WD S T q n b f k v) : WD S (upS T q 4 x) q n b f x v := by
  obtain ⟨h0, h1, h2, h3, h4, h5, h6, h7⟩ := h
  refine ⟨FxE_u h0, ?_, ?_, ?_, ?_, ?_, ?_, ?_⟩ <;> rw [upS_at] <;> first | (rw [if_pos ⟨rfl, rfl⟩]) | (rw [if_neg (fun z => absurd z.2 (by decide))]; assumption)
theorem WD_5 (h : WD S T q n b f k v) : WD S (upS T q 5 x) q n b f k x := by
  obtain ⟨h0, h1, h2, h3, h4, h5, h6, h7⟩ := h
  refine ⟨FxE_u h0, ?_, ?_, ?_, ?_, ?_, ?_, ?_⟩ <;> rw [upS_at] <;> first | (rw [if_pos ⟨rfl, rfl⟩]) | (rw [if_neg (fun z => absurd z.2 (by decide))]; assumption)
end wd
def isLt (x : Int) : Prop := 97 ≤ x ∧ x ≤ 122
def isDg (x : Int) : Prop := 48 ≤ x ∧ x ≤ 57
/-- what stands at b, what kind it is of -/
def TKc (t : Int → Int) (n b f k v : Int) : Prop := (b = n ∧ k = 3 ∧ f = b ∧ v = -1) ∨ (b < n ∧ isLt (t b) ∧ k = 0 ∧ f = ltE t n b ∧ v = -1) ∨ (b < n ∧ isDg (t b) ∧ k = 1 ∧ f = dgE t n b ∧ v = if dgE t n b - b ≤ 3 then vlZ t b (dgE t n b - b) else -1) ∨ (b < n ∧ ¬ isLt (t b) ∧ ¬ isDg (t b) ∧ t b ≠ 32 ∧ k = 2 ∧ f = b + 1 ∧ v = -1)
/-- the words stand at b -/
def TKS (S T : Nat → Int → Int) (q : Nat) (t : Int → Int) (n b : Int) : Prop := (0 ≤ b ∧ b ≤ n) ∧ ∃ f k v, WD S T q n b f k v ∧ TKc t n b f k v
def TKx (S T : Nat → Int → Int) (q : Nat) (t : Int → Int) (n b f k v : Int) : Prop := (0 ≤ b ∧ b ≤ n) ∧ WD S T q n b f k v ∧ TKc t n b f k v
def dgA (t : Int → Int) (b i : Int) : Prop := ∀ j, b ≤ j → j < b + i → isDg (t j)
theorem dgA_0 {t : Int → Int} {b : Int} : dgA t b 0 := fun j j0 j1 => by omega
theorem dgA_s {t : Int → Int} {b i : Int} (h : dgA t b i) (g : isDg (t (b + i))) : dgA t b (i + 1) := fun j j0 j1 => by
  by_cases y : j = b + i
  · rw [y]; exact g
  · exact h j j0 (by omega)
theorem skp_y9 {t : Int → Int} {n i : Int} (h : i < n) (hc : t i = 32) : skp t n (i + 1) = skp t n i := (scn_y (c := fun j => t j = 32) h hc).symm
theorem skp_n9 {t : Int → Int} {n i : Int} (h : ¬ (i < n ∧ t i = 32)) : skp t n i = i := scn_n (c := fun j => t j = 32) h
theorem ltE_y {t : Int → Int} {n i : Int} (h : i < n) (hc : isLt (t i)) : ltE t n (i + 1) = ltE t n i := (scn_y (c := fun j => 97 ≤ t j ∧ t j ≤ 122) h hc).symm
theorem ltE_n {t : Int → Int} {n i : Int} (h : ¬ (i < n ∧ isLt (t i))) : ltE t n i = i := scn_n (c := fun j => 97 ≤ t j ∧ t j ≤ 122) h
theorem dgE_y {t : Int → Int} {n i : Int} (h : i < n) (hc : isDg (t i)) : dgE t n (i + 1) = dgE t n i := (scn_y (c := fun j => 48 ≤ t j ∧ t j ≤ 57) h hc).symm
theorem dgE_n {t : Int → Int} {n i : Int} (h : ¬ (i < n ∧ isDg (t i))) : dgE t n i = i := scn_n (c := fun j => 48 ≤ t j ∧ t j ≤ 57) h
theorem dgE_rg {t : Int → Int} {n b : Int} : b ≤ dgE t n b ∧ (dgE t n b ≤ n ∨ dgE t n b = b) ∧ (∀ j, b ≤ j → j < dgE t n b → j < n ∧ isDg (t j)) ∧ (dgE t n b < n → ¬ isDg (t (dgE t n b))) := scn_rg (c := fun j => 48 ≤ t j ∧ t j ≤ 57)
/-- at most four figures are read by the other one -/
theorem fg_dg {t : Int → Int} {n b : Int} : fgE t n b = if dgE t n b - b ≤ 3 then dgE t n b else b + 4 := by
  obtain ⟨d1, d2, d3, d4⟩ := dgE_rg (t := t) (n := n) (b := b)
  by_cases y : dgE t n b - b ≤ 3
  · rw [if_pos y]
    refine scn_uq (c := fun j => (48 ≤ t j ∧ t j ≤ 57) ∧ j - b ≤ 3) d1 d2 (fun j j0 j1 => ⟨(d3 j j0 j1).2, by omega⟩) (fun h z => d4 h z.1) (fun j _ _ _ => Iff.rfl)
  · rw [if_neg y]
    have dn := (d3 (b + 3) (by omega) (by omega)).1
    refine scn_uq (c := fun j => (48 ≤ t j ∧ t j ≤ 57) ∧ j - b ≤ 3) (by omega) (by omega) (fun j j0 j1 => ⟨(d3 j j0 (by omega)).2, by omega⟩) (fun h z => by have := z.2; omega) (fun j _ _ _ => Iff.rfl)
theorem okF_dg {t : Int → Int} {n lo hi b : Int} : okF t n lo hi b ↔ (b < dgE t n b ∧ dgE t n b - b ≤ 3) ∧ lo ≤ vlZ t b (dgE t n b - b) ∧ vlZ t b (dgE t n b - b) ≤ hi := by
  unfold okF
  rw [fg_dg]
  by_cases y : dgE t n b - b ≤ 3
  · rw [if_pos y]
  · rw [if_neg y]
    constructor
    · intro h; omega
    · intro h; omega
theorem fg_ok {t : Int → Int} {n lo hi b : Int} (h : okF t n lo hi b) : fgE t n b = dgE t n b := by
  rw [fg_dg, if_pos (okF_dg.mp h).1.2]
section tk
variable {S T : Nat → Int → Int} {q : Nat} {t : Int → Int} {n b f k v : Int}
/-- a number, told by its kind -/
theorem num_is {lo hi : Int} (h : TKc t n b f k v) (hlo : 0 ≤ lo) : okF t n lo hi b ↔ k = 1 ∧ v ≠ -1 ∧ lo ≤ v ∧ v ≤ hi := by
  rw [okF_dg]
  have dr := dgE_rg (t := t) (n := n) (b := b)
  rcases h with ⟨h1, h2, h3, h4⟩ | ⟨h1, h2, h3, h4, h5⟩ | ⟨h1, h2, h3, h4, h5⟩ | ⟨h1, h2, h3, h4, h5, h6, h7⟩
  · have e : dgE t n b = b := dgE_n (fun z => by omega)
    omega
  · have e : dgE t n b = b := dgE_n (fun z => by have := z.2.2; have := h2.1; omega)
    omega
  · have dp : b < dgE t n b := by
      have := dgE_y h1 h2
      have := (dgE_rg (t := t) (n := n) (b := b + 1)).1
      omega
    by_cases y : dgE t n b - b ≤ 3
    · rw [if_pos y] at h5
      have vr := vlZ_rg (t := t) (b := b) (i := dgE t n b - b) (by omega) (by omega) (fun j j0 j1 => (dr.2.2.1 j j0 (by omega)).2)
      rw [h5]
      constructor
      · intro z; exact ⟨h3, by omega, z.2⟩
      · intro z; exact ⟨⟨dp, y⟩, z.2.2⟩
    · rw [if_neg y] at h5
      omega
  · have e : dgE t n b = b := dgE_n (fun z => h3 z.2)
    omega
theorem num_v {lo hi : Int} (h : TKc t n b f k v) (hlo : 0 ≤ lo) (ho : okF t n lo hi b) : v = vlZ t b (fgE t n b - b) ∧ f = fgE t n b := by
  have e := (num_is h hlo).mp ho
  have g := okF_dg.mp ho
  rw [fg_ok ho]
  rcases h with ⟨h1, h2, h3, h4⟩ | ⟨h1, h2, h3, h4, h5⟩ | ⟨h1, h2, h3, h4, h5⟩ | ⟨h1, h2, h3, h4, h5, h6, h7⟩
  · omega
  · omega
  · rw [if_pos g.1.2] at h5
    exact ⟨h5, h4⟩
  · omega
theorem tk_f (h : TKc t n b f k v) (hb : 0 ≤ b ∧ b ≤ n) : b ≤ f ∧ f ≤ n := by
  have lr := ltE_rg (t := t) (n := n) (a := b)
  have dr := dgE_rg (t := t) (n := n) (b := b)
  rcases h with h | h | h | h
  · omega
  · obtain ⟨h1, h2, h3, h4, h5⟩ := h; omega
  · obtain ⟨h1, h2, h3, h4, h5⟩ := h; rw [h4]; omega
  · obtain ⟨h1, h2, h3, h4, h5, h6, h7⟩ := h; omega
theorem tk_v (h : TKc t n b f k v) : -1 ≤ v ∧ v ≤ 9999 ∧ 0 ≤ k ∧ k ≤ 3 := by
  have dr := dgE_rg (t := t) (n := n) (b := b)
  rcases h with h | h | h | h
  · omega
  · obtain ⟨h1, h2, h3, h4, h5⟩ := h; omega
  · obtain ⟨h1, h2, h3, h4, h5⟩ := h
    by_cases y : dgE t n b - b ≤ 3
    · rw [if_pos y] at h5
      have := vlZ_rg (t := t) (b := b) (i := dgE t n b - b) (by omega) (by omega) (fun j j0 j1 => (dr.2.2.1 j j0 (by omega)).2)
      omega
    · rw [if_neg y] at h5; omega
  · obtain ⟨h1, h2, h3, h4, h5, h6, h7⟩ := h; omega
/-- a word, told by its kind -/
theorem wrd_k (h : TKc t n b f k v) : (k = 0 → f = ltE t n b) ∧ (k ≠ 0 → ltE t n b = b) := by
  rcases h with ⟨h1, h2, h3, h4⟩ | ⟨h1, h2, h3, h4, h5⟩ | ⟨h1, h2, h3, h4, h5⟩ | ⟨h1, h2, h3, h4, h5, h6, h7⟩
  · exact ⟨fun z => by omega, fun _ => ltE_n (fun z => by omega)⟩
  · exact ⟨fun _ => h4, fun z => absurd h3 z⟩
  · exact ⟨fun z => by omega, fun _ => ltE_n (fun z => by have := z.2.1; have := h2.2; omega)⟩
  · exact ⟨fun z => by omega, fun _ => ltE_n (fun z => h2 z.2)⟩
theorem sgn_k {c : Int} (h : TKc t n b f k v) (hc : ¬ isLt c ∧ ¬ isDg c ∧ c ≠ 32) : (b < n ∧ t b = c) ↔ k = 2 ∧ t b = c := by
  rcases h with ⟨h1, h2, h3, h4⟩ | ⟨h1, h2, h3, h4, h5⟩ | ⟨h1, h2, h3, h4, h5⟩ | ⟨h1, h2, h3, h4, h5, h6, h7⟩
  · omega
  · exact ⟨fun z => absurd h2 (by rw [z.2]; exact hc.1), fun z => by omega⟩
  · exact ⟨fun z => absurd h2 (by rw [z.2]; exact hc.2.1), fun z => by omega⟩
  · exact ⟨fun z => ⟨h5, z.2⟩, fun z => ⟨h1, z.2⟩⟩
theorem ovr_k (h : TKc t n b f k v) (hb : b ≤ n) : b = n ↔ k = 3 := by
  rcases h with h | h | h | h
  · omega
  · obtain ⟨h1, h2, h3, h4, h5⟩ := h; omega
  · obtain ⟨h1, h2, h3, h4, h5⟩ := h; omega
  · obtain ⟨h1, h2, h3, h4, h5, h6, h7⟩ := h; omega
end tk
/-- the words of an object stand at b; w is wrong -/
def TKw (Z S : Nat → Int → Int) (q : Nat) (t : Int → Int) (n b w : Int) : Prop := (0 ≤ b ∧ b ≤ n) ∧ FxE q Z S ∧ S q 0 = 1 ∧ S q 1 = n ∧ S q 2 = b ∧ S q 6 = w ∧ TKc t n b (S q 3) (S q 4) (S q 5)
section tkw
variable {Z S T : Nat → Int → Int} {q : Nat} {t : Int → Int} {n b f k v w : Int}
theorem FxE_t {c : Nat} {S T U : Nat → Int → Int} (h : FxE c S T) (g : FxE c T U) : FxE c S U := fun a ha => (g a ha).trans (h a ha)
theorem TKw_of (hZ : FxE q Z S) (hw : S q 6 = w) (h : TKx S T q t n b f k v) : TKw Z T q t n b w := by
  obtain ⟨h1, ⟨g0, g1, g2, g3, g4, g5, g6, g7⟩, h3⟩ := h
  exact ⟨h1, FxE_t hZ g0, g1, g2, g3, g7.trans hw, by rw [g4, g5, g6]; exact h3⟩
theorem TKw_w (h : TKw Z S q t n b w) {x : Int} : TKw Z (upS S q 6 x) q t n b x := by
  obtain ⟨h1, h2, h3, h4, h5, h6, h7⟩ := h
  have e : ∀ j, j ≠ 6 → upS S q 6 x q j = S q j := fun j hj => by rw [upS_at, if_neg (fun z => hj z.2)]
  exact ⟨h1, FxE_u h2, by rw [e 0 (by decide)]; exact h3, by rw [e 1 (by decide)]; exact h4, by rw [e 2 (by decide)]; exact h5, by rw [upS_at, if_pos ⟨rfl, rfl⟩], by rw [e 3 (by decide), e 4 (by decide), e 5 (by decide)]; exact h7⟩
theorem TKw_P (hq : q ≠ 1) (h : TKw Z S q t n b w) (hP : TPE Z t n) : TPE S t n := TPE_f hP (h.2.1 1 (fun e => hq e.symm))
theorem wd_f (h : TKw Z S q t n b w) {l : List Int} (hl : 0 < l.length) (hw : wdP t n b l) : S q 3 = b + l.length := by
  have k := wrd_k h.2.2.2.2.2.2
  have e := hw.1
  by_cases y : S q 4 = 0
  · rw [k.1 y]; omega
  · have := k.2 y; omega
theorem sg_f (h : TKw Z S q t n b w) {c : Int} (hc : ¬ isLt c ∧ ¬ isDg c ∧ c ≠ 32) (hs : b < n ∧ t b = c) : S q 3 = b + 1 := by
  have k := (sgn_k h.2.2.2.2.2.2 hc).mp hs
  rcases h.2.2.2.2.2.2 with z | z | z | z
  · omega
  · obtain ⟨h1, h2, h3, h4, h5⟩ := z; omega
  · obtain ⟨h1, h2, h3, h4, h5⟩ := z; omega
  · obtain ⟨h1, h2, h3, h4, h5, h6, h7⟩ := z; exact h6
theorem nm_f (h : TKw Z S q t n b w) {lo hi : Int} (hlo : 0 ≤ lo) (ho : okF t n lo hi b) : S q 5 = vlZ t b (fgE t n b - b) ∧ S q 3 = fgE t n b := num_v h.2.2.2.2.2.2 hlo ho
end tkw
theorem strB_le : ∀ i : Fin 39, (strB i).length ≤ 100 := by decide
theorem strB_u {i : Nat} (hi : i < 39) : ((strB i).length : Int) ≤ 100 := by
  have := strB_le ⟨i, hi⟩
  have e : (strB i).length ≤ 100 := this
  omega
section Words1
variable {tb : Tab} {d : Nat} {m : AM} {K : Out → AM → Prop} {S : Nat → Int → Int}
theorem k95_0 : pg.1 95 0 = [.aload 0, .aload 0, .getfield 703, .putfield 702, .jsr 8] := rfl
theorem a95_0 {tb : Tab} {d : Nat} {K : Out → AM → Prop} {ls st : List AV} {m : AM} : At tb d 95 K 0 ls st m = wpB tb (pg.2.1 95) (Runs tb pg d) K (At tb d 95 K) [.aload 0, .aload 0, .getfield 703, .putfield 702, .jsr 8] ls st m := At.eq k95_0
theorem k95_8 : pg.1 95 8 = [.aload 0, .getfield 702, .aload 0, .getfield 701, .if_icmp .ge 46, .aload 0, .getfield 700, .aload 0, .getfield 702, .iaload, .bipush 32, .if_icmp .ne 46, .aload 0, .dup, .getfield 702, .bipush 1, .iadd, .putfield 702, .goto 8] := rfl
theorem a95_8 {tb : Tab} {d : Nat} {K : Out → AM → Prop} {ls st : List AV} {m : AM} : At tb d 95 K 8 ls st m = wpB tb (pg.2.1 95) (Runs tb pg d) K (At tb d 95 K) [.aload 0, .getfield 702, .aload 0, .getfield 701, .if_icmp .ge 46, .aload 0, .getfield 700, .aload 0, .getfield 702, .iaload, .bipush 32, .if_icmp .ne 46, .aload 0, .dup, .getfield 702, .bipush 1, .iadd, .putfield 702, .goto 8] ls st m := At.eq k95_8
theorem k95_46 : pg.1 95 46 = [.aload 0, .aload 0, .getfield 702, .putfield 703, .aload 0, .bipush (-1), .putfield 705, .aload 0, .getfield 702, .aload 0, .getfield 701, .if_icmp .lt 78, .aload 0, .bipush 3, .putfield 704, .goto 313] := rfl
theorem a95_46 {tb : Tab} {d : Nat} {K : Out → AM → Prop} {ls st : List AV} {m : AM} : At tb d 95 K 46 ls st m = wpB tb (pg.2.1 95) (Runs tb pg d) K (At tb d 95 K) [.aload 0, .aload 0, .getfield 702, .putfield 703, .aload 0, .bipush (-1), .putfield 705, .aload 0, .getfield 702, .aload 0, .getfield 701, .if_icmp .lt 78, .aload 0, .bipush 3, .putfield 704, .goto 313] ls st m := At.eq k95_46
theorem k95_78 : pg.1 95 78 = [.aload 0, .getfield 700, .aload 0, .getfield 702, .iaload, .bipush 97, .if_icmp .lt 163, .aload 0, .getfield 700, .aload 0, .getfield 702, .iaload, .bipush 122, .if_icmp .gt 163, .aload 0, .bipush 0, .putfield 704, .jsr 111] := rfl
theorem a95_78 {tb : Tab} {d : Nat} {K : Out → AM → Prop} {ls st : List AV} {m : AM} : At tb d 95 K 78 ls st m = wpB tb (pg.2.1 95) (Runs tb pg d) K (At tb d 95 K) [.aload 0, .getfield 700, .aload 0, .getfield 702, .iaload, .bipush 97, .if_icmp .lt 163, .aload 0, .getfield 700, .aload 0, .getfield 702, .iaload, .bipush 122, .if_icmp .gt 163, .aload 0, .bipush 0, .putfield 704, .jsr 111] ls st m := At.eq k95_78
theorem k95_111 : pg.1 95 111 = [.aload 0, .getfield 703, .aload 0, .getfield 701, .if_icmp .ge 313, .aload 0, .getfield 700, .aload 0, .getfield 703, .iaload, .bipush 97, .if_icmp .lt 313, .aload 0, .getfield 700, .aload 0, .getfield 703, .iaload, .bipush 122, .if_icmp .gt 313, .aload 0, .dup, .getfield 703, .bipush 1, .iadd, .putfield 703, .goto 111] := rfl
theorem a95_111 {tb : Tab} {d : Nat} {K : Out → AM → Prop} {ls st : List AV} {m : AM} : At tb d 95 K 111 ls st m = wpB tb (pg.2.1 95) (Runs tb pg d) K (At tb d 95 K) [.aload 0, .getfield 703, .aload 0, .getfield 701, .if_icmp .ge 313, .aload 0, .getfield 700, .aload 0, .getfield 703, .iaload, .bipush 97, .if_icmp .lt 313, .aload 0, .getfield 700, .aload 0, .getfield 703, .iaload, .bipush 122, .if_icmp .gt 313, .aload 0, .dup, .getfield 703, .bipush 1, .iadd, .putfield 703, .goto 111] ls st m := At.eq k95_111
theorem k95_163 : pg.1 95 163 = [.aload 0, .getfield 700, .aload 0, .getfield 702, .iaload, .bipush 48, .if_icmp .lt 298, .aload 0, .getfield 700, .aload 0, .getfield 702, .iaload, .bipush 57, .if_icmp .gt 298, .aload 0, .bipush 1, .putfield 704, .bipush 0, .istore 1, .jsr 198] := rfl
theorem a95_163 {tb : Tab} {d : Nat} {K : Out → AM → Prop} {ls st : List AV} {m : AM} : At tb d 95 K 163 ls st m = wpB tb (pg.2.1 95) (Runs tb pg d) K (At tb d 95 K) [.aload 0, .getfield 700, .aload 0, .getfield 702, .iaload, .bipush 48, .if_icmp .lt 298, .aload 0, .getfield 700, .aload 0, .getfield 702, .iaload, .bipush 57, .if_icmp .gt 298, .aload 0, .bipush 1, .putfield 704, .bipush 0, .istore 1, .jsr 198] ls st m := At.eq k95_163
theorem k95_198 : pg.1 95 198 = [.aload 0, .getfield 703, .aload 0, .getfield 701, .if_icmp .ge 290, .aload 0, .getfield 700, .aload 0, .getfield 703, .iaload, .bipush 48, .if_icmp .lt 290, .aload 0, .getfield 700, .aload 0, .getfield 703, .iaload, .bipush 57, .if_icmp .gt 290, .aload 0, .getfield 703, .aload 0, .getfield 702, .isub, .bipush 3, .if_icmp .ge 275, .iload 1, .bipush (-1), .if_icmp .eq 275, .bipush 10, .iload 1, .imul, .aload 0, .getfield 700, .aload 0, .getfield 703, .iaload, .iadd, .bipush 48, .isub, .goto 276] := rfl
theorem a95_198 {tb : Tab} {d : Nat} {K : Out → AM → Prop} {ls st : List AV} {m : AM} : At tb d 95 K 198 ls st m = wpB tb (pg.2.1 95) (Runs tb pg d) K (At tb d 95 K) [.aload 0, .getfield 703, .aload 0, .getfield 701, .if_icmp .ge 290, .aload 0, .getfield 700, .aload 0, .getfield 703, .iaload, .bipush 48, .if_icmp .lt 290, .aload 0, .getfield 700, .aload 0, .getfield 703, .iaload, .bipush 57, .if_icmp .gt 290, .aload 0, .getfield 703, .aload 0, .getfield 702, .isub, .bipush 3, .if_icmp .ge 275, .iload 1, .bipush (-1), .if_icmp .eq 275, .bipush 10, .iload 1, .imul, .aload 0, .getfield 700, .aload 0, .getfield 703, .iaload, .iadd, .bipush 48, .isub, .goto 276] ls st m := At.eq k95_198
theorem k95_275 : pg.1 95 275 = [.bipush (-1), .jsr 276] := rfl
theorem a95_275 {tb : Tab} {d : Nat} {K : Out → AM → Prop} {ls st : List AV} {m : AM} : At tb d 95 K 275 ls st m = wpB tb (pg.2.1 95) (Runs tb pg d) K (At tb d 95 K) [.bipush (-1), .jsr 276] ls st m := At.eq k95_275
theorem k95_276 : pg.1 95 276 = [.istore 1, .aload 0, .dup, .getfield 703, .bipush 1, .iadd, .putfield 703, .goto 198] := rfl
theorem a95_276 {tb : Tab} {d : Nat} {K : Out → AM → Prop} {ls st : List AV} {m : AM} : At tb d 95 K 276 ls st m = wpB tb (pg.2.1 95) (Runs tb pg d) K (At tb d 95 K) [.istore 1, .aload 0, .dup, .getfield 703, .bipush 1, .iadd, .putfield 703, .goto 198] ls st m := At.eq k95_276
theorem k95_290 : pg.1 95 290 = [.aload 0, .iload 1, .putfield 705, .goto 313] := rfl
theorem a95_290 {tb : Tab} {d : Nat} {K : Out → AM → Prop} {ls st : List AV} {m : AM} : At tb d 95 K 290 ls st m = wpB tb (pg.2.1 95) (Runs tb pg d) K (At tb d 95 K) [.aload 0, .iload 1, .putfield 705, .goto 313] ls st m := At.eq k95_290
theorem k95_298 : pg.1 95 298 = [.aload 0, .bipush 2, .putfield 704, .aload 0, .dup, .getfield 703, .bipush 1, .iadd, .putfield 703, .jsr 313] := rfl
theorem a95_298 {tb : Tab} {d : Nat} {K : Out → AM → Prop} {ls st : List AV} {m : AM} : At tb d 95 K 298 ls st m = wpB tb (pg.2.1 95) (Runs tb pg d) K (At tb d 95 K) [.aload 0, .bipush 2, .putfield 704, .aload 0, .dup, .getfield 703, .bipush 1, .iadd, .putfield 703, .jsr 313] ls st m := At.eq k95_298
theorem k95_313 : pg.1 95 313 = [.return_] := rfl
theorem a95_313 {tb : Tab} {d : Nat} {K : Out → AM → Prop} {ls st : List AV} {m : AM} : At tb d 95 K 313 ls st m = wpB tb (pg.2.1 95) (Runs tb pg d) K (At tb d 95 K) [.return_] ls st m := At.eq k95_313
theorem w_95_55 {n a : Int} {t : Int → Int} (hP : TPE S t n) (h0 : S 55 0 = 1) (h1 : S 55 1 = n) (h3 : S 55 3 = a) (ha : 0 ≤ a ∧ a ≤ n) (hK : ∀ T f k v, TKx S T 55 t n (skp t n a) f k v → K (.inl none) (X T m)) : Runs tb pg (d + 1) 95 [vr 55] (X S m) K := by
  have hn := hP.1
  have sb := skp_ge (t := t) (n := n) (a := a)
  have sl := skp_le (t := t) (n := n) (a := a) ha.2
  have h313 : ∀ (T : Nat → Int → Int) (b f k v : Int) (z : AV), b = skp t n a → WD S T 55 n b f k v → TKc t n b f k v → At tb d 95 K 313 [vr 55, z] [] (X T m) := by
    intro T b f k v z hb hW hc
    subst hb
    rw [a95_313]
    simp only [w_return]
    exact hK T f k v ⟨⟨by omega, by omega⟩, hW, hc⟩
  have h111 : ∀ (T0 : Nat → Int → Int) (b k v : Int) (z : AV), b = skp t n a → b < n → isLt (t b) → WD S T0 55 n b b 0 (-1) → At tb d 95 K 111 [vr 55, z] [] (X T0 m) := by
    intro T0 b k v z hb hbn hlt hW0
    have hL111 : (fun i : Int => ∀ (f : Int) (T : Nat → Int → Int), f = b + i → (WD S T 55 n b f 0 (-1)) → (ltE t n f = ltE t n b) → At tb d 95 K 111 [vr 55, z] [] (X T m)) 0 := by
      refine loopZ (fun i : Int => ∀ (f : Int) (T : Nat → Int → Int), f = b + i → (WD S T 55 n b f 0 (-1)) → (ltE t n f = ltE t n b) → At tb d 95 K 111 [vr 55, z] [] (X T m)) (n - b) (by omega) ?_ ?_
      · intro i h0 h1 h9 f T hf hT he
        have hW := hT
        obtain ⟨f0, t0, t1, t2, t3, t4, t5, t6⟩ := hW
        have hTt : ∀ j, 0 ≤ j → j < n → T 1 j = t j ∧ 0 ≤ t j ∧ t j < 256 := fun j j0 j1 => by rw [f0 1 (by decide)]; exact hP.2 j j0 j1
        have tf := fun (y : f < n) => hTt f (by omega) y
        have ly := fun (y : f < n) (c : isLt (t f)) => ltE_y y c
        rw [a95_111]
        repeat' (first | omega | with_reducible refine h9 (f + 1) _ ?_ ?_ ?_ | (refine h313 _ b f 0 (-1) _ hb hT ?_) | simp only [w_aload, x_g703_55, x_g703_58, x_p702_55, x_p702_58, w_fall, Int.reduceToNat, x_g702_55, x_g702_58, x_g701_55, x_g701_58, w_ifc, cI, x_g700_55, x_g700_58, x_iald, w_ialoads, w_ialoadw, w_iconst, w_dupi, w_dupr, w_iadd, w_goto, x_p703_55, x_p703_58, x_p705_55, x_p705_58, x_p704_55, x_p704_58, w_istore, w_isub, w_iload, w_imul, w_return, isA_1, len_1, Int.cast_ofNat_Int, a95_0, a95_46, a95_78, a95_163, a95_275, a95_276, a95_290, a95_298, R32, List.getElem?_cons_zero, List.getElem?_cons_succ, List.set_cons_zero, List.set_cons_succ, List.cons_append, List.nil_append, List.replicate_succ, List.replicate_zero, List.take_succ_cons, List.take_zero, List.drop_succ_cons, List.drop_zero, List.reverse_cons, List.reverse_nil, List.length_cons, List.length_nil, Option.toList, true_and, and_true, eq_self, ↓reduceIte, not_true_eq_false, not_false_eq_true, true_or, or_true, upS_at, Int.reduceEq, Nat.reduceEqDiff, and_self, and_true, true_and, and_false, false_and, if_true, if_false, reduceIte, Int.reduceToNat, t0, t1, t2, t3] | with_reducible refine And.intro ?_ ?_ | with_reducible intro _)
        all_goals (try (first | omega | contradiction | (have g := tf (by omega); have e := ly (by omega) ⟨by omega, by omega⟩; first | omega | exact WD_3 hT) | exact WD_3 hT | (exact Or.inr (Or.inl ⟨hbn, hlt, rfl, by rw [← he]; exact (ltE_n (fun y => by have g := tf (by omega); have g1 := y.2.1; have g2 := y.2.2; omega)).symm, rfl⟩))))
      · intro f T hf hT he
        have hW := hT
        obtain ⟨f0, t0, t1, t2, t3, t4, t5, t6⟩ := hW

        rw [a95_111]
        repeat' (first | omega | (refine h313 _ b f 0 (-1) _ hb hT ?_) | simp only [w_aload, x_g703_55, x_g703_58, x_p702_55, x_p702_58, w_fall, Int.reduceToNat, x_g702_55, x_g702_58, x_g701_55, x_g701_58, w_ifc, cI, x_g700_55, x_g700_58, x_iald, w_ialoads, w_ialoadw, w_iconst, w_dupi, w_dupr, w_iadd, w_goto, x_p703_55, x_p703_58, x_p705_55, x_p705_58, x_p704_55, x_p704_58, w_istore, w_isub, w_iload, w_imul, w_return, isA_1, len_1, Int.cast_ofNat_Int, a95_0, a95_46, a95_78, a95_163, a95_275, a95_276, a95_290, a95_298, R32, List.getElem?_cons_zero, List.getElem?_cons_succ, List.set_cons_zero, List.set_cons_succ, List.cons_append, List.nil_append, List.replicate_succ, List.replicate_zero, List.take_succ_cons, List.take_zero, List.drop_succ_cons, List.drop_zero, List.reverse_cons, List.reverse_nil, List.length_cons, List.length_nil, Option.toList, true_and, and_true, eq_self, ↓reduceIte, not_true_eq_false, not_false_eq_true, true_or, or_true, upS_at, Int.reduceEq, Nat.reduceEqDiff, and_self, and_true, true_and, and_false, false_and, if_true, if_false, reduceIte, Int.reduceToNat, t0, t1, t2, t3] | with_reducible refine And.intro ?_ ?_ | with_reducible intro _)
        all_goals (try (first | omega | contradiction | (exact Or.inr (Or.inl ⟨hbn, hlt, rfl, by rw [← he]; exact (ltE_n (fun y => by have := y.1; omega)).symm, rfl⟩))))
    exact hL111 _ _ (by omega) hW0 rfl
  have h198 : ∀ (T0 : Nat → Int → Int) (b : Int), b = skp t n a → b < n → isDg (t b) → WD S T0 55 n b b 1 (-1) → At tb d 95 K 198 [vr 55, vi 0] [] (X T0 m) := by
    intro T0 b hb hbn hdg hW0
    have hL198 : (fun i : Int => ∀ (f : Int) (v : Int) (T : Nat → Int → Int), f = b + i → v = (if i ≤ 3 then vlZ t b i else -1) → (WD S T 55 n b f 1 (-1)) → (dgE t n f = dgE t n b) → (dgA t b i) → At tb d 95 K 198 [vr 55, vi v] [] (X T m)) 0 := by
      refine loopZ (fun i : Int => ∀ (f : Int) (v : Int) (T : Nat → Int → Int), f = b + i → v = (if i ≤ 3 then vlZ t b i else -1) → (WD S T 55 n b f 1 (-1)) → (dgE t n f = dgE t n b) → (dgA t b i) → At tb d 95 K 198 [vr 55, vi v] [] (X T m)) (n - b) (by omega) ?_ ?_
      · intro i h0 h1 h9 f v T hf hv hT he hd
        have hW := hT
        obtain ⟨f0, t0, t1, t2, t3, t4, t5, t6⟩ := hW
        have hTt : ∀ j, 0 ≤ j → j < n → T 1 j = t j ∧ 0 ≤ t j ∧ t j < 256 := fun j j0 j1 => by rw [f0 1 (by decide)]; exact hP.2 j j0 j1
        have tf := fun (y : f < n) => hTt f (by omega) y
        have dy := fun (y : f < n) (c : isDg (t f)) => dgE_y y c
        have vr9 := fun (y : i ≤ 3) => vlZ_rg (t := t) (b := b) (i := i) h0 (by omega) (fun j j0 j1 => hd j j0 j1)
        have vs := vlZ_s (t := t) (b := b) h0
        have vb : -1 ≤ v ∧ v ≤ 9999 := by
          by_cases y : i ≤ 3
          · rw [if_pos y] at hv; have := vr9 y; omega
          · rw [if_neg y] at hv; omega
        have vi9 : i ≤ 3 → v = vlZ t b i := fun y => by rw [if_pos y] at hv; exact hv
        have vj9 : ¬ i ≤ 3 → v = -1 := fun y => by rw [if_neg y] at hv; exact hv
        have tbf : t (b + i) = t f := by rw [hf]
        have stp : (f < n) → isDg (t f) → dgE t n (f + 1) = dgE t n b ∧ dgA t b (i + 1) := fun y c => ⟨(dy y c).trans he, dgA_s hd (by rw [tbf]; exact c)⟩
        have fin9 : ¬ (f < n ∧ isDg (t f)) → TKc t n b f 1 v := fun y => by
          have e := dgE_n y
          rw [he] at e
          refine Or.inr (Or.inr (Or.inl ⟨hbn, hdg, rfl, e.symm, ?_⟩))
          rw [e, show f - b = i by omega]
          exact hv
        rw [a95_198]
        repeat' (first | omega | with_reducible refine h9 (f + 1) _ _ ?_ ?_ ?_ ?_ ?_ | (refine h313 _ b f 1 v _ hb (WD_5 hT) (fin9 ?_)) | simp only [w_aload, x_g703_55, x_g703_58, x_p702_55, x_p702_58, w_fall, Int.reduceToNat, x_g702_55, x_g702_58, x_g701_55, x_g701_58, w_ifc, cI, x_g700_55, x_g700_58, x_iald, w_ialoads, w_ialoadw, w_iconst, w_dupi, w_dupr, w_iadd, w_goto, x_p703_55, x_p703_58, x_p705_55, x_p705_58, x_p704_55, x_p704_58, w_istore, w_isub, w_iload, w_imul, w_return, isA_1, len_1, Int.cast_ofNat_Int, a95_0, a95_46, a95_78, a95_163, a95_275, a95_276, a95_290, a95_298, R32, List.getElem?_cons_zero, List.getElem?_cons_succ, List.set_cons_zero, List.set_cons_succ, List.cons_append, List.nil_append, List.replicate_succ, List.replicate_zero, List.take_succ_cons, List.take_zero, List.drop_succ_cons, List.drop_zero, List.reverse_cons, List.reverse_nil, List.length_cons, List.length_nil, Option.toList, true_and, and_true, eq_self, ↓reduceIte, not_true_eq_false, not_false_eq_true, true_or, or_true, upS_at, Int.reduceEq, Nat.reduceEqDiff, and_self, and_true, true_and, and_false, false_and, if_true, if_false, reduceIte, Int.reduceToNat, t0, t1, t2, t3] | with_reducible refine And.intro ?_ ?_ | with_reducible intro _)
        all_goals (try (first | omega | contradiction | exact WD_3 hT | (have g := tf (by omega); have e := stp (by omega) ⟨by omega, by omega⟩; first | exact e.1 | exact e.2 | (rw [if_pos (by omega)]; have y9 := vi9 (by omega); omega) | (rw [if_neg (by omega)])) | (intro y; have g := tf (by omega); have g1 := y.2.1; have g2 := y.2.2; omega) | (have g := tf (by omega); by_cases y : i ≤ 3; (have y9 := vi9 y; have y8 := vr9 y; first | omega | (rw [if_neg (by omega)])); (rw [if_neg (by omega)]))))
      · intro f v T hf hv hT he hd
        have hW := hT
        obtain ⟨f0, t0, t1, t2, t3, t4, t5, t6⟩ := hW
        have fin9 : TKc t n b f 1 v := by
          have e := dgE_n (t := t) (n := n) (i := f) (fun y => by have := y.1; omega)
          rw [he] at e
          refine Or.inr (Or.inr (Or.inl ⟨hbn, hdg, rfl, e.symm, ?_⟩))
          rw [e, show f - b = n - b by omega]
          exact hv
        rw [a95_198]
        repeat' (first | omega | (refine h313 _ b f 1 v _ hb (WD_5 hT) ?_) | simp only [w_aload, x_g703_55, x_g703_58, x_p702_55, x_p702_58, w_fall, Int.reduceToNat, x_g702_55, x_g702_58, x_g701_55, x_g701_58, w_ifc, cI, x_g700_55, x_g700_58, x_iald, w_ialoads, w_ialoadw, w_iconst, w_dupi, w_dupr, w_iadd, w_goto, x_p703_55, x_p703_58, x_p705_55, x_p705_58, x_p704_55, x_p704_58, w_istore, w_isub, w_iload, w_imul, w_return, isA_1, len_1, Int.cast_ofNat_Int, a95_0, a95_46, a95_78, a95_163, a95_275, a95_276, a95_290, a95_298, R32, List.getElem?_cons_zero, List.getElem?_cons_succ, List.set_cons_zero, List.set_cons_succ, List.cons_append, List.nil_append, List.replicate_succ, List.replicate_zero, List.take_succ_cons, List.take_zero, List.drop_succ_cons, List.drop_zero, List.reverse_cons, List.reverse_nil, List.length_cons, List.length_nil, Option.toList, true_and, and_true, eq_self, ↓reduceIte, not_true_eq_false, not_false_eq_true, true_or, or_true, upS_at, Int.reduceEq, Nat.reduceEqDiff, and_self, and_true, true_and, and_false, false_and, if_true, if_false, reduceIte, Int.reduceToNat, t0, t1, t2, t3] | with_reducible refine And.intro ?_ ?_ | with_reducible intro _)
        all_goals (try (first | omega | contradiction | exact fin9))
    exact hL198 _ _ _ (by omega) (by rw [if_pos (by decide)]; rfl) hW0 rfl dgA_0
  have h46 : ∀ (T : Nat → Int → Int) (b k v : Int), b = skp t n a → WD S T 55 n b a k v → (b < n → t b ≠ 32) → At tb d 95 K 46 [vr 55, vu] [] (X T m) := by
    intro T b k v hb hW h32
    have hW9 := hW
    obtain ⟨f0, t0, t1, t2, t3, t4, t5, t6⟩ := hW
    have hT : ∀ j, 0 ≤ j → j < n → T 1 j = t j ∧ 0 ≤ t j ∧ t j < 256 := fun j j0 j1 => by rw [f0 1 (by decide)]; exact hP.2 j j0 j1
    have sb := skp_ge (t := t) (n := n) (a := a)
    have sl := skp_le (t := t) (n := n) (a := a) (by omega)
    have tf := fun (y : b < n) => hT b (by omega) y
    have w3 : WD S (upS (upS T 55 3 b) 55 5 (-1)) 55 n b b k (-1) := WD_5 (WD_3 hW9)
    rw [a95_46]
    repeat' (first | omega | (refine h313 _ b b 3 (-1) _ hb (WD_4 w3) ?_) | (refine h111 _ b 0 0 _ hb ?_ ?_ (WD_4 w3)) | (refine h198 _ b hb ?_ ?_ (WD_4 w3)) | (refine h313 _ b (b + 1) 2 (-1) _ hb (WD_3 (WD_4 w3)) ?_) | simp only [w_aload, x_g703_55, x_g703_58, x_p702_55, x_p702_58, w_fall, Int.reduceToNat, x_g702_55, x_g702_58, x_g701_55, x_g701_58, w_ifc, cI, x_g700_55, x_g700_58, x_iald, w_ialoads, w_ialoadw, w_iconst, w_dupi, w_dupr, w_iadd, w_goto, x_p703_55, x_p703_58, x_p705_55, x_p705_58, x_p704_55, x_p704_58, w_istore, w_isub, w_iload, w_imul, w_return, isA_1, len_1, Int.cast_ofNat_Int, a95_0, a95_46, a95_78, a95_163, a95_275, a95_276, a95_290, a95_298, R32, List.getElem?_cons_zero, List.getElem?_cons_succ, List.set_cons_zero, List.set_cons_succ, List.cons_append, List.nil_append, List.replicate_succ, List.replicate_zero, List.take_succ_cons, List.take_zero, List.drop_succ_cons, List.drop_zero, List.reverse_cons, List.reverse_nil, List.length_cons, List.length_nil, Option.toList, true_and, and_true, eq_self, ↓reduceIte, not_true_eq_false, not_false_eq_true, true_or, or_true, upS_at, Int.reduceEq, Nat.reduceEqDiff, and_self, and_true, true_and, and_false, false_and, if_true, if_false, reduceIte, Int.reduceToNat, t0, t1, t2, t3] | with_reducible refine And.intro ?_ ?_ | with_reducible intro _)
    all_goals (try (first | omega | (exfalso; assumption) | (exact Or.inl ⟨by omega, rfl, rfl, rfl⟩) | (have g := tf (by omega); first | omega | exact ⟨by omega, by omega⟩ | (exact Or.inr (Or.inr (Or.inr ⟨by omega, fun y => by have := y.1; have := y.2; omega, fun y => by have := y.1; have := y.2; omega, h32 (by omega), rfl, rfl, rfl⟩))))))
  have hL8 : (fun i : Int => ∀ (b : Int) (T : Nat → Int → Int), b = a + i → (WD S T 55 n b a (S 55 4) (S 55 5)) → (skp t n b = skp t n a) → At tb d 95 K 8 [vr 55, vu] [] (X T m)) 0 := by
    refine loopZ (fun i : Int => ∀ (b : Int) (T : Nat → Int → Int), b = a + i → (WD S T 55 n b a (S 55 4) (S 55 5)) → (skp t n b = skp t n a) → At tb d 95 K 8 [vr 55, vu] [] (X T m)) (n - a) (by omega) ?_ ?_
    · intro i h0 h1 h9 b T hb hT he
      have hW := hT
      obtain ⟨f0, t0, t1, t2, t3, t4, t5, t6⟩ := hW
      have hTt : ∀ j, 0 ≤ j → j < n → T 1 j = t j ∧ 0 ≤ t j ∧ t j < 256 := fun j j0 j1 => by rw [f0 1 (by decide)]; exact hP.2 j j0 j1
      have tf := fun (y : b < n) => hTt b (by omega) y
      have sy := fun (y : b < n) (c : t b = 32) => skp_y9 y c
      rw [a95_8]
      repeat' (first | omega | with_reducible refine h9 (b + 1) _ ?_ ?_ ?_ | (refine h46 _ b _ _ ?_ hT ?_) | simp only [w_aload, x_g703_55, x_g703_58, x_p702_55, x_p702_58, w_fall, Int.reduceToNat, x_g702_55, x_g702_58, x_g701_55, x_g701_58, w_ifc, cI, x_g700_55, x_g700_58, x_iald, w_ialoads, w_ialoadw, w_iconst, w_dupi, w_dupr, w_iadd, w_goto, x_p703_55, x_p703_58, x_p705_55, x_p705_58, x_p704_55, x_p704_58, w_istore, w_isub, w_iload, w_imul, w_return, isA_1, len_1, Int.cast_ofNat_Int, a95_0, a95_78, a95_163, a95_275, a95_276, a95_290, a95_298, a95_313, R32, List.getElem?_cons_zero, List.getElem?_cons_succ, List.set_cons_zero, List.set_cons_succ, List.cons_append, List.nil_append, List.replicate_succ, List.replicate_zero, List.take_succ_cons, List.take_zero, List.drop_succ_cons, List.drop_zero, List.reverse_cons, List.reverse_nil, List.length_cons, List.length_nil, Option.toList, true_and, and_true, eq_self, ↓reduceIte, not_true_eq_false, not_false_eq_true, true_or, or_true, upS_at, Int.reduceEq, Nat.reduceEqDiff, and_self, and_true, true_and, and_false, false_and, if_true, if_false, reduceIte, Int.reduceToNat, t0, t1, t2, t3] | with_reducible refine And.intro ?_ ?_ | with_reducible intro _)
      all_goals (try (first | omega | contradiction | exact WD_2 hT | (have g := tf (by omega); have e := sy (by omega) (by omega); omega) | (rw [← he]; exact (skp_n9 (fun y => by have g := tf (by omega); have g1 := y.2; omega)).symm) | (intro y; have g := tf y; omega)))
    · intro b T hb hT he
      have hW := hT
      obtain ⟨f0, t0, t1, t2, t3, t4, t5, t6⟩ := hW

      rw [a95_8]
      repeat' (first | omega | (refine h46 _ b _ _ ?_ hT ?_) | simp only [w_aload, x_g703_55, x_g703_58, x_p702_55, x_p702_58, w_fall, Int.reduceToNat, x_g702_55, x_g702_58, x_g701_55, x_g701_58, w_ifc, cI, x_g700_55, x_g700_58, x_iald, w_ialoads, w_ialoadw, w_iconst, w_dupi, w_dupr, w_iadd, w_goto, x_p703_55, x_p703_58, x_p705_55, x_p705_58, x_p704_55, x_p704_58, w_istore, w_isub, w_iload, w_imul, w_return, isA_1, len_1, Int.cast_ofNat_Int, a95_0, a95_78, a95_163, a95_275, a95_276, a95_290, a95_298, a95_313, R32, List.getElem?_cons_zero, List.getElem?_cons_succ, List.set_cons_zero, List.set_cons_succ, List.cons_append, List.nil_append, List.replicate_succ, List.replicate_zero, List.take_succ_cons, List.take_zero, List.drop_succ_cons, List.drop_zero, List.reverse_cons, List.reverse_nil, List.length_cons, List.length_nil, Option.toList, true_and, and_true, eq_self, ↓reduceIte, not_true_eq_false, not_false_eq_true, true_or, or_true, upS_at, Int.reduceEq, Nat.reduceEqDiff, and_self, and_true, true_and, and_false, false_and, if_true, if_false, reduceIte, Int.reduceToNat, t0, t1, t2, t3] | with_reducible refine And.intro ?_ ?_ | with_reducible intro _)
      all_goals (try (first | omega | contradiction | (rw [← he]; exact (skp_n9 (fun y => by have g1 := y.1; omega)).symm) | (intro y; omega)))
  refine Runs.of (al := [vr 55]) (n := 1) ⟨55, _, _, rfl, xo_55⟩ rfl rfl trivial ?_
  repeat' (first | omega | (refine hL8 a _ ?_ ?_ ?_) | simp only [w_aload, x_g703_55, x_g703_58, x_p702_55, x_p702_58, w_fall, Int.reduceToNat, x_g702_55, x_g702_58, x_g701_55, x_g701_58, w_ifc, cI, x_g700_55, x_g700_58, x_iald, w_ialoads, w_ialoadw, w_iconst, w_dupi, w_dupr, w_iadd, w_goto, x_p703_55, x_p703_58, x_p705_55, x_p705_58, x_p704_55, x_p704_58, w_istore, w_isub, w_iload, w_imul, w_return, isA_1, len_1, Int.cast_ofNat_Int, a95_0, a95_78, a95_163, a95_275, a95_276, a95_290, a95_298, a95_313, R32, List.getElem?_cons_zero, List.getElem?_cons_succ, List.set_cons_zero, List.set_cons_succ, List.cons_append, List.nil_append, List.replicate_succ, List.replicate_zero, List.take_succ_cons, List.take_zero, List.drop_succ_cons, List.drop_zero, List.reverse_cons, List.reverse_nil, List.length_cons, List.length_nil, Option.toList, true_and, and_true, eq_self, ↓reduceIte, not_true_eq_false, not_false_eq_true, true_or, or_true, upS_at, Int.reduceEq, Nat.reduceEqDiff, and_self, and_true, true_and, and_false, false_and, if_true, if_false, reduceIte, Int.reduceToNat] | with_reducible refine And.intro ?_ ?_ | with_reducible intro _)
  all_goals (try (first | omega | (exfalso; assumption) | rfl | (rw [h3]; refine WD_2 ⟨FxE_r, h0, h1, rfl, h3, rfl, rfl, rfl⟩)))
theorem w_95_55w {n b w f : Int} {Z : Nat → Int → Int} {t : Int → Int} (hP : TPE S t n) (hW : TKw Z S 55 t n b w) (hf : S 55 3 = f) (hK : ∀ T, TKw Z T 55 t n (skp t n f) w → K (.inl none) (X T m)) : Runs tb pg (d + 1) 95 [vr 55] (X S m) K := by
  have hf2 := tk_f hW.2.2.2.2.2.2 hW.1
  have hb0 := hW.1.1
  exact w_95_55 hP hW.2.2.1 hW.2.2.2.1 hf (by omega) (fun T f k v h => hK T (TKw_of hW.2.1 hW.2.2.2.2.2.1 h))
theorem k96_0 : pg.1 96 0 = [.aload 0, .getfield 704, .bipush 3, .if_icmp .ne 12, .bipush 1, .goto 13] := rfl
theorem a96_0 {tb : Tab} {d : Nat} {K : Out → AM → Prop} {ls st : List AV} {m : AM} : At tb d 96 K 0 ls st m = wpB tb (pg.2.1 96) (Runs tb pg d) K (At tb d 96 K) [.aload 0, .getfield 704, .bipush 3, .if_icmp .ne 12, .bipush 1, .goto 13] ls st m := At.eq k96_0
theorem k96_12 : pg.1 96 12 = [.bipush 0, .jsr 13] := rfl
theorem a96_12 {tb : Tab} {d : Nat} {K : Out → AM → Prop} {ls st : List AV} {m : AM} : At tb d 96 K 12 ls st m = wpB tb (pg.2.1 96) (Runs tb pg d) K (At tb d 96 K) [.bipush 0, .jsr 13] ls st m := At.eq k96_12
theorem k96_13 : pg.1 96 13 = [.freturn] := rfl
theorem a96_13 {tb : Tab} {d : Nat} {K : Out → AM → Prop} {ls st : List AV} {m : AM} : At tb d 96 K 13 ls st m = wpB tb (pg.2.1 96) (Runs tb pg d) K (At tb d 96 K) [.freturn] ls st m := At.eq k96_13
theorem w_96_55 {n b w : Int} {Z : Nat → Int → Int} {t : Int → Int} (hP : TPE S t n) (hW : TKw Z S 55 t n b w)  (hK : ∀ v, yn v (b = n) → K (.inl (some (vi v))) (X S m)) : Runs tb pg (d + 1) 96 [vr 55] (X S m) K := by
  obtain ⟨hb, hZ, t0, t1, t2, t6, hc⟩ := hW
  have hn := hP.1
  have hf := tk_f hc hb
  have hv := tk_v hc
  refine Runs.of (al := [vr 55]) (n := 0) ⟨55, _, _, rfl, xo_55⟩ rfl rfl trivial ?_
  have ov := ovr_k hc hb.2
  repeat' (first | omega | with_reducible refine hK _ ?_ | simp only [w_aload, x_g704_55, x_g704_58, w_iconst, w_ifc, cI, Int.reduceToNat, w_goto, w_fall, w_zreturn, a96_0, a96_12, a96_13, R32, List.getElem?_cons_zero, List.getElem?_cons_succ, List.set_cons_zero, List.set_cons_succ, List.cons_append, List.nil_append, List.replicate_succ, List.replicate_zero, List.take_succ_cons, List.take_zero, List.drop_succ_cons, List.drop_zero, List.reverse_cons, List.reverse_nil, List.length_cons, List.length_nil, Option.toList, true_and, and_true, eq_self, ↓reduceIte, not_true_eq_false, not_false_eq_true, true_or, or_true, upS_at, Int.reduceEq, Nat.reduceEqDiff, and_self, and_true, true_and, and_false, false_and, if_true, if_false, reduceIte, Int.reduceToNat, t0, t1, t2] | with_reducible refine And.intro ?_ ?_ | with_reducible intro _)
  all_goals (try (first | omega | (exfalso; assumption) | (exact Or.inl ⟨rfl, ov.mpr (by omega)⟩) | (exact Or.inr ⟨rfl, fun y => by have := ov.mp y; omega⟩)))
theorem k97_0 : pg.1 97 0 = [.aload 0, .getfield 704, .ifCond .ne 23, .aload 0, .getfield 703, .aload 0, .getfield 702, .isub, .aload 1, .invokeinterface 386 1, .if_icmp .eq 25, .jsr 23] := rfl
theorem a97_0 {tb : Tab} {d : Nat} {K : Out → AM → Prop} {ls st : List AV} {m : AM} : At tb d 97 K 0 ls st m = wpB tb (pg.2.1 97) (Runs tb pg d) K (At tb d 97 K) [.aload 0, .getfield 704, .ifCond .ne 23, .aload 0, .getfield 703, .aload 0, .getfield 702, .isub, .aload 1, .invokeinterface 386 1, .if_icmp .eq 25, .jsr 23] ls st m := At.eq k97_0
theorem k97_23 : pg.1 97 23 = [.bipush 0, .freturn] := rfl
theorem a97_23 {tb : Tab} {d : Nat} {K : Out → AM → Prop} {ls st : List AV} {m : AM} : At tb d 97 K 23 ls st m = wpB tb (pg.2.1 97) (Runs tb pg d) K (At tb d 97 K) [.bipush 0, .freturn] ls st m := At.eq k97_23
theorem k97_25 : pg.1 97 25 = [.bipush 0, .istore 2, .jsr 27] := rfl
theorem a97_25 {tb : Tab} {d : Nat} {K : Out → AM → Prop} {ls st : List AV} {m : AM} : At tb d 97 K 25 ls st m = wpB tb (pg.2.1 97) (Runs tb pg d) K (At tb d 97 K) [.bipush 0, .istore 2, .jsr 27] ls st m := At.eq k97_25
theorem k97_27 : pg.1 97 27 = [.iload 2, .aload 1, .invokeinterface 386 1, .if_icmp .ge 62, .aload 0, .getfield 700, .aload 0, .getfield 702, .iload 2, .iadd, .iaload, .aload 1, .iload 2, .invokeinterface 387 2, .if_icmp .eq 56, .bipush 0, .freturn] := rfl
theorem a97_27 {tb : Tab} {d : Nat} {K : Out → AM → Prop} {ls st : List AV} {m : AM} : At tb d 97 K 27 ls st m = wpB tb (pg.2.1 97) (Runs tb pg d) K (At tb d 97 K) [.iload 2, .aload 1, .invokeinterface 386 1, .if_icmp .ge 62, .aload 0, .getfield 700, .aload 0, .getfield 702, .iload 2, .iadd, .iaload, .aload 1, .iload 2, .invokeinterface 387 2, .if_icmp .eq 56, .bipush 0, .freturn] ls st m := At.eq k97_27
theorem k97_56 : pg.1 97 56 = [.iinc 2 1, .goto 27] := rfl
theorem a97_56 {tb : Tab} {d : Nat} {K : Out → AM → Prop} {ls st : List AV} {m : AM} : At tb d 97 K 56 ls st m = wpB tb (pg.2.1 97) (Runs tb pg d) K (At tb d 97 K) [.iinc 2 1, .goto 27] ls st m := At.eq k97_56
theorem k97_62 : pg.1 97 62 = [.bipush 1, .freturn] := rfl
theorem a97_62 {tb : Tab} {d : Nat} {K : Out → AM → Prop} {ls st : List AV} {m : AM} : At tb d 97 K 62 ls st m = wpB tb (pg.2.1 97) (Runs tb pg d) K (At tb d 97 K) [.bipush 1, .freturn] ls st m := At.eq k97_62
theorem w_97_55 {n b w : Int} {Z : Nat → Int → Int} {t : Int → Int} (hP : TPE S t n) (hW : TKw Z S 55 t n b w) {i : Nat} (hX : tb.2.1 = strB) (hi : i < 39) (hl : 0 < (strB i).length) (hK : ∀ v, yn v (wdP t n b (strB i)) → K (.inl (some (vi v))) (X S m)) : Runs tb pg (d + 5) 97 [vr 55, vx (2 * i + 2)] (X S m) K := by
  obtain ⟨hb, hZ, t0, t1, t2, t6, hc⟩ := hW
  have hn := hP.1
  have hf := tk_f hc hb
  have hv := tk_v hc
  have wk := wrd_k hc
  have sl9 := strB_u hi
  have hT : ∀ j, 0 ≤ j → j < n → S 1 j = t j ∧ 0 ≤ t j ∧ t j < 256 := hP.2
  have hL : S 55 4 = 0 → ltE t n b - b = (strB i).length → At tb (d + 4) 97 K 27 [vr 55, vx (2 * i + 2), vi 0] [] (X S m) := by
    intro h4 hlen
    have h3 := wk.1 h4
    have hL27 : (fun i9 : Int => (noB (fun j => ¬ t (b + j) = (strB i).getD j.toNat 0) i9) → At tb (d + 4) 97 K 27 [vr 55, vx (2 * i + 2), vi i9] [] (X S m)) 0 := by
      refine loopZ (fun i9 : Int => (noB (fun j => ¬ t (b + j) = (strB i).getD j.toNat 0) i9) → At tb (d + 4) 97 K 27 [vr 55, vx (2 * i + 2), vi i9] [] (X S m)) (((strB i).length : Int)) (by omega) ?_ ?_
      · intro i9 h0 h1 h9  hm
        have g := hT (b + i9) (by omega) (by omega)
        rw [a97_27]
        repeat' (first | omega | with_reducible refine h9  ?_ | with_reducible refine hK _ ?_ | simp only [w_aload, x_g704_55, x_g704_58, w_if, cI, Int.reduceToNat, x_g703_55, x_g703_58, x_g702_55, x_g702_58, w_isub, w_call, w_ifc, w_fall, w_iconst, w_zreturn, w_istore, w_iload, x_g700_55, x_g700_58, w_iadd, x_iald, w_ialoads, w_ialoadw, w_iinc, lgB, Nat.reduceSub, w_goto, isA_1, len_1, Int.cast_ofNat_Int, a97_0, a97_23, a97_25, a97_56, a97_62, R32, List.getElem?_cons_zero, List.getElem?_cons_succ, List.set_cons_zero, List.set_cons_succ, List.cons_append, List.nil_append, List.replicate_succ, List.replicate_zero, List.take_succ_cons, List.take_zero, List.drop_succ_cons, List.drop_zero, List.reverse_cons, List.reverse_nil, List.length_cons, List.length_nil, Option.toList, true_and, and_true, eq_self, ↓reduceIte, not_true_eq_false, not_false_eq_true, true_or, or_true, upS_at, Int.reduceEq, Nat.reduceEqDiff, and_self, and_true, true_and, and_false, false_and, if_true, if_false, reduceIte, Int.reduceToNat, t0, t1, t2] | with_reducible refine r_386k hX hi (fun v1 x1 => ?_) | with_reducible refine r_387k hX hi ?_ ?_ (fun v2 x2 y2 u2 => ?_) | with_reducible refine And.intro ?_ ?_ | with_reducible intro _)
        all_goals (try (first | omega | contradiction | (exact Or.inr ⟨rfl, fun y => by have := y.2 i9 h0 h1; omega⟩) | (exact noB_s hm (fun y => y (by omega)))))
      · intro  hm
        rw [a97_27]
        repeat' (first | omega | with_reducible refine hK _ ?_ | simp only [w_aload, x_g704_55, x_g704_58, w_if, cI, Int.reduceToNat, x_g703_55, x_g703_58, x_g702_55, x_g702_58, w_isub, w_call, w_ifc, w_fall, w_iconst, w_zreturn, w_istore, w_iload, x_g700_55, x_g700_58, w_iadd, x_iald, w_ialoads, w_ialoadw, w_iinc, lgB, Nat.reduceSub, w_goto, isA_1, len_1, Int.cast_ofNat_Int, a97_0, a97_23, a97_25, a97_56, a97_62, R32, List.getElem?_cons_zero, List.getElem?_cons_succ, List.set_cons_zero, List.set_cons_succ, List.cons_append, List.nil_append, List.replicate_succ, List.replicate_zero, List.take_succ_cons, List.take_zero, List.drop_succ_cons, List.drop_zero, List.reverse_cons, List.reverse_nil, List.length_cons, List.length_nil, Option.toList, true_and, and_true, eq_self, ↓reduceIte, not_true_eq_false, not_false_eq_true, true_or, or_true, upS_at, Int.reduceEq, Nat.reduceEqDiff, and_self, and_true, true_and, and_false, false_and, if_true, if_false, reduceIte, Int.reduceToNat, t0, t1, t2] | with_reducible refine r_386k hX hi (fun v1 x1 => ?_) | with_reducible refine r_387k hX hi ?_ ?_ (fun v2 x2 y2 u2 => ?_) | with_reducible refine And.intro ?_ ?_ | with_reducible intro _)
        all_goals (try (first | omega | contradiction | (exact Or.inl ⟨rfl, hlen, fun j j0 j1 => Decidable.byContradiction (hm j j0 j1)⟩)))
    exact hL27 noB_0
  refine Runs.of (al := [vr 55, vx (2 * i + 2)]) (n := 1) ⟨55, _, _, rfl, xo_55⟩ rfl rfl trivial ?_
  repeat' (first | omega | with_reducible refine hL ?_ ?_ | with_reducible refine hK _ ?_ | simp only [w_aload, x_g704_55, x_g704_58, w_if, cI, Int.reduceToNat, x_g703_55, x_g703_58, x_g702_55, x_g702_58, w_isub, w_call, w_ifc, w_fall, w_iconst, w_zreturn, w_istore, w_iload, x_g700_55, x_g700_58, w_iadd, x_iald, w_ialoads, w_ialoadw, w_iinc, lgB, Nat.reduceSub, w_goto, isA_1, len_1, Int.cast_ofNat_Int, a97_0, a97_23, a97_25, a97_56, a97_62, R32, List.getElem?_cons_zero, List.getElem?_cons_succ, List.set_cons_zero, List.set_cons_succ, List.cons_append, List.nil_append, List.replicate_succ, List.replicate_zero, List.take_succ_cons, List.take_zero, List.drop_succ_cons, List.drop_zero, List.reverse_cons, List.reverse_nil, List.length_cons, List.length_nil, Option.toList, true_and, and_true, eq_self, ↓reduceIte, not_true_eq_false, not_false_eq_true, true_or, or_true, upS_at, Int.reduceEq, Nat.reduceEqDiff, and_self, and_true, true_and, and_false, false_and, if_true, if_false, reduceIte, Int.reduceToNat, t0, t1, t2] | with_reducible refine r_386k hX hi (fun v1 x1 => ?_) | with_reducible refine And.intro ?_ ?_ | with_reducible intro _)
  all_goals (try (first | omega | (exfalso; assumption) | (have y3 := wk.1 (by omega); omega) | (exact Or.inr ⟨rfl, fun y => by have e := y.1; by_cases z : S 55 4 = 0; (have y3 := wk.1 z; omega); (have y3 := wk.2 z; omega)⟩)))
theorem k98_0 : pg.1 98 0 = [.aload 0, .getfield 704, .bipush 2, .if_icmp .ne 25, .aload 0, .getfield 700, .aload 0, .getfield 702, .iaload, .iload 1, .if_icmp .ne 25, .bipush 1, .goto 26] := rfl
theorem a98_0 {tb : Tab} {d : Nat} {K : Out → AM → Prop} {ls st : List AV} {m : AM} : At tb d 98 K 0 ls st m = wpB tb (pg.2.1 98) (Runs tb pg d) K (At tb d 98 K) [.aload 0, .getfield 704, .bipush 2, .if_icmp .ne 25, .aload 0, .getfield 700, .aload 0, .getfield 702, .iaload, .iload 1, .if_icmp .ne 25, .bipush 1, .goto 26] ls st m := At.eq k98_0
theorem k98_25 : pg.1 98 25 = [.bipush 0, .jsr 26] := rfl
theorem a98_25 {tb : Tab} {d : Nat} {K : Out → AM → Prop} {ls st : List AV} {m : AM} : At tb d 98 K 25 ls st m = wpB tb (pg.2.1 98) (Runs tb pg d) K (At tb d 98 K) [.bipush 0, .jsr 26] ls st m := At.eq k98_25
theorem k98_26 : pg.1 98 26 = [.freturn] := rfl
theorem a98_26 {tb : Tab} {d : Nat} {K : Out → AM → Prop} {ls st : List AV} {m : AM} : At tb d 98 K 26 ls st m = wpB tb (pg.2.1 98) (Runs tb pg d) K (At tb d 98 K) [.freturn] ls st m := At.eq k98_26
theorem w_98_55 {n b w c : Int} {Z : Nat → Int → Int} {t : Int → Int} (hP : TPE S t n) (hW : TKw Z S 55 t n b w) (hk : ¬ isLt c ∧ ¬ isDg c ∧ c ≠ 32) (hr : 0 ≤ c ∧ c < 256) (hK : ∀ v, yn v (b < n ∧ t b = c) → K (.inl (some (vi v))) (X S m)) : Runs tb pg (d + 1) 98 [vr 55, vi c] (X S m) K := by
  obtain ⟨hb, hZ, t0, t1, t2, t6, hc⟩ := hW
  have hn := hP.1
  have hf := tk_f hc hb
  have hv := tk_v hc
  refine Runs.of (al := [vr 55, vi c]) (n := 0) ⟨55, _, _, rfl, xo_55⟩ rfl rfl trivial ?_
  have sk := sgn_k hc hk
  have hT : b < n → S 1 b = t b ∧ 0 ≤ t b ∧ t b < 256 := fun y => hP.2 b hb.1 y
  have k2 : S 55 4 = 2 → b < n := fun y => by
    rcases hc with z | z | z | z
    · omega
    · obtain ⟨h1, h2, h3, h4, h5⟩ := z; omega
    · obtain ⟨h1, h2, h3, h4, h5⟩ := z; omega
    · obtain ⟨h1, h2, h3, h4, h5, h6, h7⟩ := z; exact h1
  repeat' (first | omega | with_reducible refine hK _ ?_ | simp only [w_aload, x_g704_55, x_g704_58, w_iconst, w_ifc, cI, Int.reduceToNat, x_g700_55, x_g700_58, x_g702_55, x_g702_58, x_iald, w_ialoads, w_ialoadw, w_iload, w_goto, w_fall, w_zreturn, isA_1, len_1, Int.cast_ofNat_Int, a98_0, a98_25, a98_26, R32, List.getElem?_cons_zero, List.getElem?_cons_succ, List.set_cons_zero, List.set_cons_succ, List.cons_append, List.nil_append, List.replicate_succ, List.replicate_zero, List.take_succ_cons, List.take_zero, List.drop_succ_cons, List.drop_zero, List.reverse_cons, List.reverse_nil, List.length_cons, List.length_nil, Option.toList, true_and, and_true, eq_self, ↓reduceIte, not_true_eq_false, not_false_eq_true, true_or, or_true, upS_at, Int.reduceEq, Nat.reduceEqDiff, and_self, and_true, true_and, and_false, false_and, if_true, if_false, reduceIte, Int.reduceToNat, t0, t1, t2] | (have yk := k2 (by omega); have g := hT yk; clear k2 hT) | with_reducible refine And.intro ?_ ?_ | with_reducible intro _)
  all_goals (try (first | omega | (exfalso; assumption) | (exact Or.inl ⟨rfl, sk.mpr ⟨by omega, by omega⟩⟩) | (exact Or.inr ⟨rfl, fun y => by have := sk.mp y; omega⟩)))
theorem k99_0 : pg.1 99 0 = [.aload 0, .getfield 704, .bipush 1, .if_icmp .ne 36, .aload 0, .getfield 705, .bipush (-1), .if_icmp .eq 36, .aload 0, .getfield 705, .iload 1, .if_icmp .lt 36, .aload 0, .getfield 705, .iload 2, .if_icmp .gt 36, .bipush 1, .goto 37] := rfl
theorem a99_0 {tb : Tab} {d : Nat} {K : Out → AM → Prop} {ls st : List AV} {m : AM} : At tb d 99 K 0 ls st m = wpB tb (pg.2.1 99) (Runs tb pg d) K (At tb d 99 K) [.aload 0, .getfield 704, .bipush 1, .if_icmp .ne 36, .aload 0, .getfield 705, .bipush (-1), .if_icmp .eq 36, .aload 0, .getfield 705, .iload 1, .if_icmp .lt 36, .aload 0, .getfield 705, .iload 2, .if_icmp .gt 36, .bipush 1, .goto 37] ls st m := At.eq k99_0
theorem k99_36 : pg.1 99 36 = [.bipush 0, .jsr 37] := rfl
theorem a99_36 {tb : Tab} {d : Nat} {K : Out → AM → Prop} {ls st : List AV} {m : AM} : At tb d 99 K 36 ls st m = wpB tb (pg.2.1 99) (Runs tb pg d) K (At tb d 99 K) [.bipush 0, .jsr 37] ls st m := At.eq k99_36
theorem k99_37 : pg.1 99 37 = [.freturn] := rfl
theorem a99_37 {tb : Tab} {d : Nat} {K : Out → AM → Prop} {ls st : List AV} {m : AM} : At tb d 99 K 37 ls st m = wpB tb (pg.2.1 99) (Runs tb pg d) K (At tb d 99 K) [.freturn] ls st m := At.eq k99_37
theorem w_99_55 {n b w lo hi : Int} {Z : Nat → Int → Int} {t : Int → Int} (hP : TPE S t n) (hW : TKw Z S 55 t n b w) (hlo : 0 ≤ lo ∧ lo ≤ 1000) (hhi : -1 ≤ hi ∧ hi ≤ 1000) (hK : ∀ v, yn v (okF t n lo hi b) → K (.inl (some (vi v))) (X S m)) : Runs tb pg (d + 1) 99 [vr 55, vi lo, vi hi] (X S m) K := by
  obtain ⟨hb, hZ, t0, t1, t2, t6, hc⟩ := hW
  have hn := hP.1
  have hf := tk_f hc hb
  have hv := tk_v hc
  refine Runs.of (al := [vr 55, vi lo, vi hi]) (n := 0) ⟨55, _, _, rfl, xo_55⟩ rfl rfl trivial ?_
  have ni := num_is (lo := lo) (hi := hi) hc hlo.1
  repeat' (first | omega | with_reducible refine hK _ ?_ | simp only [w_aload, x_g704_55, x_g704_58, w_iconst, w_ifc, cI, Int.reduceToNat, x_g705_55, x_g705_58, w_iload, w_goto, w_fall, w_zreturn, a99_0, a99_36, a99_37, R32, List.getElem?_cons_zero, List.getElem?_cons_succ, List.set_cons_zero, List.set_cons_succ, List.cons_append, List.nil_append, List.replicate_succ, List.replicate_zero, List.take_succ_cons, List.take_zero, List.drop_succ_cons, List.drop_zero, List.reverse_cons, List.reverse_nil, List.length_cons, List.length_nil, Option.toList, true_and, and_true, eq_self, ↓reduceIte, not_true_eq_false, not_false_eq_true, true_or, or_true, upS_at, Int.reduceEq, Nat.reduceEqDiff, and_self, and_true, true_and, and_false, false_and, if_true, if_false, reduceIte, Int.reduceToNat, t0, t1, t2] | with_reducible refine And.intro ?_ ?_ | with_reducible intro _)
  all_goals (try (first | omega | (exfalso; assumption) | (exact Or.inl ⟨rfl, ni.mpr ⟨by omega, by omega, by omega, by omega⟩⟩) | (exact Or.inr ⟨rfl, fun y => by have := ni.mp y; omega⟩)))
theorem k104_0 : pg.1 104 0 = [.aload 0, .aload 0, .getfield 702, .putfield 706, .bipush 0, .freturn] := rfl
theorem a104_0 {tb : Tab} {d : Nat} {K : Out → AM → Prop} {ls st : List AV} {m : AM} : At tb d 104 K 0 ls st m = wpB tb (pg.2.1 104) (Runs tb pg d) K (At tb d 104 K) [.aload 0, .aload 0, .getfield 702, .putfield 706, .bipush 0, .freturn] ls st m := At.eq k104_0
theorem w_104_55 {n b w : Int} {Z : Nat → Int → Int} {t : Int → Int} (hP : TPE S t n) (hW : TKw Z S 55 t n b w)  (hK : ∀ T, TKw Z T 55 t n b b → K (.inl (some (vi 0))) (X T m)) : Runs tb pg (d + 1) 104 [vr 55] (X S m) K := by
  obtain ⟨hb, hZ, t0, t1, t2, t6, hc⟩ := hW
  have hn := hP.1
  have hf := tk_f hc hb
  have hv := tk_v hc
  refine Runs.of (al := [vr 55]) (n := 0) ⟨55, _, _, rfl, xo_55⟩ rfl rfl trivial ?_
  have h2 := hK _ (TKw_w (x := b) ⟨hb, hZ, t0, t1, t2, t6, hc⟩)
  repeat' (first | omega | (exact h2) | simp only [w_aload, x_g702_55, x_g702_58, x_p706_55, x_p706_58, w_iconst, w_zreturn, a104_0, R32, List.getElem?_cons_zero, List.getElem?_cons_succ, List.set_cons_zero, List.set_cons_succ, List.cons_append, List.nil_append, List.replicate_succ, List.replicate_zero, List.take_succ_cons, List.take_zero, List.drop_succ_cons, List.drop_zero, List.reverse_cons, List.reverse_nil, List.length_cons, List.length_nil, Option.toList, true_and, and_true, eq_self, ↓reduceIte, not_true_eq_false, not_false_eq_true, true_or, or_true, upS_at, Int.reduceEq, Nat.reduceEqDiff, and_self, and_true, true_and, and_false, false_and, if_true, if_false, reduceIte, Int.reduceToNat, t0, t1, t2] | with_reducible refine And.intro ?_ ?_ | with_reducible intro _)
  all_goals (try (first | omega | (exfalso; assumption) | skip))
theorem k100_0 : pg.1 100 0 = [.aload 0, .getfield 704, .ifCond .ne 21, .aload 0, .getfield 703, .aload 0, .getfield 702, .isub, .bipush 6, .if_icmp .le 23, .jsr 21] := rfl
theorem a100_0 {tb : Tab} {d : Nat} {K : Out → AM → Prop} {ls st : List AV} {m : AM} : At tb d 100 K 0 ls st m = wpB tb (pg.2.1 100) (Runs tb pg d) K (At tb d 100 K) [.aload 0, .getfield 704, .ifCond .ne 21, .aload 0, .getfield 703, .aload 0, .getfield 702, .isub, .bipush 6, .if_icmp .le 23, .jsr 21] ls st m := At.eq k100_0
theorem k100_21 : pg.1 100 21 = [.bipush (-1), .ireturn] := rfl
theorem a100_21 {tb : Tab} {d : Nat} {K : Out → AM → Prop} {ls st : List AV} {m : AM} : At tb d 100 K 21 ls st m = wpB tb (pg.2.1 100) (Runs tb pg d) K (At tb d 100 K) [.bipush (-1), .ireturn] ls st m := At.eq k100_21
theorem k100_23 : pg.1 100 23 = [.aload 0, .getfield 702, .istore 1, .jsr 28] := rfl
theorem a100_23 {tb : Tab} {d : Nat} {K : Out → AM → Prop} {ls st : List AV} {m : AM} : At tb d 100 K 23 ls st m = wpB tb (pg.2.1 100) (Runs tb pg d) K (At tb d 100 K) [.aload 0, .getfield 702, .istore 1, .jsr 28] ls st m := At.eq k100_23
theorem k100_28 : pg.1 100 28 = [.iload 1, .aload 0, .getfield 703, .if_icmp .ge 55, .aload 0, .getfield 700, .iload 1, .iaload, .bipush 105, .if_icmp .lt 49, .bipush (-1), .ireturn] := rfl
theorem a100_28 {tb : Tab} {d : Nat} {K : Out → AM → Prop} {ls st : List AV} {m : AM} : At tb d 100 K 28 ls st m = wpB tb (pg.2.1 100) (Runs tb pg d) K (At tb d 100 K) [.iload 1, .aload 0, .getfield 703, .if_icmp .ge 55, .aload 0, .getfield 700, .iload 1, .iaload, .bipush 105, .if_icmp .lt 49, .bipush (-1), .ireturn] ls st m := At.eq k100_28
theorem k100_49 : pg.1 100 49 = [.iinc 1 1, .goto 28] := rfl
theorem a100_49 {tb : Tab} {d : Nat} {K : Out → AM → Prop} {ls st : List AV} {m : AM} : At tb d 100 K 49 ls st m = wpB tb (pg.2.1 100) (Runs tb pg d) K (At tb d 100 K) [.iinc 1 1, .goto 28] ls st m := At.eq k100_49
theorem k100_55 : pg.1 100 55 = [.aload 0, .getfield 703, .aload 0, .getfield 702, .isub, .ireturn] := rfl
theorem a100_55 {tb : Tab} {d : Nat} {K : Out → AM → Prop} {ls st : List AV} {m : AM} : At tb d 100 K 55 ls st m = wpB tb (pg.2.1 100) (Runs tb pg d) K (At tb d 100 K) [.aload 0, .getfield 703, .aload 0, .getfield 702, .isub, .ireturn] ls st m := At.eq k100_55
theorem w_100_55 {n b w : Int} {Z : Nat → Int → Int} {t : Int → Int} (hP : TPE S t n) (hW : TKw Z S 55 t n b w)  (hK : ∀ v, (((ltE t n b - b ≤ 6 ∧ b < ltE t n b ∧ ∀ j, b ≤ j → j < ltE t n b → t j < 105) ∧ v = ltE t n b - b) ∨ (¬ (ltE t n b - b ≤ 6 ∧ b < ltE t n b ∧ ∀ j, b ≤ j → j < ltE t n b → t j < 105) ∧ v = -1)) → K (.inl (some (vi v))) (X S m)) : Runs tb pg (d + 1) 100 [vr 55] (X S m) K := by
  obtain ⟨hb, hZ, t0, t1, t2, t6, hc⟩ := hW
  have hn := hP.1
  have hf := tk_f hc hb
  have hv := tk_v hc
  have wk := wrd_k hc
  have lr := ltE_rg (t := t) (n := n) (a := b)
  have k0 : S 55 4 = 0 → b < ltE t n b := fun y => by
    rcases hc with z | z | z | z
    · omega
    · obtain ⟨h1, h2, h3, h4, h5⟩ := z
      have := ltE_y h1 h2
      have := (ltE_rg (t := t) (n := n) (a := b + 1)).1
      omega
    · obtain ⟨h1, h2, h3, h4, h5⟩ := z; omega
    · obtain ⟨h1, h2, h3, h4, h5, h6, h7⟩ := z; omega
  have hL : S 55 4 = 0 → ltE t n b - b ≤ 6 → At tb d 100 K 28 [vr 55, vi b] [] (X S m) := by
    intro h4 hlen
    have h3 := wk.1 h4
    have kb := k0 h4
    have hL28 : (fun i : Int => ∀ (z : Int), z = b + i → (noB (fun j => ¬ t (b + j) < 105) i) → At tb d 100 K 28 [vr 55, vi z] [] (X S m)) 0 := by
      refine loopZ (fun i : Int => ∀ (z : Int), z = b + i → (noB (fun j => ¬ t (b + j) < 105) i) → At tb d 100 K 28 [vr 55, vi z] [] (X S m)) (ltE t n b - b) (by omega) ?_ ?_
      · intro i h0 h1 h9 z hz hm
        have g := hP.2 z (by omega) (by omega)
        have ez : t (b + i) = t z := by rw [hz]
        rw [a100_28]
        repeat' (first | omega | with_reducible refine h9 _ ?_ ?_ | with_reducible refine hK _ ?_ | simp only [w_aload, x_g704_55, x_g704_58, w_if, cI, Int.reduceToNat, x_g703_55, x_g703_58, x_g702_55, x_g702_58, w_isub, w_iconst, w_ifc, w_fall, w_ireturn, w_istore, w_iload, x_g700_55, x_g700_58, x_iald, w_ialoads, w_ialoadw, w_iinc, lgB, Nat.reduceSub, w_goto, isA_1, len_1, Int.cast_ofNat_Int, a100_0, a100_21, a100_23, a100_49, a100_55, R32, List.getElem?_cons_zero, List.getElem?_cons_succ, List.set_cons_zero, List.set_cons_succ, List.cons_append, List.nil_append, List.replicate_succ, List.replicate_zero, List.take_succ_cons, List.take_zero, List.drop_succ_cons, List.drop_zero, List.reverse_cons, List.reverse_nil, List.length_cons, List.length_nil, Option.toList, true_and, and_true, eq_self, ↓reduceIte, not_true_eq_false, not_false_eq_true, true_or, or_true, upS_at, Int.reduceEq, Nat.reduceEqDiff, and_self, and_true, true_and, and_false, false_and, if_true, if_false, reduceIte, Int.reduceToNat, t0, t1, t2] | with_reducible refine And.intro ?_ ?_ | with_reducible intro _)
        all_goals (try (first | omega | contradiction | (exact Or.inr (fun y => by have := y.2.2 z (by omega) (by omega); omega)) | (exact Or.inr ⟨fun y => by have := y.2.2 z (by omega) (by omega); omega, rfl⟩) | (exact noB_s hm (fun y => y (by omega)))))
      · intro z hz hm
        rw [a100_28]
        repeat' (first | omega | with_reducible refine hK _ ?_ | simp only [w_aload, x_g704_55, x_g704_58, w_if, cI, Int.reduceToNat, x_g703_55, x_g703_58, x_g702_55, x_g702_58, w_isub, w_iconst, w_ifc, w_fall, w_ireturn, w_istore, w_iload, x_g700_55, x_g700_58, x_iald, w_ialoads, w_ialoadw, w_iinc, lgB, Nat.reduceSub, w_goto, isA_1, len_1, Int.cast_ofNat_Int, a100_0, a100_21, a100_23, a100_49, a100_55, R32, List.getElem?_cons_zero, List.getElem?_cons_succ, List.set_cons_zero, List.set_cons_succ, List.cons_append, List.nil_append, List.replicate_succ, List.replicate_zero, List.take_succ_cons, List.take_zero, List.drop_succ_cons, List.drop_zero, List.reverse_cons, List.reverse_nil, List.length_cons, List.length_nil, Option.toList, true_and, and_true, eq_self, ↓reduceIte, not_true_eq_false, not_false_eq_true, true_or, or_true, upS_at, Int.reduceEq, Nat.reduceEqDiff, and_self, and_true, true_and, and_false, false_and, if_true, if_false, reduceIte, Int.reduceToNat, t0, t1, t2] | with_reducible refine And.intro ?_ ?_ | with_reducible intro _)
        all_goals (try (first | omega | contradiction | (refine Or.inl ⟨⟨hlen, kb, fun j j0 j1 => ?_⟩, by omega⟩; have q9 := hm (j - b) (by omega) (by omega); have e : b + (j - b) = j := (by omega); dsimp only at q9; rw [e] at q9; omega)))
    exact hL28 _ (by omega) noB_0
  refine Runs.of (al := [vr 55]) (n := 1) ⟨55, _, _, rfl, xo_55⟩ rfl rfl trivial ?_
  repeat' (first | omega | with_reducible refine hL ?_ ?_ | with_reducible refine hK _ ?_ | simp only [w_aload, x_g704_55, x_g704_58, w_if, cI, Int.reduceToNat, x_g703_55, x_g703_58, x_g702_55, x_g702_58, w_isub, w_iconst, w_ifc, w_fall, w_ireturn, w_istore, w_iload, x_g700_55, x_g700_58, x_iald, w_ialoads, w_ialoadw, w_iinc, lgB, Nat.reduceSub, w_goto, isA_1, len_1, Int.cast_ofNat_Int, a100_0, a100_21, a100_23, a100_49, a100_55, R32, List.getElem?_cons_zero, List.getElem?_cons_succ, List.set_cons_zero, List.set_cons_succ, List.cons_append, List.nil_append, List.replicate_succ, List.replicate_zero, List.take_succ_cons, List.take_zero, List.drop_succ_cons, List.drop_zero, List.reverse_cons, List.reverse_nil, List.length_cons, List.length_nil, Option.toList, true_and, and_true, eq_self, ↓reduceIte, not_true_eq_false, not_false_eq_true, true_or, or_true, upS_at, Int.reduceEq, Nat.reduceEqDiff, and_self, and_true, true_and, and_false, false_and, if_true, if_false, reduceIte, Int.reduceToNat, t0, t1, t2] | with_reducible refine And.intro ?_ ?_ | with_reducible intro _)
  all_goals (try (first | omega | (exfalso; assumption) | (have y3 := wk.1 (by omega); omega) | (exact Or.inr ⟨fun y => by by_cases z : S 55 4 = 0; (have y3 := wk.1 z; omega); (have y3 := wk.2 z; omega), rfl⟩) | (exact Or.inr (fun y => by by_cases z : S 55 4 = 0; (have y3 := wk.1 z; omega); (have y3 := wk.2 z; omega)))))
theorem k101_0 : pg.1 101 0 = [.iload 1, .ifCond .lt 17, .iload 1, .aload 0, .getfield 703, .aload 0, .getfield 702, .isub, .if_icmp .lt 21, .jsr 17] := rfl
theorem a101_0 {tb : Tab} {d : Nat} {K : Out → AM → Prop} {ls st : List AV} {m : AM} : At tb d 101 K 0 ls st m = wpB tb (pg.2.1 101) (Runs tb pg d) K (At tb d 101 K) [.iload 1, .ifCond .lt 17, .iload 1, .aload 0, .getfield 703, .aload 0, .getfield 702, .isub, .if_icmp .lt 21, .jsr 17] ls st m := At.eq k101_0
theorem k101_17 : pg.1 101 17 = [.bipush (-1), .goto 35] := rfl
theorem a101_17 {tb : Tab} {d : Nat} {K : Out → AM → Prop} {ls st : List AV} {m : AM} : At tb d 101 K 17 ls st m = wpB tb (pg.2.1 101) (Runs tb pg d) K (At tb d 101 K) [.bipush (-1), .goto 35] ls st m := At.eq k101_17
theorem k101_21 : pg.1 101 21 = [.aload 0, .getfield 700, .aload 0, .getfield 702, .iload 1, .iadd, .iaload, .bipush 97, .isub, .jsr 35] := rfl
theorem a101_21 {tb : Tab} {d : Nat} {K : Out → AM → Prop} {ls st : List AV} {m : AM} : At tb d 101 K 21 ls st m = wpB tb (pg.2.1 101) (Runs tb pg d) K (At tb d 101 K) [.aload 0, .getfield 700, .aload 0, .getfield 702, .iload 1, .iadd, .iaload, .bipush 97, .isub, .jsr 35] ls st m := At.eq k101_21
theorem k101_35 : pg.1 101 35 = [.ireturn] := rfl
theorem a101_35 {tb : Tab} {d : Nat} {K : Out → AM → Prop} {ls st : List AV} {m : AM} : At tb d 101 K 35 ls st m = wpB tb (pg.2.1 101) (Runs tb pg d) K (At tb d 101 K) [.ireturn] ls st m := At.eq k101_35
theorem w_101_55 {n b w k : Int} {Z : Nat → Int → Int} {t : Int → Int} (hP : TPE S t n) (hW : TKw Z S 55 t n b w) (hk0 : 0 ≤ k ∧ k < ltE t n b - b) (hK : K (.inl (some (vi (t (b + k) - 97)))) (X S m)) : Runs tb pg (d + 1) 101 [vr 55, vi k] (X S m) K := by
  obtain ⟨hb, hZ, t0, t1, t2, t6, hc⟩ := hW
  have hn := hP.1
  have hf := tk_f hc hb
  have hv := tk_v hc
  refine Runs.of (al := [vr 55, vi k]) (n := 0) ⟨55, _, _, rfl, xo_55⟩ rfl rfl trivial ?_
  have wk := wrd_k hc
  have lr := ltE_rg (t := t) (n := n) (a := b)
  have h4 : S 55 4 = 0 := Decidable.byContradiction fun y => by have := wk.2 y; omega
  have h3 := wk.1 h4
  have g := hP.2 (b + k) (by omega) (by omega)
  have hK2 : K (.inl (some (vi (S 1 (b + k) - 97)))) (X S m) := by rw [g.1]; exact hK
  repeat' (first | omega | (exact hK2) | simp only [w_iload, w_if, cI, Int.reduceToNat, w_aload, x_g703_55, x_g703_58, x_g702_55, x_g702_58, w_isub, w_ifc, w_fall, w_iconst, w_goto, x_g700_55, x_g700_58, w_iadd, x_iald, w_ialoads, w_ialoadw, w_ireturn, isA_1, len_1, Int.cast_ofNat_Int, a101_0, a101_17, a101_21, a101_35, R32, List.getElem?_cons_zero, List.getElem?_cons_succ, List.set_cons_zero, List.set_cons_succ, List.cons_append, List.nil_append, List.replicate_succ, List.replicate_zero, List.take_succ_cons, List.take_zero, List.drop_succ_cons, List.drop_zero, List.reverse_cons, List.reverse_nil, List.length_cons, List.length_nil, Option.toList, true_and, and_true, eq_self, ↓reduceIte, not_true_eq_false, not_false_eq_true, true_or, or_true, upS_at, Int.reduceEq, Nat.reduceEqDiff, and_self, and_true, true_and, and_false, false_and, if_true, if_false, reduceIte, Int.reduceToNat, t0, t1, t2] | with_reducible refine And.intro ?_ ?_ | with_reducible intro _)
  all_goals (try (first | omega | (exfalso; assumption) | skip))
theorem k102_0 : pg.1 102 0 = [.aload 0, .aload 1, .invokeinterface 97 2, .ifCond .ne 13, .aload 0, .invokeinterface 104 1, .freturn] := rfl
theorem a102_0 {tb : Tab} {d : Nat} {K : Out → AM → Prop} {ls st : List AV} {m : AM} : At tb d 102 K 0 ls st m = wpB tb (pg.2.1 102) (Runs tb pg d) K (At tb d 102 K) [.aload 0, .aload 1, .invokeinterface 97 2, .ifCond .ne 13, .aload 0, .invokeinterface 104 1, .freturn] ls st m := At.eq k102_0
theorem k102_13 : pg.1 102 13 = [.aload 0, .invokeinterface 95 1, .bipush 1, .freturn] := rfl
theorem a102_13 {tb : Tab} {d : Nat} {K : Out → AM → Prop} {ls st : List AV} {m : AM} : At tb d 102 K 13 ls st m = wpB tb (pg.2.1 102) (Runs tb pg d) K (At tb d 102 K) [.aload 0, .invokeinterface 95 1, .bipush 1, .freturn] ls st m := At.eq k102_13
theorem w_102_55 {n b w : Int} {Z : Nat → Int → Int} {t : Int → Int} (hP : TPE S t n) (hW : TKw Z S 55 t n b w) {i : Nat} (hX : tb.2.1 = strB) (hi : i < 39) (hl : 0 < (strB i).length) (hK0 : ¬ wdP t n b (strB i) → ∀ T, TKw Z T 55 t n b b → K (.inl (some (vi 0))) (X T m)) (hK : wdP t n b (strB i) → ∀ T, TKw Z T 55 t n (skp t n (b + ((strB i).length : Int))) w → K (.inl (some (vi 1))) (X T m)) : Runs tb pg (d + 6) 102 [vr 55, vx (2 * i + 2)] (X S m) K := by
  obtain ⟨hb, hZ, t0, t1, t2, t6, hc⟩ := hW
  have hn := hP.1
  have hf := tk_f hc hb
  have hv := tk_v hc
  refine Runs.of (al := [vr 55, vx (2 * i + 2)]) (n := 0) ⟨55, _, _, rfl, xo_55⟩ rfl rfl trivial ?_
  have hW0 : TKw Z S 55 t n b w := ⟨hb, hZ, t0, t1, t2, t6, hc⟩
  repeat' (first | omega | (exact hK y1 _ x2) | (exact hK0 y1 _ x2) | simp only [w_aload, w_call, w_if, cI, Int.reduceToNat, w_zreturn, w_iconst, a102_0, a102_13, R32, List.getElem?_cons_zero, List.getElem?_cons_succ, List.set_cons_zero, List.set_cons_succ, List.cons_append, List.nil_append, List.replicate_succ, List.replicate_zero, List.take_succ_cons, List.take_zero, List.drop_succ_cons, List.drop_zero, List.reverse_cons, List.reverse_nil, List.length_cons, List.length_nil, Option.toList, true_and, and_true, eq_self, ↓reduceIte, not_true_eq_false, not_false_eq_true, true_or, or_true, upS_at, Int.reduceEq, Nat.reduceEqDiff, and_self, and_true, true_and, and_false, false_and, if_true, if_false, reduceIte, Int.reduceToNat, t0, t1, t2] | ((with_reducible refine w_97_55 hP hW0 hX hi hl (fun v1 x1 => ?_)); have gy := yn_b x1) | (have y1 : ¬ wdP t n b (strB i) := (by rcases x1 with ⟨xa, xb⟩ | ⟨xa, xb⟩; exfalso; omega; exact xb); (with_reducible refine w_104_55 hP hW0 (fun T2 x2 => ?_))) | (have y1 : wdP t n b (strB i) := (by rcases x1 with ⟨xa, xb⟩ | ⟨xa, xb⟩; exact xb; exfalso; omega); (with_reducible refine w_95_55w hP hW0 (wd_f hW0 hl y1) (fun T2 x2 => ?_))) | with_reducible refine And.intro ?_ ?_ | with_reducible intro _)
  all_goals (try (first | omega | (exfalso; assumption) | skip))
theorem k103_0 : pg.1 103 0 = [.aload 0, .iload 1, .invokeinterface 98 2, .ifCond .ne 13, .aload 0, .invokeinterface 104 1, .freturn] := rfl
theorem a103_0 {tb : Tab} {d : Nat} {K : Out → AM → Prop} {ls st : List AV} {m : AM} : At tb d 103 K 0 ls st m = wpB tb (pg.2.1 103) (Runs tb pg d) K (At tb d 103 K) [.aload 0, .iload 1, .invokeinterface 98 2, .ifCond .ne 13, .aload 0, .invokeinterface 104 1, .freturn] ls st m := At.eq k103_0
theorem k103_13 : pg.1 103 13 = [.aload 0, .invokeinterface 95 1, .bipush 1, .freturn] := rfl
theorem a103_13 {tb : Tab} {d : Nat} {K : Out → AM → Prop} {ls st : List AV} {m : AM} : At tb d 103 K 13 ls st m = wpB tb (pg.2.1 103) (Runs tb pg d) K (At tb d 103 K) [.aload 0, .invokeinterface 95 1, .bipush 1, .freturn] ls st m := At.eq k103_13
theorem w_103_55 {n b w c : Int} {Z : Nat → Int → Int} {t : Int → Int} (hP : TPE S t n) (hW : TKw Z S 55 t n b w) (hk : ¬ isLt c ∧ ¬ isDg c ∧ c ≠ 32) (hr : 0 ≤ c ∧ c < 256) (hK0 : ¬ (b < n ∧ t b = c) → ∀ T, TKw Z T 55 t n b b → K (.inl (some (vi 0))) (X T m)) (hK : (b < n ∧ t b = c) → ∀ T, TKw Z T 55 t n (skp t n (b + 1)) w → K (.inl (some (vi 1))) (X T m)) : Runs tb pg (d + 2) 103 [vr 55, vi c] (X S m) K := by
  obtain ⟨hb, hZ, t0, t1, t2, t6, hc⟩ := hW
  have hn := hP.1
  have hf := tk_f hc hb
  have hv := tk_v hc
  refine Runs.of (al := [vr 55, vi c]) (n := 0) ⟨55, _, _, rfl, xo_55⟩ rfl rfl trivial ?_
  have hW0 : TKw Z S 55 t n b w := ⟨hb, hZ, t0, t1, t2, t6, hc⟩
  repeat' (first | omega | (exact hK y1 _ x2) | (exact hK0 y1 _ x2) | simp only [w_aload, w_iload, w_call, w_if, cI, Int.reduceToNat, w_zreturn, w_iconst, a103_0, a103_13, R32, List.getElem?_cons_zero, List.getElem?_cons_succ, List.set_cons_zero, List.set_cons_succ, List.cons_append, List.nil_append, List.replicate_succ, List.replicate_zero, List.take_succ_cons, List.take_zero, List.drop_succ_cons, List.drop_zero, List.reverse_cons, List.reverse_nil, List.length_cons, List.length_nil, Option.toList, true_and, and_true, eq_self, ↓reduceIte, not_true_eq_false, not_false_eq_true, true_or, or_true, upS_at, Int.reduceEq, Nat.reduceEqDiff, and_self, and_true, true_and, and_false, false_and, if_true, if_false, reduceIte, Int.reduceToNat, t0, t1, t2] | ((with_reducible refine w_98_55 hP hW0 hk hr (fun v1 x1 => ?_)); have gy := yn_b x1) | (have y1 : ¬ (b < n ∧ t b = c) := (by rcases x1 with ⟨xa, xb⟩ | ⟨xa, xb⟩; exfalso; omega; exact xb); (with_reducible refine w_104_55 hP hW0 (fun T2 x2 => ?_))) | (have y1 : (b < n ∧ t b = c) := (by rcases x1 with ⟨xa, xb⟩ | ⟨xa, xb⟩; exact xb; exfalso; omega); (with_reducible refine w_95_55w hP hW0 (sg_f hW0 hk y1) (fun T2 x2 => ?_))) | with_reducible refine And.intro ?_ ?_ | with_reducible intro _)
  all_goals (try (first | omega | (exfalso; assumption) | skip))
theorem op_55 {n : Int} {t : Int → Int} (hP : TPE S t n) (hK : ∀ T, TKw S T 55 t n (skp t n 0) (-1) → K (.inl none) (X T m)) : Runs tb pg (d + 1) 95 [vr 55] (X (upS (upS (upS (upS S 55 0 1) 55 1 n) 55 3 0) 55 6 (-1)) m) K := by
  have f : FxE 55 S (upS (upS (upS (upS S 55 0 1) 55 1 n) 55 3 0) 55 6 (-1)) := FxE_u (FxE_u (FxE_u (FxE_u FxE_r)))
  refine w_95_55 (TPE_f hP (f 1 (by decide))) ?_ ?_ ?_ ⟨Int.le_refl _, hP.1.1⟩ (fun T f2 k v h => hK T (TKw_of f ?_ h))
  · simp only [upS_at, Int.reduceEq, and_false, if_false, and_self, if_true]
  · simp only [upS_at, Int.reduceEq, and_false, if_false, and_self, if_true]
  · simp only [upS_at, Int.reduceEq, and_false, if_false, and_self, if_true]
  · simp only [upS_at, Int.reduceEq, and_false, if_false, and_self, if_true]
theorem k94_0 : pg.1 94 0 = [.aload 0, .aload 1, .putstatic 700, .aload 0, .iload 2, .aload 1, .arraylength, .invokestatic 0, .putfield 701, .aload 0, .bipush 0, .putfield 703, .aload 0, .bipush (-1), .putfield 706, .aload 0, .invokeinterface 95 1, .return_] := rfl
theorem a94_0 {tb : Tab} {d : Nat} {K : Out → AM → Prop} {ls st : List AV} {m : AM} : At tb d 94 K 0 ls st m = wpB tb (pg.2.1 94) (Runs tb pg d) K (At tb d 94 K) [.aload 0, .aload 1, .putstatic 700, .aload 0, .iload 2, .aload 1, .arraylength, .invokestatic 0, .putfield 701, .aload 0, .bipush 0, .putfield 703, .aload 0, .bipush (-1), .putfield 706, .aload 0, .invokeinterface 95 1, .return_] ls st m := At.eq k94_0
theorem w_94_55 {n : Int} {t : Int → Int} (hP : TPE S t n) (hK : ∀ T, TKw S T 55 t n (skp t n 0) (-1) → K (.inl none) (X T m)) : Runs tb pg (d + 2) 94 [vr 55, vr 1, vi n] (X S m) K := by
  refine Runs.of (al := [vr 55, vr 1, vi n]) (n := 0) ⟨55, _, _, rfl, xo_55⟩ rfl rfl trivial ?_
  have hn := hP.1
  have hcall : ∀ (n2 : Int) (K2 : Out → AM → Prop), n2 = n → (∀ T, TKw S T 55 t n (skp t n 0) (-1) → K2 (.inl none) (X T m)) → Runs tb pg (d + 1) 95 [vr 55] (X (upS (upS (upS (upS S 55 0 1) 55 1 n2) 55 3 0) 55 6 (-1)) m) K2 := fun n2 K2 e h => by rw [e]; exact op_55 hP h
  repeat' (first | omega | (exact hK _ x1) | simp only [w_aload, x_p700_55, x_p700_58, w_iload, x_alen, w_alens, w_alenw, w_alenx, w_min, x_p701_55, x_p701_58, w_iconst, x_p703_55, x_p703_58, x_p706_55, x_p706_58, w_call, w_return, isA_1, len_1, Int.cast_ofNat_Int, a94_0, R32, List.getElem?_cons_zero, List.getElem?_cons_succ, List.set_cons_zero, List.set_cons_succ, List.cons_append, List.nil_append, List.replicate_succ, List.replicate_zero, List.take_succ_cons, List.take_zero, List.drop_succ_cons, List.drop_zero, List.reverse_cons, List.reverse_nil, List.length_cons, List.length_nil, Option.toList, true_and, and_true, eq_self, ↓reduceIte, not_true_eq_false, not_false_eq_true, true_or, or_true, x_alen_1, Int.toNat_one] | with_reducible refine hcall _ _ ?_ (fun T1 x1 => ?_) | with_reducible refine And.intro ?_ ?_ | with_reducible intro _)
  all_goals (try (first | omega | (exfalso; assumption) | (split <;> omega)))
theorem w_95_58 {n a : Int} {t : Int → Int} (hP : TPE S t n) (h0 : S 58 0 = 1) (h1 : S 58 1 = n) (h3 : S 58 3 = a) (ha : 0 ≤ a ∧ a ≤ n) (hK : ∀ T f k v, TKx S T 58 t n (skp t n a) f k v → K (.inl none) (X T m)) : Runs tb pg (d + 1) 95 [vr 58] (X S m) K := by
  have hn := hP.1
  have sb := skp_ge (t := t) (n := n) (a := a)
  have sl := skp_le (t := t) (n := n) (a := a) ha.2
  have h313 : ∀ (T : Nat → Int → Int) (b f k v : Int) (z : AV), b = skp t n a → WD S T 58 n b f k v → TKc t n b f k v → At tb d 95 K 313 [vr 58, z] [] (X T m) := by
    intro T b f k v z hb hW hc
    subst hb
    rw [a95_313]
    simp only [w_return]
    exact hK T f k v ⟨⟨by omega, by omega⟩, hW, hc⟩
  have h111 : ∀ (T0 : Nat → Int → Int) (b k v : Int) (z : AV), b = skp t n a → b < n → isLt (t b) → WD S T0 58 n b b 0 (-1) → At tb d 95 K 111 [vr 58, z] [] (X T0 m) := by
    intro T0 b k v z hb hbn hlt hW0
    have hL111 : (fun i : Int => ∀ (f : Int) (T : Nat → Int → Int), f = b + i → (WD S T 58 n b f 0 (-1)) → (ltE t n f = ltE t n b) → At tb d 95 K 111 [vr 58, z] [] (X T m)) 0 := by
      refine loopZ (fun i : Int => ∀ (f : Int) (T : Nat → Int → Int), f = b + i → (WD S T 58 n b f 0 (-1)) → (ltE t n f = ltE t n b) → At tb d 95 K 111 [vr 58, z] [] (X T m)) (n - b) (by omega) ?_ ?_
      · intro i h0 h1 h9 f T hf hT he
        have hW := hT
        obtain ⟨f0, t0, t1, t2, t3, t4, t5, t6⟩ := hW
        have hTt : ∀ j, 0 ≤ j → j < n → T 1 j = t j ∧ 0 ≤ t j ∧ t j < 256 := fun j j0 j1 => by rw [f0 1 (by decide)]; exact hP.2 j j0 j1
        have tf := fun (y : f < n) => hTt f (by omega) y
        have ly := fun (y : f < n) (c : isLt (t f)) => ltE_y y c
        rw [a95_111]
        repeat' (first | omega | with_reducible refine h9 (f + 1) _ ?_ ?_ ?_ | (refine h313 _ b f 0 (-1) _ hb hT ?_) | simp only [w_aload, x_g703_55, x_g703_58, x_p702_55, x_p702_58, w_fall, Int.reduceToNat, x_g702_55, x_g702_58, x_g701_55, x_g701_58, w_ifc, cI, x_g700_55, x_g700_58, x_iald, w_ialoads, w_ialoadw, w_iconst, w_dupi, w_dupr, w_iadd, w_goto, x_p703_55, x_p703_58, x_p705_55, x_p705_58, x_p704_55, x_p704_58, w_istore, w_isub, w_iload, w_imul, w_return, isA_1, len_1, Int.cast_ofNat_Int, a95_0, a95_46, a95_78, a95_163, a95_275, a95_276, a95_290, a95_298, R32, List.getElem?_cons_zero, List.getElem?_cons_succ, List.set_cons_zero, List.set_cons_succ, List.cons_append, List.nil_append, List.replicate_succ, List.replicate_zero, List.take_succ_cons, List.take_zero, List.drop_succ_cons, List.drop_zero, List.reverse_cons, List.reverse_nil, List.length_cons, List.length_nil, Option.toList, true_and, and_true, eq_self, ↓reduceIte, not_true_eq_false, not_false_eq_true, true_or, or_true, upS_at, Int.reduceEq, Nat.reduceEqDiff, and_self, and_true, true_and, and_false, false_and, if_true, if_false, reduceIte, Int.reduceToNat, t0, t1, t2, t3] | with_reducible refine And.intro ?_ ?_ | with_reducible intro _)
        all_goals (try (first | omega | contradiction | (have g := tf (by omega); have e := ly (by omega) ⟨by omega, by omega⟩; first | omega | exact WD_3 hT) | exact WD_3 hT | (exact Or.inr (Or.inl ⟨hbn, hlt, rfl, by rw [← he]; exact (ltE_n (fun y => by have g := tf (by omega); have g1 := y.2.1; have g2 := y.2.2; omega)).symm, rfl⟩))))
      · intro f T hf hT he
        have hW := hT
        obtain ⟨f0, t0, t1, t2, t3, t4, t5, t6⟩ := hW

        rw [a95_111]
        repeat' (first | omega | (refine h313 _ b f 0 (-1) _ hb hT ?_) | simp only [w_aload, x_g703_55, x_g703_58, x_p702_55, x_p702_58, w_fall, Int.reduceToNat, x_g702_55, x_g702_58, x_g701_55, x_g701_58, w_ifc, cI, x_g700_55, x_g700_58, x_iald, w_ialoads, w_ialoadw, w_iconst, w_dupi, w_dupr, w_iadd, w_goto, x_p703_55, x_p703_58, x_p705_55, x_p705_58, x_p704_55, x_p704_58, w_istore, w_isub, w_iload, w_imul, w_return, isA_1, len_1, Int.cast_ofNat_Int, a95_0, a95_46, a95_78, a95_163, a95_275, a95_276, a95_290, a95_298, R32, List.getElem?_cons_zero, List.getElem?_cons_succ, List.set_cons_zero, List.set_cons_succ, List.cons_append, List.nil_append, List.replicate_succ, List.replicate_zero, List.take_succ_cons, List.take_zero, List.drop_succ_cons, List.drop_zero, List.reverse_cons, List.reverse_nil, List.length_cons, List.length_nil, Option.toList, true_and, and_true, eq_self, ↓reduceIte, not_true_eq_false, not_false_eq_true, true_or, or_true, upS_at, Int.reduceEq, Nat.reduceEqDiff, and_self, and_true, true_and, and_false, false_and, if_true, if_false, reduceIte, Int.reduceToNat, t0, t1, t2, t3] | with_reducible refine And.intro ?_ ?_ | with_reducible intro _)
        all_goals (try (first | omega | contradiction | (exact Or.inr (Or.inl ⟨hbn, hlt, rfl, by rw [← he]; exact (ltE_n (fun y => by have := y.1; omega)).symm, rfl⟩))))
    exact hL111 _ _ (by omega) hW0 rfl
  have h198 : ∀ (T0 : Nat → Int → Int) (b : Int), b = skp t n a → b < n → isDg (t b) → WD S T0 58 n b b 1 (-1) → At tb d 95 K 198 [vr 58, vi 0] [] (X T0 m) := by
    intro T0 b hb hbn hdg hW0
    have hL198 : (fun i : Int => ∀ (f : Int) (v : Int) (T : Nat → Int → Int), f = b + i → v = (if i ≤ 3 then vlZ t b i else -1) → (WD S T 58 n b f 1 (-1)) → (dgE t n f = dgE t n b) → (dgA t b i) → At tb d 95 K 198 [vr 58, vi v] [] (X T m)) 0 := by
      refine loopZ (fun i : Int => ∀ (f : Int) (v : Int) (T : Nat → Int → Int), f = b + i → v = (if i ≤ 3 then vlZ t b i else -1) → (WD S T 58 n b f 1 (-1)) → (dgE t n f = dgE t n b) → (dgA t b i) → At tb d 95 K 198 [vr 58, vi v] [] (X T m)) (n - b) (by omega) ?_ ?_
      · intro i h0 h1 h9 f v T hf hv hT he hd
        have hW := hT
        obtain ⟨f0, t0, t1, t2, t3, t4, t5, t6⟩ := hW
        have hTt : ∀ j, 0 ≤ j → j < n → T 1 j = t j ∧ 0 ≤ t j ∧ t j < 256 := fun j j0 j1 => by rw [f0 1 (by decide)]; exact hP.2 j j0 j1
        have tf := fun (y : f < n) => hTt f (by omega) y
        have dy := fun (y : f < n) (c : isDg (t f)) => dgE_y y c
        have vr9 := fun (y : i ≤ 3) => vlZ_rg (t := t) (b := b) (i := i) h0 (by omega) (fun j j0 j1 => hd j j0 j1)
        have vs := vlZ_s (t := t) (b := b) h0
        have vb : -1 ≤ v ∧ v ≤ 9999 := by
          by_cases y : i ≤ 3
          · rw [if_pos y] at hv; have := vr9 y; omega
          · rw [if_neg y] at hv; omega
        have vi9 : i ≤ 3 → v = vlZ t b i := fun y => by rw [if_pos y] at hv; exact hv
        have vj9 : ¬ i ≤ 3 → v = -1 := fun y => by rw [if_neg y] at hv; exact hv
        have tbf : t (b + i) = t f := by rw [hf]
        have stp : (f < n) → isDg (t f) → dgE t n (f + 1) = dgE t n b ∧ dgA t b (i + 1) := fun y c => ⟨(dy y c).trans he, dgA_s hd (by rw [tbf]; exact c)⟩
        have fin9 : ¬ (f < n ∧ isDg (t f)) → TKc t n b f 1 v := fun y => by
          have e := dgE_n y
          rw [he] at e
          refine Or.inr (Or.inr (Or.inl ⟨hbn, hdg, rfl, e.symm, ?_⟩))
          rw [e, show f - b = i by omega]
          exact hv
        rw [a95_198]
        repeat' (first | omega | with_reducible refine h9 (f + 1) _ _ ?_ ?_ ?_ ?_ ?_ | (refine h313 _ b f 1 v _ hb (WD_5 hT) (fin9 ?_)) | simp only [w_aload, x_g703_55, x_g703_58, x_p702_55, x_p702_58, w_fall, Int.reduceToNat, x_g702_55, x_g702_58, x_g701_55, x_g701_58, w_ifc, cI, x_g700_55, x_g700_58, x_iald, w_ialoads, w_ialoadw, w_iconst, w_dupi, w_dupr, w_iadd, w_goto, x_p703_55, x_p703_58, x_p705_55, x_p705_58, x_p704_55, x_p704_58, w_istore, w_isub, w_iload, w_imul, w_return, isA_1, len_1, Int.cast_ofNat_Int, a95_0, a95_46, a95_78, a95_163, a95_275, a95_276, a95_290, a95_298, R32, List.getElem?_cons_zero, List.getElem?_cons_succ, List.set_cons_zero, List.set_cons_succ, List.cons_append, List.nil_append, List.replicate_succ, List.replicate_zero, List.take_succ_cons, List.take_zero, List.drop_succ_cons, List.drop_zero, List.reverse_cons, List.reverse_nil, List.length_cons, List.length_nil, Option.toList, true_and, and_true, eq_self, ↓reduceIte, not_true_eq_false, not_false_eq_true, true_or, or_true, upS_at, Int.reduceEq, Nat.reduceEqDiff, and_self, and_true, true_and, and_false, false_and, if_true, if_false, reduceIte, Int.reduceToNat, t0, t1, t2, t3] | with_reducible refine And.intro ?_ ?_ | with_reducible intro _)
        all_goals (try (first | omega | contradiction | exact WD_3 hT | (have g := tf (by omega); have e := stp (by omega) ⟨by omega, by omega⟩; first | exact e.1 | exact e.2 | (rw [if_pos (by omega)]; have y9 := vi9 (by omega); omega) | (rw [if_neg (by omega)])) | (intro y; have g := tf (by omega); have g1 := y.2.1; have g2 := y.2.2; omega) | (have g := tf (by omega); by_cases y : i ≤ 3; (have y9 := vi9 y; have y8 := vr9 y; first | omega | (rw [if_neg (by omega)])); (rw [if_neg (by omega)]))))
      · intro f v T hf hv hT he hd
        have hW := hT
        obtain ⟨f0, t0, t1, t2, t3, t4, t5, t6⟩ := hW
        have fin9 : TKc t n b f 1 v := by
          have e := dgE_n (t := t) (n := n) (i := f) (fun y => by have := y.1; omega)
          rw [he] at e
          refine Or.inr (Or.inr (Or.inl ⟨hbn, hdg, rfl, e.symm, ?_⟩))
          rw [e, show f - b = n - b by omega]
          exact hv
        rw [a95_198]
        repeat' (first | omega | (refine h313 _ b f 1 v _ hb (WD_5 hT) ?_) | simp only [w_aload, x_g703_55, x_g703_58, x_p702_55, x_p702_58, w_fall, Int.reduceToNat, x_g702_55, x_g702_58, x_g701_55, x_g701_58, w_ifc, cI, x_g700_55, x_g700_58, x_iald, w_ialoads, w_ialoadw, w_iconst, w_dupi, w_dupr, w_iadd, w_goto, x_p703_55, x_p703_58, x_p705_55, x_p705_58, x_p704_55, x_p704_58, w_istore, w_isub, w_iload, w_imul, w_return, isA_1, len_1, Int.cast_ofNat_Int, a95_0, a95_46, a95_78, a95_163, a95_275, a95_276, a95_290, a95_298, R32, List.getElem?_cons_zero, List.getElem?_cons_succ, List.set_cons_zero, List.set_cons_succ, List.cons_append, List.nil_append, List.replicate_succ, List.replicate_zero, List.take_succ_cons, List.take_zero, List.drop_succ_cons, List.drop_zero, List.reverse_cons, List.reverse_nil, List.length_cons, List.length_nil, Option.toList, true_and, and_true, eq_self, ↓reduceIte, not_true_eq_false, not_false_eq_true, true_or, or_true, upS_at, Int.reduceEq, Nat.reduceEqDiff, and_self, and_true, true_and, and_false, false_and, if_true, if_false, reduceIte, Int.reduceToNat, t0, t1, t2, t3] | with_reducible refine And.intro ?_ ?_ | with_reducible intro _)
        all_goals (try (first | omega | contradiction | exact fin9))
    exact hL198 _ _ _ (by omega) (by rw [if_pos (by decide)]; rfl) hW0 rfl dgA_0
  have h46 : ∀ (T : Nat → Int → Int) (b k v : Int), b = skp t n a → WD S T 58 n b a k v → (b < n → t b ≠ 32) → At tb d 95 K 46 [vr 58, vu] [] (X T m) := by
    intro T b k v hb hW h32
    have hW9 := hW
    obtain ⟨f0, t0, t1, t2, t3, t4, t5, t6⟩ := hW
    have hT : ∀ j, 0 ≤ j → j < n → T 1 j = t j ∧ 0 ≤ t j ∧ t j < 256 := fun j j0 j1 => by rw [f0 1 (by decide)]; exact hP.2 j j0 j1
    have sb := skp_ge (t := t) (n := n) (a := a)
    have sl := skp_le (t := t) (n := n) (a := a) (by omega)
    have tf := fun (y : b < n) => hT b (by omega) y
    have w3 : WD S (upS (upS T 58 3 b) 58 5 (-1)) 58 n b b k (-1) := WD_5 (WD_3 hW9)
    rw [a95_46]
    repeat' (first | omega | (refine h313 _ b b 3 (-1) _ hb (WD_4 w3) ?_) | (refine h111 _ b 0 0 _ hb ?_ ?_ (WD_4 w3)) | (refine h198 _ b hb ?_ ?_ (WD_4 w3)) | (refine h313 _ b (b + 1) 2 (-1) _ hb (WD_3 (WD_4 w3)) ?_) | simp only [w_aload, x_g703_55, x_g703_58, x_p702_55, x_p702_58, w_fall, Int.reduceToNat, x_g702_55, x_g702_58, x_g701_55, x_g701_58, w_ifc, cI, x_g700_55, x_g700_58, x_iald, w_ialoads, w_ialoadw, w_iconst, w_dupi, w_dupr, w_iadd, w_goto, x_p703_55, x_p703_58, x_p705_55, x_p705_58, x_p704_55, x_p704_58, w_istore, w_isub, w_iload, w_imul, w_return, isA_1, len_1, Int.cast_ofNat_Int, a95_0, a95_46, a95_78, a95_163, a95_275, a95_276, a95_290, a95_298, R32, List.getElem?_cons_zero, List.getElem?_cons_succ, List.set_cons_zero, List.set_cons_succ, List.cons_append, List.nil_append, List.replicate_succ, List.replicate_zero, List.take_succ_cons, List.take_zero, List.drop_succ_cons, List.drop_zero, List.reverse_cons, List.reverse_nil, List.length_cons, List.length_nil, Option.toList, true_and, and_true, eq_self, ↓reduceIte, not_true_eq_false, not_false_eq_true, true_or, or_true, upS_at, Int.reduceEq, Nat.reduceEqDiff, and_self, and_true, true_and, and_false, false_and, if_true, if_false, reduceIte, Int.reduceToNat, t0, t1, t2, t3] | with_reducible refine And.intro ?_ ?_ | with_reducible intro _)
    all_goals (try (first | omega | (exfalso; assumption) | (exact Or.inl ⟨by omega, rfl, rfl, rfl⟩) | (have g := tf (by omega); first | omega | exact ⟨by omega, by omega⟩ | (exact Or.inr (Or.inr (Or.inr ⟨by omega, fun y => by have := y.1; have := y.2; omega, fun y => by have := y.1; have := y.2; omega, h32 (by omega), rfl, rfl, rfl⟩))))))
  have hL8 : (fun i : Int => ∀ (b : Int) (T : Nat → Int → Int), b = a + i → (WD S T 58 n b a (S 58 4) (S 58 5)) → (skp t n b = skp t n a) → At tb d 95 K 8 [vr 58, vu] [] (X T m)) 0 := by
    refine loopZ (fun i : Int => ∀ (b : Int) (T : Nat → Int → Int), b = a + i → (WD S T 58 n b a (S 58 4) (S 58 5)) → (skp t n b = skp t n a) → At tb d 95 K 8 [vr 58, vu] [] (X T m)) (n - a) (by omega) ?_ ?_
    · intro i h0 h1 h9 b T hb hT he
      have hW := hT
      obtain ⟨f0, t0, t1, t2, t3, t4, t5, t6⟩ := hW
      have hTt : ∀ j, 0 ≤ j → j < n → T 1 j = t j ∧ 0 ≤ t j ∧ t j < 256 := fun j j0 j1 => by rw [f0 1 (by decide)]; exact hP.2 j j0 j1
      have tf := fun (y : b < n) => hTt b (by omega) y
      have sy := fun (y : b < n) (c : t b = 32) => skp_y9 y c
      rw [a95_8]
      repeat' (first | omega | with_reducible refine h9 (b + 1) _ ?_ ?_ ?_ | (refine h46 _ b _ _ ?_ hT ?_) | simp only [w_aload, x_g703_55, x_g703_58, x_p702_55, x_p702_58, w_fall, Int.reduceToNat, x_g702_55, x_g702_58, x_g701_55, x_g701_58, w_ifc, cI, x_g700_55, x_g700_58, x_iald, w_ialoads, w_ialoadw, w_iconst, w_dupi, w_dupr, w_iadd, w_goto, x_p703_55, x_p703_58, x_p705_55, x_p705_58, x_p704_55, x_p704_58, w_istore, w_isub, w_iload, w_imul, w_return, isA_1, len_1, Int.cast_ofNat_Int, a95_0, a95_78, a95_163, a95_275, a95_276, a95_290, a95_298, a95_313, R32, List.getElem?_cons_zero, List.getElem?_cons_succ, List.set_cons_zero, List.set_cons_succ, List.cons_append, List.nil_append, List.replicate_succ, List.replicate_zero, List.take_succ_cons, List.take_zero, List.drop_succ_cons, List.drop_zero, List.reverse_cons, List.reverse_nil, List.length_cons, List.length_nil, Option.toList, true_and, and_true, eq_self, ↓reduceIte, not_true_eq_false, not_false_eq_true, true_or, or_true, upS_at, Int.reduceEq, Nat.reduceEqDiff, and_self, and_true, true_and, and_false, false_and, if_true, if_false, reduceIte, Int.reduceToNat, t0, t1, t2, t3] | with_reducible refine And.intro ?_ ?_ | with_reducible intro _)
      all_goals (try (first | omega | contradiction | exact WD_2 hT | (have g := tf (by omega); have e := sy (by omega) (by omega); omega) | (rw [← he]; exact (skp_n9 (fun y => by have g := tf (by omega); have g1 := y.2; omega)).symm) | (intro y; have g := tf y; omega)))
    · intro b T hb hT he
      have hW := hT
      obtain ⟨f0, t0, t1, t2, t3, t4, t5, t6⟩ := hW

      rw [a95_8]
      repeat' (first | omega | (refine h46 _ b _ _ ?_ hT ?_) | simp only [w_aload, x_g703_55, x_g703_58, x_p702_55, x_p702_58, w_fall, Int.reduceToNat, x_g702_55, x_g702_58, x_g701_55, x_g701_58, w_ifc, cI, x_g700_55, x_g700_58, x_iald, w_ialoads, w_ialoadw, w_iconst, w_dupi, w_dupr, w_iadd, w_goto, x_p703_55, x_p703_58, x_p705_55, x_p705_58, x_p704_55, x_p704_58, w_istore, w_isub, w_iload, w_imul, w_return, isA_1, len_1, Int.cast_ofNat_Int, a95_0, a95_78, a95_163, a95_275, a95_276, a95_290, a95_298, a95_313, R32, List.getElem?_cons_zero, List.getElem?_cons_succ, List.set_cons_zero, List.set_cons_succ, List.cons_append, List.nil_append, List.replicate_succ, List.replicate_zero, List.take_succ_cons, List.take_zero, List.drop_succ_cons, List.drop_zero, List.reverse_cons, List.reverse_nil, List.length_cons, List.length_nil, Option.toList, true_and, and_true, eq_self, ↓reduceIte, not_true_eq_false, not_false_eq_true, true_or, or_true, upS_at, Int.reduceEq, Nat.reduceEqDiff, and_self, and_true, true_and, and_false, false_and, if_true, if_false, reduceIte, Int.reduceToNat, t0, t1, t2, t3] | with_reducible refine And.intro ?_ ?_ | with_reducible intro _)
      all_goals (try (first | omega | contradiction | (rw [← he]; exact (skp_n9 (fun y => by have g1 := y.1; omega)).symm) | (intro y; omega)))
  refine Runs.of (al := [vr 58]) (n := 1) ⟨58, _, _, rfl, xo_58⟩ rfl rfl trivial ?_
  repeat' (first | omega | (refine hL8 a _ ?_ ?_ ?_) | simp only [w_aload, x_g703_55, x_g703_58, x_p702_55, x_p702_58, w_fall, Int.reduceToNat, x_g702_55, x_g702_58, x_g701_55, x_g701_58, w_ifc, cI, x_g700_55, x_g700_58, x_iald, w_ialoads, w_ialoadw, w_iconst, w_dupi, w_dupr, w_iadd, w_goto, x_p703_55, x_p703_58, x_p705_55, x_p705_58, x_p704_55, x_p704_58, w_istore, w_isub, w_iload, w_imul, w_return, isA_1, len_1, Int.cast_ofNat_Int, a95_0, a95_78, a95_163, a95_275, a95_276, a95_290, a95_298, a95_313, R32, List.getElem?_cons_zero, List.getElem?_cons_succ, List.set_cons_zero, List.set_cons_succ, List.cons_append, List.nil_append, List.replicate_succ, List.replicate_zero, List.take_succ_cons, List.take_zero, List.drop_succ_cons, List.drop_zero, List.reverse_cons, List.reverse_nil, List.length_cons, List.length_nil, Option.toList, true_and, and_true, eq_self, ↓reduceIte, not_true_eq_false, not_false_eq_true, true_or, or_true, upS_at, Int.reduceEq, Nat.reduceEqDiff, and_self, and_true, true_and, and_false, false_and, if_true, if_false, reduceIte, Int.reduceToNat] | with_reducible refine And.intro ?_ ?_ | with_reducible intro _)
  all_goals (try (first | omega | (exfalso; assumption) | rfl | (rw [h3]; refine WD_2 ⟨FxE_r, h0, h1, rfl, h3, rfl, rfl, rfl⟩)))
theorem w_95_58w {n b w f : Int} {Z : Nat → Int → Int} {t : Int → Int} (hP : TPE S t n) (hW : TKw Z S 58 t n b w) (hf : S 58 3 = f) (hK : ∀ T, TKw Z T 58 t n (skp t n f) w → K (.inl none) (X T m)) : Runs tb pg (d + 1) 95 [vr 58] (X S m) K := by
  have hf2 := tk_f hW.2.2.2.2.2.2 hW.1
  have hb0 := hW.1.1
  exact w_95_58 hP hW.2.2.1 hW.2.2.2.1 hf (by omega) (fun T f k v h => hK T (TKw_of hW.2.1 hW.2.2.2.2.2.1 h))
theorem w_96_58 {n b w : Int} {Z : Nat → Int → Int} {t : Int → Int} (hP : TPE S t n) (hW : TKw Z S 58 t n b w)  (hK : ∀ v, yn v (b = n) → K (.inl (some (vi v))) (X S m)) : Runs tb pg (d + 1) 96 [vr 58] (X S m) K := by
  obtain ⟨hb, hZ, t0, t1, t2, t6, hc⟩ := hW
  have hn := hP.1
  have hf := tk_f hc hb
  have hv := tk_v hc
  refine Runs.of (al := [vr 58]) (n := 0) ⟨58, _, _, rfl, xo_58⟩ rfl rfl trivial ?_
  have ov := ovr_k hc hb.2
  repeat' (first | omega | with_reducible refine hK _ ?_ | simp only [w_aload, x_g704_55, x_g704_58, w_iconst, w_ifc, cI, Int.reduceToNat, w_goto, w_fall, w_zreturn, a96_0, a96_12, a96_13, R32, List.getElem?_cons_zero, List.getElem?_cons_succ, List.set_cons_zero, List.set_cons_succ, List.cons_append, List.nil_append, List.replicate_succ, List.replicate_zero, List.take_succ_cons, List.take_zero, List.drop_succ_cons, List.drop_zero, List.reverse_cons, List.reverse_nil, List.length_cons, List.length_nil, Option.toList, true_and, and_true, eq_self, ↓reduceIte, not_true_eq_false, not_false_eq_true, true_or, or_true, upS_at, Int.reduceEq, Nat.reduceEqDiff, and_self, and_true, true_and, and_false, false_and, if_true, if_false, reduceIte, Int.reduceToNat, t0, t1, t2] | with_reducible refine And.intro ?_ ?_ | with_reducible intro _)
  all_goals (try (first | omega | (exfalso; assumption) | (exact Or.inl ⟨rfl, ov.mpr (by omega)⟩) | (exact Or.inr ⟨rfl, fun y => by have := ov.mp y; omega⟩)))
theorem w_97_58 {n b w : Int} {Z : Nat → Int → Int} {t : Int → Int} (hP : TPE S t n) (hW : TKw Z S 58 t n b w) {i : Nat} (hX : tb.2.1 = strB) (hi : i < 39) (hl : 0 < (strB i).length) (hK : ∀ v, yn v (wdP t n b (strB i)) → K (.inl (some (vi v))) (X S m)) : Runs tb pg (d + 5) 97 [vr 58, vx (2 * i + 2)] (X S m) K := by
  obtain ⟨hb, hZ, t0, t1, t2, t6, hc⟩ := hW
  have hn := hP.1
  have hf := tk_f hc hb
  have hv := tk_v hc
  have wk := wrd_k hc
  have sl9 := strB_u hi
  have hT : ∀ j, 0 ≤ j → j < n → S 1 j = t j ∧ 0 ≤ t j ∧ t j < 256 := hP.2
  have hL : S 58 4 = 0 → ltE t n b - b = (strB i).length → At tb (d + 4) 97 K 27 [vr 58, vx (2 * i + 2), vi 0] [] (X S m) := by
    intro h4 hlen
    have h3 := wk.1 h4
    have hL27 : (fun i9 : Int => (noB (fun j => ¬ t (b + j) = (strB i).getD j.toNat 0) i9) → At tb (d + 4) 97 K 27 [vr 58, vx (2 * i + 2), vi i9] [] (X S m)) 0 := by
      refine loopZ (fun i9 : Int => (noB (fun j => ¬ t (b + j) = (strB i).getD j.toNat 0) i9) → At tb (d + 4) 97 K 27 [vr 58, vx (2 * i + 2), vi i9] [] (X S m)) (((strB i).length : Int)) (by omega) ?_ ?_
      · intro i9 h0 h1 h9  hm
        have g := hT (b + i9) (by omega) (by omega)
        rw [a97_27]
        repeat' (first | omega | with_reducible refine h9  ?_ | with_reducible refine hK _ ?_ | simp only [w_aload, x_g704_55, x_g704_58, w_if, cI, Int.reduceToNat, x_g703_55, x_g703_58, x_g702_55, x_g702_58, w_isub, w_call, w_ifc, w_fall, w_iconst, w_zreturn, w_istore, w_iload, x_g700_55, x_g700_58, w_iadd, x_iald, w_ialoads, w_ialoadw, w_iinc, lgB, Nat.reduceSub, w_goto, isA_1, len_1, Int.cast_ofNat_Int, a97_0, a97_23, a97_25, a97_56, a97_62, R32, List.getElem?_cons_zero, List.getElem?_cons_succ, List.set_cons_zero, List.set_cons_succ, List.cons_append, List.nil_append, List.replicate_succ, List.replicate_zero, List.take_succ_cons, List.take_zero, List.drop_succ_cons, List.drop_zero, List.reverse_cons, List.reverse_nil, List.length_cons, List.length_nil, Option.toList, true_and, and_true, eq_self, ↓reduceIte, not_true_eq_false, not_false_eq_true, true_or, or_true, upS_at, Int.reduceEq, Nat.reduceEqDiff, and_self, and_true, true_and, and_false, false_and, if_true, if_false, reduceIte, Int.reduceToNat, t0, t1, t2] | with_reducible refine r_386k hX hi (fun v1 x1 => ?_) | with_reducible refine r_387k hX hi ?_ ?_ (fun v2 x2 y2 u2 => ?_) | with_reducible refine And.intro ?_ ?_ | with_reducible intro _)
        all_goals (try (first | omega | contradiction | (exact Or.inr ⟨rfl, fun y => by have := y.2 i9 h0 h1; omega⟩) | (exact noB_s hm (fun y => y (by omega)))))
      · intro  hm
        rw [a97_27]
        repeat' (first | omega | with_reducible refine hK _ ?_ | simp only [w_aload, x_g704_55, x_g704_58, w_if, cI, Int.reduceToNat, x_g703_55, x_g703_58, x_g702_55, x_g702_58, w_isub, w_call, w_ifc, w_fall, w_iconst, w_zreturn, w_istore, w_iload, x_g700_55, x_g700_58, w_iadd, x_iald, w_ialoads, w_ialoadw, w_iinc, lgB, Nat.reduceSub, w_goto, isA_1, len_1, Int.cast_ofNat_Int, a97_0, a97_23, a97_25, a97_56, a97_62, R32, List.getElem?_cons_zero, List.getElem?_cons_succ, List.set_cons_zero, List.set_cons_succ, List.cons_append, List.nil_append, List.replicate_succ, List.replicate_zero, List.take_succ_cons, List.take_zero, List.drop_succ_cons, List.drop_zero, List.reverse_cons, List.reverse_nil, List.length_cons, List.length_nil, Option.toList, true_and, and_true, eq_self, ↓reduceIte, not_true_eq_false, not_false_eq_true, true_or, or_true, upS_at, Int.reduceEq, Nat.reduceEqDiff, and_self, and_true, true_and, and_false, false_and, if_true, if_false, reduceIte, Int.reduceToNat, t0, t1, t2] | with_reducible refine r_386k hX hi (fun v1 x1 => ?_) | with_reducible refine r_387k hX hi ?_ ?_ (fun v2 x2 y2 u2 => ?_) | with_reducible refine And.intro ?_ ?_ | with_reducible intro _)
        all_goals (try (first | omega | contradiction | (exact Or.inl ⟨rfl, hlen, fun j j0 j1 => Decidable.byContradiction (hm j j0 j1)⟩)))
    exact hL27 noB_0
  refine Runs.of (al := [vr 58, vx (2 * i + 2)]) (n := 1) ⟨58, _, _, rfl, xo_58⟩ rfl rfl trivial ?_
  repeat' (first | omega | with_reducible refine hL ?_ ?_ | with_reducible refine hK _ ?_ | simp only [w_aload, x_g704_55, x_g704_58, w_if, cI, Int.reduceToNat, x_g703_55, x_g703_58, x_g702_55, x_g702_58, w_isub, w_call, w_ifc, w_fall, w_iconst, w_zreturn, w_istore, w_iload, x_g700_55, x_g700_58, w_iadd, x_iald, w_ialoads, w_ialoadw, w_iinc, lgB, Nat.reduceSub, w_goto, isA_1, len_1, Int.cast_ofNat_Int, a97_0, a97_23, a97_25, a97_56, a97_62, R32, List.getElem?_cons_zero, List.getElem?_cons_succ, List.set_cons_zero, List.set_cons_succ, List.cons_append, List.nil_append, List.replicate_succ, List.replicate_zero, List.take_succ_cons, List.take_zero, List.drop_succ_cons, List.drop_zero, List.reverse_cons, List.reverse_nil, List.length_cons, List.length_nil, Option.toList, true_and, and_true, eq_self, ↓reduceIte, not_true_eq_false, not_false_eq_true, true_or, or_true, upS_at, Int.reduceEq, Nat.reduceEqDiff, and_self, and_true, true_and, and_false, false_and, if_true, if_false, reduceIte, Int.reduceToNat, t0, t1, t2] | with_reducible refine r_386k hX hi (fun v1 x1 => ?_) | with_reducible refine And.intro ?_ ?_ | with_reducible intro _)
  all_goals (try (first | omega | (exfalso; assumption) | (have y3 := wk.1 (by omega); omega) | (exact Or.inr ⟨rfl, fun y => by have e := y.1; by_cases z : S 58 4 = 0; (have y3 := wk.1 z; omega); (have y3 := wk.2 z; omega)⟩)))
theorem w_98_58 {n b w c : Int} {Z : Nat → Int → Int} {t : Int → Int} (hP : TPE S t n) (hW : TKw Z S 58 t n b w) (hk : ¬ isLt c ∧ ¬ isDg c ∧ c ≠ 32) (hr : 0 ≤ c ∧ c < 256) (hK : ∀ v, yn v (b < n ∧ t b = c) → K (.inl (some (vi v))) (X S m)) : Runs tb pg (d + 1) 98 [vr 58, vi c] (X S m) K := by
  obtain ⟨hb, hZ, t0, t1, t2, t6, hc⟩ := hW
  have hn := hP.1
  have hf := tk_f hc hb
  have hv := tk_v hc
  refine Runs.of (al := [vr 58, vi c]) (n := 0) ⟨58, _, _, rfl, xo_58⟩ rfl rfl trivial ?_
  have sk := sgn_k hc hk
  have hT : b < n → S 1 b = t b ∧ 0 ≤ t b ∧ t b < 256 := fun y => hP.2 b hb.1 y
  have k2 : S 58 4 = 2 → b < n := fun y => by
    rcases hc with z | z | z | z
    · omega
    · obtain ⟨h1, h2, h3, h4, h5⟩ := z; omega
    · obtain ⟨h1, h2, h3, h4, h5⟩ := z; omega
    · obtain ⟨h1, h2, h3, h4, h5, h6, h7⟩ := z; exact h1
  repeat' (first | omega | with_reducible refine hK _ ?_ | simp only [w_aload, x_g704_55, x_g704_58, w_iconst, w_ifc, cI, Int.reduceToNat, x_g700_55, x_g700_58, x_g702_55, x_g702_58, x_iald, w_ialoads, w_ialoadw, w_iload, w_goto, w_fall, w_zreturn, isA_1, len_1, Int.cast_ofNat_Int, a98_0, a98_25, a98_26, R32, List.getElem?_cons_zero, List.getElem?_cons_succ, List.set_cons_zero, List.set_cons_succ, List.cons_append, List.nil_append, List.replicate_succ, List.replicate_zero, List.take_succ_cons, List.take_zero, List.drop_succ_cons, List.drop_zero, List.reverse_cons, List.reverse_nil, List.length_cons, List.length_nil, Option.toList, true_and, and_true, eq_self, ↓reduceIte, not_true_eq_false, not_false_eq_true, true_or, or_true, upS_at, Int.reduceEq, Nat.reduceEqDiff, and_self, and_true, true_and, and_false, false_and, if_true, if_false, reduceIte, Int.reduceToNat, t0, t1, t2] | (have yk := k2 (by omega); have g := hT yk; clear k2 hT) | with_reducible refine And.intro ?_ ?_ | with_reducible intro _)
  all_goals (try (first | omega | (exfalso; assumption) | (exact Or.inl ⟨rfl, sk.mpr ⟨by omega, by omega⟩⟩) | (exact Or.inr ⟨rfl, fun y => by have := sk.mp y; omega⟩)))
theorem w_99_58 {n b w lo hi : Int} {Z : Nat → Int → Int} {t : Int → Int} (hP : TPE S t n) (hW : TKw Z S 58 t n b w) (hlo : 0 ≤ lo ∧ lo ≤ 1000) (hhi : -1 ≤ hi ∧ hi ≤ 1000) (hK : ∀ v, yn v (okF t n lo hi b) → K (.inl (some (vi v))) (X S m)) : Runs tb pg (d + 1) 99 [vr 58, vi lo, vi hi] (X S m) K := by
  obtain ⟨hb, hZ, t0, t1, t2, t6, hc⟩ := hW
  have hn := hP.1
  have hf := tk_f hc hb
  have hv := tk_v hc
  refine Runs.of (al := [vr 58, vi lo, vi hi]) (n := 0) ⟨58, _, _, rfl, xo_58⟩ rfl rfl trivial ?_
  have ni := num_is (lo := lo) (hi := hi) hc hlo.1
  repeat' (first | omega | with_reducible refine hK _ ?_ | simp only [w_aload, x_g704_55, x_g704_58, w_iconst, w_ifc, cI, Int.reduceToNat, x_g705_55, x_g705_58, w_iload, w_goto, w_fall, w_zreturn, a99_0, a99_36, a99_37, R32, List.getElem?_cons_zero, List.getElem?_cons_succ, List.set_cons_zero, List.set_cons_succ, List.cons_append, List.nil_append, List.replicate_succ, List.replicate_zero, List.take_succ_cons, List.take_zero, List.drop_succ_cons, List.drop_zero, List.reverse_cons, List.reverse_nil, List.length_cons, List.length_nil, Option.toList, true_and, and_true, eq_self, ↓reduceIte, not_true_eq_false, not_false_eq_true, true_or, or_true, upS_at, Int.reduceEq, Nat.reduceEqDiff, and_self, and_true, true_and, and_false, false_and, if_true, if_false, reduceIte, Int.reduceToNat, t0, t1, t2] | with_reducible refine And.intro ?_ ?_ | with_reducible intro _)
  all_goals (try (first | omega | (exfalso; assumption) | (exact Or.inl ⟨rfl, ni.mpr ⟨by omega, by omega, by omega, by omega⟩⟩) | (exact Or.inr ⟨rfl, fun y => by have := ni.mp y; omega⟩)))
theorem w_104_58 {n b w : Int} {Z : Nat → Int → Int} {t : Int → Int} (hP : TPE S t n) (hW : TKw Z S 58 t n b w)  (hK : ∀ T, TKw Z T 58 t n b b → K (.inl (some (vi 0))) (X T m)) : Runs tb pg (d + 1) 104 [vr 58] (X S m) K := by
  obtain ⟨hb, hZ, t0, t1, t2, t6, hc⟩ := hW
  have hn := hP.1
  have hf := tk_f hc hb
  have hv := tk_v hc
  refine Runs.of (al := [vr 58]) (n := 0) ⟨58, _, _, rfl, xo_58⟩ rfl rfl trivial ?_
  have h2 := hK _ (TKw_w (x := b) ⟨hb, hZ, t0, t1, t2, t6, hc⟩)
  repeat' (first | omega | (exact h2) | simp only [w_aload, x_g702_55, x_g702_58, x_p706_55, x_p706_58, w_iconst, w_zreturn, a104_0, R32, List.getElem?_cons_zero, List.getElem?_cons_succ, List.set_cons_zero, List.set_cons_succ, List.cons_append, List.nil_append, List.replicate_succ, List.replicate_zero, List.take_succ_cons, List.take_zero, List.drop_succ_cons, List.drop_zero, List.reverse_cons, List.reverse_nil, List.length_cons, List.length_nil, Option.toList, true_and, and_true, eq_self, ↓reduceIte, not_true_eq_false, not_false_eq_true, true_or, or_true, upS_at, Int.reduceEq, Nat.reduceEqDiff, and_self, and_true, true_and, and_false, false_and, if_true, if_false, reduceIte, Int.reduceToNat, t0, t1, t2] | with_reducible refine And.intro ?_ ?_ | with_reducible intro _)
  all_goals (try (first | omega | (exfalso; assumption) | skip))
theorem w_100_58 {n b w : Int} {Z : Nat → Int → Int} {t : Int → Int} (hP : TPE S t n) (hW : TKw Z S 58 t n b w)  (hK : ∀ v, (((ltE t n b - b ≤ 6 ∧ b < ltE t n b ∧ ∀ j, b ≤ j → j < ltE t n b → t j < 105) ∧ v = ltE t n b - b) ∨ (¬ (ltE t n b - b ≤ 6 ∧ b < ltE t n b ∧ ∀ j, b ≤ j → j < ltE t n b → t j < 105) ∧ v = -1)) → K (.inl (some (vi v))) (X S m)) : Runs tb pg (d + 1) 100 [vr 58] (X S m) K := by
  obtain ⟨hb, hZ, t0, t1, t2, t6, hc⟩ := hW
  have hn := hP.1
  have hf := tk_f hc hb
  have hv := tk_v hc
  have wk := wrd_k hc
  have lr := ltE_rg (t := t) (n := n) (a := b)
  have k0 : S 58 4 = 0 → b < ltE t n b := fun y => by
    rcases hc with z | z | z | z
    · omega
    · obtain ⟨h1, h2, h3, h4, h5⟩ := z
      have := ltE_y h1 h2
      have := (ltE_rg (t := t) (n := n) (a := b + 1)).1
      omega
    · obtain ⟨h1, h2, h3, h4, h5⟩ := z; omega
    · obtain ⟨h1, h2, h3, h4, h5, h6, h7⟩ := z; omega
  have hL : S 58 4 = 0 → ltE t n b - b ≤ 6 → At tb d 100 K 28 [vr 58, vi b] [] (X S m) := by
    intro h4 hlen
    have h3 := wk.1 h4
    have kb := k0 h4
    have hL28 : (fun i : Int => ∀ (z : Int), z = b + i → (noB (fun j => ¬ t (b + j) < 105) i) → At tb d 100 K 28 [vr 58, vi z] [] (X S m)) 0 := by
      refine loopZ (fun i : Int => ∀ (z : Int), z = b + i → (noB (fun j => ¬ t (b + j) < 105) i) → At tb d 100 K 28 [vr 58, vi z] [] (X S m)) (ltE t n b - b) (by omega) ?_ ?_
      · intro i h0 h1 h9 z hz hm
        have g := hP.2 z (by omega) (by omega)
        have ez : t (b + i) = t z := by rw [hz]
        rw [a100_28]
        repeat' (first | omega | with_reducible refine h9 _ ?_ ?_ | with_reducible refine hK _ ?_ | simp only [w_aload, x_g704_55, x_g704_58, w_if, cI, Int.reduceToNat, x_g703_55, x_g703_58, x_g702_55, x_g702_58, w_isub, w_iconst, w_ifc, w_fall, w_ireturn, w_istore, w_iload, x_g700_55, x_g700_58, x_iald, w_ialoads, w_ialoadw, w_iinc, lgB, Nat.reduceSub, w_goto, isA_1, len_1, Int.cast_ofNat_Int, a100_0, a100_21, a100_23, a100_49, a100_55, R32, List.getElem?_cons_zero, List.getElem?_cons_succ, List.set_cons_zero, List.set_cons_succ, List.cons_append, List.nil_append, List.replicate_succ, List.replicate_zero, List.take_succ_cons, List.take_zero, List.drop_succ_cons, List.drop_zero, List.reverse_cons, List.reverse_nil, List.length_cons, List.length_nil, Option.toList, true_and, and_true, eq_self, ↓reduceIte, not_true_eq_false, not_false_eq_true, true_or, or_true, upS_at, Int.reduceEq, Nat.reduceEqDiff, and_self, and_true, true_and, and_false, false_and, if_true, if_false, reduceIte, Int.reduceToNat, t0, t1, t2] | with_reducible refine And.intro ?_ ?_ | with_reducible intro _)
        all_goals (try (first | omega | contradiction | (exact Or.inr (fun y => by have := y.2.2 z (by omega) (by omega); omega)) | (exact Or.inr ⟨fun y => by have := y.2.2 z (by omega) (by omega); omega, rfl⟩) | (exact noB_s hm (fun y => y (by omega)))))
      · intro z hz hm
        rw [a100_28]
        repeat' (first | omega | with_reducible refine hK _ ?_ | simp only [w_aload, x_g704_55, x_g704_58, w_if, cI, Int.reduceToNat, x_g703_55, x_g703_58, x_g702_55, x_g702_58, w_isub, w_iconst, w_ifc, w_fall, w_ireturn, w_istore, w_iload, x_g700_55, x_g700_58, x_iald, w_ialoads, w_ialoadw, w_iinc, lgB, Nat.reduceSub, w_goto, isA_1, len_1, Int.cast_ofNat_Int, a100_0, a100_21, a100_23, a100_49, a100_55, R32, List.getElem?_cons_zero, List.getElem?_cons_succ, List.set_cons_zero, List.set_cons_succ, List.cons_append, List.nil_append, List.replicate_succ, List.replicate_zero, List.take_succ_cons, List.take_zero, List.drop_succ_cons, List.drop_zero, List.reverse_cons, List.reverse_nil, List.length_cons, List.length_nil, Option.toList, true_and, and_true, eq_self, ↓reduceIte, not_true_eq_false, not_false_eq_true, true_or, or_true, upS_at, Int.reduceEq, Nat.reduceEqDiff, and_self, and_true, true_and, and_false, false_and, if_true, if_false, reduceIte, Int.reduceToNat, t0, t1, t2] | with_reducible refine And.intro ?_ ?_ | with_reducible intro _)
        all_goals (try (first | omega | contradiction | (refine Or.inl ⟨⟨hlen, kb, fun j j0 j1 => ?_⟩, by omega⟩; have q9 := hm (j - b) (by omega) (by omega); have e : b + (j - b) = j := (by omega); dsimp only at q9; rw [e] at q9; omega)))
    exact hL28 _ (by omega) noB_0
  refine Runs.of (al := [vr 58]) (n := 1) ⟨58, _, _, rfl, xo_58⟩ rfl rfl trivial ?_
  repeat' (first | omega | with_reducible refine hL ?_ ?_ | with_reducible refine hK _ ?_ | simp only [w_aload, x_g704_55, x_g704_58, w_if, cI, Int.reduceToNat, x_g703_55, x_g703_58, x_g702_55, x_g702_58, w_isub, w_iconst, w_ifc, w_fall, w_ireturn, w_istore, w_iload, x_g700_55, x_g700_58, x_iald, w_ialoads, w_ialoadw, w_iinc, lgB, Nat.reduceSub, w_goto, isA_1, len_1, Int.cast_ofNat_Int, a100_0, a100_21, a100_23, a100_49, a100_55, R32, List.getElem?_cons_zero, List.getElem?_cons_succ, List.set_cons_zero, List.set_cons_succ, List.cons_append, List.nil_append, List.replicate_succ, List.replicate_zero, List.take_succ_cons, List.take_zero, List.drop_succ_cons, List.drop_zero, List.reverse_cons, List.reverse_nil, List.length_cons, List.length_nil, Option.toList, true_and, and_true, eq_self, ↓reduceIte, not_true_eq_false, not_false_eq_true, true_or, or_true, upS_at, Int.reduceEq, Nat.reduceEqDiff, and_self, and_true, true_and, and_false, false_and, if_true, if_false, reduceIte, Int.reduceToNat, t0, t1, t2] | with_reducible refine And.intro ?_ ?_ | with_reducible intro _)
  all_goals (try (first | omega | (exfalso; assumption) | (have y3 := wk.1 (by omega); omega) | (exact Or.inr ⟨fun y => by by_cases z : S 58 4 = 0; (have y3 := wk.1 z; omega); (have y3 := wk.2 z; omega), rfl⟩) | (exact Or.inr (fun y => by by_cases z : S 58 4 = 0; (have y3 := wk.1 z; omega); (have y3 := wk.2 z; omega)))))
theorem w_101_58 {n b w k : Int} {Z : Nat → Int → Int} {t : Int → Int} (hP : TPE S t n) (hW : TKw Z S 58 t n b w) (hk0 : 0 ≤ k ∧ k < ltE t n b - b) (hK : K (.inl (some (vi (t (b + k) - 97)))) (X S m)) : Runs tb pg (d + 1) 101 [vr 58, vi k] (X S m) K := by
  obtain ⟨hb, hZ, t0, t1, t2, t6, hc⟩ := hW
  have hn := hP.1
  have hf := tk_f hc hb
  have hv := tk_v hc
  refine Runs.of (al := [vr 58, vi k]) (n := 0) ⟨58, _, _, rfl, xo_58⟩ rfl rfl trivial ?_
  have wk := wrd_k hc
  have lr := ltE_rg (t := t) (n := n) (a := b)
  have h4 : S 58 4 = 0 := Decidable.byContradiction fun y => by have := wk.2 y; omega
  have h3 := wk.1 h4
  have g := hP.2 (b + k) (by omega) (by omega)
  have hK2 : K (.inl (some (vi (S 1 (b + k) - 97)))) (X S m) := by rw [g.1]; exact hK
  repeat' (first | omega | (exact hK2) | simp only [w_iload, w_if, cI, Int.reduceToNat, w_aload, x_g703_55, x_g703_58, x_g702_55, x_g702_58, w_isub, w_ifc, w_fall, w_iconst, w_goto, x_g700_55, x_g700_58, w_iadd, x_iald, w_ialoads, w_ialoadw, w_ireturn, isA_1, len_1, Int.cast_ofNat_Int, a101_0, a101_17, a101_21, a101_35, R32, List.getElem?_cons_zero, List.getElem?_cons_succ, List.set_cons_zero, List.set_cons_succ, List.cons_append, List.nil_append, List.replicate_succ, List.replicate_zero, List.take_succ_cons, List.take_zero, List.drop_succ_cons, List.drop_zero, List.reverse_cons, List.reverse_nil, List.length_cons, List.length_nil, Option.toList, true_and, and_true, eq_self, ↓reduceIte, not_true_eq_false, not_false_eq_true, true_or, or_true, upS_at, Int.reduceEq, Nat.reduceEqDiff, and_self, and_true, true_and, and_false, false_and, if_true, if_false, reduceIte, Int.reduceToNat, t0, t1, t2] | with_reducible refine And.intro ?_ ?_ | with_reducible intro _)
  all_goals (try (first | omega | (exfalso; assumption) | skip))
theorem w_102_58 {n b w : Int} {Z : Nat → Int → Int} {t : Int → Int} (hP : TPE S t n) (hW : TKw Z S 58 t n b w) {i : Nat} (hX : tb.2.1 = strB) (hi : i < 39) (hl : 0 < (strB i).length) (hK0 : ¬ wdP t n b (strB i) → ∀ T, TKw Z T 58 t n b b → K (.inl (some (vi 0))) (X T m)) (hK : wdP t n b (strB i) → ∀ T, TKw Z T 58 t n (skp t n (b + ((strB i).length : Int))) w → K (.inl (some (vi 1))) (X T m)) : Runs tb pg (d + 6) 102 [vr 58, vx (2 * i + 2)] (X S m) K := by
  obtain ⟨hb, hZ, t0, t1, t2, t6, hc⟩ := hW
  have hn := hP.1
  have hf := tk_f hc hb
  have hv := tk_v hc
  refine Runs.of (al := [vr 58, vx (2 * i + 2)]) (n := 0) ⟨58, _, _, rfl, xo_58⟩ rfl rfl trivial ?_
  have hW0 : TKw Z S 58 t n b w := ⟨hb, hZ, t0, t1, t2, t6, hc⟩
  repeat' (first | omega | (exact hK y1 _ x2) | (exact hK0 y1 _ x2) | simp only [w_aload, w_call, w_if, cI, Int.reduceToNat, w_zreturn, w_iconst, a102_0, a102_13, R32, List.getElem?_cons_zero, List.getElem?_cons_succ, List.set_cons_zero, List.set_cons_succ, List.cons_append, List.nil_append, List.replicate_succ, List.replicate_zero, List.take_succ_cons, List.take_zero, List.drop_succ_cons, List.drop_zero, List.reverse_cons, List.reverse_nil, List.length_cons, List.length_nil, Option.toList, true_and, and_true, eq_self, ↓reduceIte, not_true_eq_false, not_false_eq_true, true_or, or_true, upS_at, Int.reduceEq, Nat.reduceEqDiff, and_self, and_true, true_and, and_false, false_and, if_true, if_false, reduceIte, Int.reduceToNat, t0, t1, t2] | ((with_reducible refine w_97_58 hP hW0 hX hi hl (fun v1 x1 => ?_)); have gy := yn_b x1) | (have y1 : ¬ wdP t n b (strB i) := (by rcases x1 with ⟨xa, xb⟩ | ⟨xa, xb⟩; exfalso; omega; exact xb); (with_reducible refine w_104_58 hP hW0 (fun T2 x2 => ?_))) | (have y1 : wdP t n b (strB i) := (by rcases x1 with ⟨xa, xb⟩ | ⟨xa, xb⟩; exact xb; exfalso; omega); (with_reducible refine w_95_58w hP hW0 (wd_f hW0 hl y1) (fun T2 x2 => ?_))) | with_reducible refine And.intro ?_ ?_ | with_reducible intro _)
  all_goals (try (first | omega | (exfalso; assumption) | skip))
theorem w_103_58 {n b w c : Int} {Z : Nat → Int → Int} {t : Int → Int} (hP : TPE S t n) (hW : TKw Z S 58 t n b w) (hk : ¬ isLt c ∧ ¬ isDg c ∧ c ≠ 32) (hr : 0 ≤ c ∧ c < 256) (hK0 : ¬ (b < n ∧ t b = c) → ∀ T, TKw Z T 58 t n b b → K (.inl (some (vi 0))) (X T m)) (hK : (b < n ∧ t b = c) → ∀ T, TKw Z T 58 t n (skp t n (b + 1)) w → K (.inl (some (vi 1))) (X T m)) : Runs tb pg (d + 2) 103 [vr 58, vi c] (X S m) K := by
  obtain ⟨hb, hZ, t0, t1, t2, t6, hc⟩ := hW
  have hn := hP.1
  have hf := tk_f hc hb
  have hv := tk_v hc
  refine Runs.of (al := [vr 58, vi c]) (n := 0) ⟨58, _, _, rfl, xo_58⟩ rfl rfl trivial ?_
  have hW0 : TKw Z S 58 t n b w := ⟨hb, hZ, t0, t1, t2, t6, hc⟩
  repeat' (first | omega | (exact hK y1 _ x2) | (exact hK0 y1 _ x2) | simp only [w_aload, w_iload, w_call, w_if, cI, Int.reduceToNat, w_zreturn, w_iconst, a103_0, a103_13, R32, List.getElem?_cons_zero, List.getElem?_cons_succ, List.set_cons_zero, List.set_cons_succ, List.cons_append, List.nil_append, List.replicate_succ, List.replicate_zero, List.take_succ_cons, List.take_zero, List.drop_succ_cons, List.drop_zero, List.reverse_cons, List.reverse_nil, List.length_cons, List.length_nil, Option.toList, true_and, and_true, eq_self, ↓reduceIte, not_true_eq_false, not_false_eq_true, true_or, or_true, upS_at, Int.reduceEq, Nat.reduceEqDiff, and_self, and_true, true_and, and_false, false_and, if_true, if_false, reduceIte, Int.reduceToNat, t0, t1, t2] | ((with_reducible refine w_98_58 hP hW0 hk hr (fun v1 x1 => ?_)); have gy := yn_b x1) | (have y1 : ¬ (b < n ∧ t b = c) := (by rcases x1 with ⟨xa, xb⟩ | ⟨xa, xb⟩; exfalso; omega; exact xb); (with_reducible refine w_104_58 hP hW0 (fun T2 x2 => ?_))) | (have y1 : (b < n ∧ t b = c) := (by rcases x1 with ⟨xa, xb⟩ | ⟨xa, xb⟩; exact xb; exfalso; omega); (with_reducible refine w_95_58w hP hW0 (sg_f hW0 hk y1) (fun T2 x2 => ?_))) | with_reducible refine And.intro ?_ ?_ | with_reducible intro _)
  all_goals (try (first | omega | (exfalso; assumption) | skip))
theorem op_58 {n : Int} {t : Int → Int} (hP : TPE S t n) (hK : ∀ T, TKw S T 58 t n (skp t n 0) (-1) → K (.inl none) (X T m)) : Runs tb pg (d + 1) 95 [vr 58] (X (upS (upS (upS (upS S 58 0 1) 58 1 n) 58 3 0) 58 6 (-1)) m) K := by
  have f : FxE 58 S (upS (upS (upS (upS S 58 0 1) 58 1 n) 58 3 0) 58 6 (-1)) := FxE_u (FxE_u (FxE_u (FxE_u FxE_r)))
  refine w_95_58 (TPE_f hP (f 1 (by decide))) ?_ ?_ ?_ ⟨Int.le_refl _, hP.1.1⟩ (fun T f2 k v h => hK T (TKw_of f ?_ h))
  · simp only [upS_at, Int.reduceEq, and_false, if_false, and_self, if_true]
  · simp only [upS_at, Int.reduceEq, and_false, if_false, and_self, if_true]
  · simp only [upS_at, Int.reduceEq, and_false, if_false, and_self, if_true]
  · simp only [upS_at, Int.reduceEq, and_false, if_false, and_self, if_true]
theorem w_94_58 {n : Int} {t : Int → Int} (hP : TPE S t n) (hK : ∀ T, TKw S T 58 t n (skp t n 0) (-1) → K (.inl none) (X T m)) : Runs tb pg (d + 2) 94 [vr 58, vr 1, vi n] (X S m) K := by
  refine Runs.of (al := [vr 58, vr 1, vi n]) (n := 0) ⟨58, _, _, rfl, xo_58⟩ rfl rfl trivial ?_
  have hn := hP.1
  have hcall : ∀ (n2 : Int) (K2 : Out → AM → Prop), n2 = n → (∀ T, TKw S T 58 t n (skp t n 0) (-1) → K2 (.inl none) (X T m)) → Runs tb pg (d + 1) 95 [vr 58] (X (upS (upS (upS (upS S 58 0 1) 58 1 n2) 58 3 0) 58 6 (-1)) m) K2 := fun n2 K2 e h => by rw [e]; exact op_58 hP h
  repeat' (first | omega | (exact hK _ x1) | simp only [w_aload, x_p700_55, x_p700_58, w_iload, x_alen, w_alens, w_alenw, w_alenx, w_min, x_p701_55, x_p701_58, w_iconst, x_p703_55, x_p703_58, x_p706_55, x_p706_58, w_call, w_return, isA_1, len_1, Int.cast_ofNat_Int, a94_0, R32, List.getElem?_cons_zero, List.getElem?_cons_succ, List.set_cons_zero, List.set_cons_succ, List.cons_append, List.nil_append, List.replicate_succ, List.replicate_zero, List.take_succ_cons, List.take_zero, List.drop_succ_cons, List.drop_zero, List.reverse_cons, List.reverse_nil, List.length_cons, List.length_nil, Option.toList, true_and, and_true, eq_self, ↓reduceIte, not_true_eq_false, not_false_eq_true, true_or, or_true, x_alen_1, Int.toNat_one] | with_reducible refine hcall _ _ ?_ (fun T1 x1 => ?_) | with_reducible refine And.intro ?_ ?_ | with_reducible intro _)
  all_goals (try (first | omega | (exfalso; assumption) | (split <;> omega)))
end Words1
