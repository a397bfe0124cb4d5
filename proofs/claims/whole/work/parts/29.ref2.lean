/-! ===== THE REFERENCE, readers ===== -/
/-- the first one below n that is c; -1 without one -/
def isFst (c : Int → Prop) (n r : Int) : Prop := (r = -1 ∧ ∀ i, 0 ≤ i → i < n → ¬ c i) ∨ (0 ≤ r ∧ r < n ∧ c r ∧ ∀ i, 0 ≤ i → i < r → ¬ c i)
theorem isFst_uq {c e : Int → Prop} {n r q : Int} (h : isFst c n r) (g : isFst e n q) (z : ∀ i, 0 ≤ i → i < n → (c i ↔ e i)) : r = q := by
  unfold isFst at h g
  rcases h with ⟨h1, h2⟩ | ⟨h1, h2, h3, h4⟩ <;> rcases g with ⟨g1, g2⟩ | ⟨g1, g2, g3, g4⟩
  · omega
  · exact absurd ((z q g1 g2).mpr g3) (h2 q g1 g2)
  · exact absurd ((z r h1 h2).mp h3) (g2 r h1 h2)
  · by_cases e1 : r < q
    · exact absurd ((z r h1 h2).mp h3) (g4 r h1 e1)
    · by_cases e2 : q < r
      · exact absurd ((z q g1 g2).mpr g3) (h4 q g1 e2)
      · omega
/-- the first one below n of the greatest v; -1 if n is 0 -/
def isMax (v : Int → Int) (n r : Int) : Prop := (n ≤ 0 ∧ r = -1) ∨ (0 ≤ r ∧ r < n ∧ ∀ i, 0 ≤ i → i < n → v i ≤ v r ∧ (i < r → v i < v r))
theorem isMax_uq {v u : Int → Int} {n r q : Int} (h : isMax v n r) (g : isMax u n q) (z : ∀ i, 0 ≤ i → i < n → v i = u i) : r = q := by
  unfold isMax at h g
  rcases h with ⟨h1, h2⟩ | ⟨h1, h2, h3⟩ <;> rcases g with ⟨g1, g2⟩ | ⟨g1, g2, g3⟩
  · omega
  · omega
  · omega
  · have a1 := h3 q g1 g2
    have a2 := g3 r h1 h2
    have a3 := z q g1 g2
    have a4 := z r h1 h2
    omega
theorem leftM_s {P : Int → Int → Int} {p n : Int} (h : 0 ≤ n) : leftM P p (n + 1) = leftM P p n + if P p 1 ≠ -1 ∧ 0 < P p (14 + n) then 1 else 0 := sumZ_s h
theorem leftM_le {P : Int → Int → Int} {p n : Int} (h : 0 ≤ n) : 0 ≤ leftM P p n ∧ leftM P p n ≤ n := by
  have := sumZ_le (f := fun k => if P p 1 ≠ -1 ∧ 0 < P p (14 + k) then 1 else 0) (n := n) (a := 0) (b := 1) h (fun i _ _ => by split <;> omega)
  unfold leftM
  omega
/-- a place where a mark is left -/
def plM (P : Int → Int → Int) (p i : Int) : Prop := P p 1 ≠ -1 ∧ 0 < P p (14 + i)
theorem leftM_mono {P : Int → Int → Int} {p i j : Int} (h : 0 ≤ i) (hij : i ≤ j) : leftM P p i ≤ leftM P p j := by
  have : ∀ k : Nat, leftM P p i ≤ leftM P p (i + k) := by
    intro k
    induction k with
    | zero => rw [show i + ((0 : Nat) : Int) = i by omega]; exact Int.le_refl _
    | succ k ih =>
      rw [show i + ((k + 1 : Nat) : Int) = (i + k) + 1 by omega, leftM_s (by omega)]
      split <;> omega
  have := this (j - i).toNat
  rwa [show i + ((j - i).toNat : Int) = j by omega] at this
theorem leftM_lt {P : Int → Int → Int} {p i j : Int} (h : 0 ≤ i) (hij : i < j) (hp : plM P p i) : leftM P p i < leftM P p j := by
  have h1 := leftM_mono (P := P) (p := p) (show 0 ≤ i + 1 by omega) (show i + 1 ≤ j by omega)
  unfold plM at hp
  rw [leftM_s h, if_pos hp] at h1
  omega
theorem leftM_ex {P : Int → Int → Int} {p n k : Int} (hk : 0 ≤ k) (h : 0 ≤ n) (hl : k < leftM P p n) : ∃ i, 0 ≤ i ∧ i < n ∧ plM P p i ∧ leftM P p i = k := by
  have : ∀ j : Nat, k < leftM P p j → ∃ i, 0 ≤ i ∧ i < (j : Int) ∧ plM P p i ∧ leftM P p i = k := by
    intro j
    induction j with
    | zero => intro z; have : leftM P p ((0 : Nat) : Int) = 0 := rfl; omega
    | succ j ih =>
      intro z
      by_cases e : k < leftM P p j
      · obtain ⟨i, h1, h2, h3⟩ := ih e
        exact ⟨i, h1, by omega, h3⟩
      · rw [show ((j + 1 : Nat) : Int) = (j : Int) + 1 by omega, leftM_s (by omega)] at z
        by_cases c : P p 1 ≠ -1 ∧ 0 < P p (14 + (j : Int))
        · rw [if_pos c] at z
          exact ⟨j, by omega, by omega, c, by omega⟩
        · rw [if_neg c] at z
          omega
  have := this n.toNat
  rw [Int.toNat_of_nonneg h] at this
  exact this hl
/-- what is left of p reads as the name of o -/
def readsM (P : Int → Int → Int) (p o n : Int) : Prop := (P p 1 ≠ -1 ∧ leftM P p (P p 0) = P o 0) ∧ ∀ i, 0 ≤ i → i < P p 0 → 0 < P p (14 + i) → leftM P p i < n → P p (8 + i) = P o (2 + leftM P p i)
theorem readsM_0 {P : Int → Int → Int} {p o : Int} : readsM P p o 0 ↔ (P p 1 ≠ -1 ∧ leftM P p (P p 0) = P o 0) := by
  unfold readsM
  refine ⟨fun z => z.1, fun z => ⟨z, fun i h1 h2 h3 h4 => ?_⟩⟩
  have := leftM_le (P := P) (p := p) h1
  omega
theorem readsM_le {P : Int → Int → Int} {p o i n : Int} (h : i ≤ n) (z : readsM P p o n) : readsM P p o i := ⟨z.1, fun j h1 h2 h3 h4 => z.2 j h1 h2 h3 (by omega)⟩
theorem readsM_s {P : Int → Int → Int} {p o i r : Int} (h0 : 0 ≤ i) (h1 : i < P o 0) (hp : 0 ≤ P p 0) (hr : isFst (fun j => plM P p j ∧ leftM P p j = i) (P p 0) r) (ha : readsM P p o i) : readsM P p o (i + 1) ↔ P p (8 + r) = P o (2 + i) := by
  obtain ⟨j, j0, j1, j2, j3⟩ := leftM_ex (P := P) (p := p) (k := i) h0 hp (by rw [ha.1.2]; exact h1)
  have hr9 : r = j := by
    unfold isFst at hr
    rcases hr with ⟨r1, r2⟩ | ⟨r1, r2, r3, r4⟩
    · exact absurd ⟨j2, j3⟩ (r2 j j0 j1)
    · by_cases e1 : r < j
      · have := leftM_lt r1 e1 r3.1
        omega
      · by_cases e2 : j < r
        · exact absurd ⟨j2, j3⟩ (r4 j j0 e2)
        · omega
  subst hr9
  constructor
  · intro z
    have := z.2 r j0 j1 j2.2 (by omega)
    rwa [j3] at this
  · intro z
    refine ⟨ha.1, fun k k0 k1 k2 k3 => ?_⟩
    by_cases e : leftM P p k < i
    · exact ha.2 k k0 k1 k2 e
    · have e9 : leftM P p k = i := by omega
      have : k = r := by
        by_cases e1 : k < r
        · have := leftM_lt k0 e1 ⟨j2.1, k2⟩
          omega
        · by_cases e2 : r < k
          · have := leftM_lt j0 e2 j2
            omega
          · omega
      subst this
      rw [e9]
      exact z
def orN (f : Int → Int) : Nat → Int
  | 0 => 0
  | n + 1 => orI (orN f n) (f n)
def orZ (n : Int) (f : Int → Int) : Int := orN f n.toNat
theorem orZ_s {i : Int} {f : Int → Int} (h : 0 ≤ i) : orZ (i + 1) f = orI (orZ i f) (f i) := by
  unfold orZ
  rw [show (i + 1).toNat = i.toNat + 1 by omega]
  show orI (orN f i.toNat) (f (i.toNat : Int)) = _
  rw [Int.toNat_of_nonneg h]
def xorN (f : Int → Int) : Nat → Int
  | 0 => 0
  | n + 1 => xorI (xorN f n) (f n)
def xorZ (n : Int) (f : Int → Int) : Int := xorN f n.toNat
theorem xorZ_s {i : Int} {f : Int → Int} (h : 0 ≤ i) : xorZ (i + 1) f = xorI (xorZ i f) (f i) := by
  unfold xorZ
  rw [show (i + 1).toNat = i.toNat + 1 by omega]
  show xorI (xorN f i.toNat) (f (i.toNat : Int)) = _
  rw [Int.toNat_of_nonneg h]
section Ref2
variable {tb : Tab} {d : Nat} {m : AM} {K : Out → AM → Prop} {S : Nat → Int → Int}
theorem k217_0 : pg.1 217 0 = [.aload 0, .iload 2, .bipush 2, .invokeinterface 205 3, .aload 0, .iload 2, .invokeinterface 212 2, .isub, .aload 0, .iload 1, .bipush 1, .invokeinterface 206 3, .iload 2, .if_icmp .ne 31, .aload 0, .iload 1, .bipush 0, .invokeinterface 206 3, .goto 32] := rfl
theorem a217_0 {tb : Tab} {d : Nat} {K : Out → AM → Prop} {ls st : List AV} {m : AM} : At tb d 217 K 0 ls st m = wpB tb (pg.2.1 217) (Runs tb pg d) K (At tb d 217 K) [.aload 0, .iload 2, .bipush 2, .invokeinterface 205 3, .aload 0, .iload 2, .invokeinterface 212 2, .isub, .aload 0, .iload 1, .bipush 1, .invokeinterface 206 3, .iload 2, .if_icmp .ne 31, .aload 0, .iload 1, .bipush 0, .invokeinterface 206 3, .goto 32] ls st m := At.eq k217_0
theorem k217_31 : pg.1 217 31 = [.bipush 0, .jsr 32] := rfl
theorem a217_31 {tb : Tab} {d : Nat} {K : Out → AM → Prop} {ls st : List AV} {m : AM} : At tb d 217 K 31 ls st m = wpB tb (pg.2.1 217) (Runs tb pg d) K (At tb d 217 K) [.bipush 0, .jsr 32] ls st m := At.eq k217_31
theorem k217_32 : pg.1 217 32 = [.iadd, .istore 3, .aload 0, .iload 2, .bipush 1, .invokeinterface 205 3, .ifCond .le 57, .aload 0, .iload 1, .bipush 0, .invokeinterface 206 3, .iload 3, .if_icmp .gt 57, .bipush 1, .goto 58] := rfl
theorem a217_32 {tb : Tab} {d : Nat} {K : Out → AM → Prop} {ls st : List AV} {m : AM} : At tb d 217 K 32 ls st m = wpB tb (pg.2.1 217) (Runs tb pg d) K (At tb d 217 K) [.iadd, .istore 3, .aload 0, .iload 2, .bipush 1, .invokeinterface 205 3, .ifCond .le 57, .aload 0, .iload 1, .bipush 0, .invokeinterface 206 3, .iload 3, .if_icmp .gt 57, .bipush 1, .goto 58] ls st m := At.eq k217_32
theorem k217_57 : pg.1 217 57 = [.bipush 0, .jsr 58] := rfl
theorem a217_57 {tb : Tab} {d : Nat} {K : Out → AM → Prop} {ls st : List AV} {m : AM} : At tb d 217 K 57 ls st m = wpB tb (pg.2.1 217) (Runs tb pg d) K (At tb d 217 K) [.bipush 0, .jsr 58] ls st m := At.eq k217_57
theorem k217_58 : pg.1 217 58 = [.freturn] := rfl
theorem a217_58 {tb : Tab} {d : Nat} {K : Out → AM → Prop} {ls st : List AV} {m : AM} : At tb d 217 K 58 ls st m = wpB tb (pg.2.1 217) (Runs tb pg d) K (At tb d 217 K) [.freturn] ls st m := At.eq k217_58
theorem q_217 {p f : Int} (hB : BR S) (hp : 0 ≤ p ∧ p < 6) (hf : 0 ≤ f ∧ f < 6) (hK : ∀ r, yn r (0 < fR S f 1 ∧ oR S p 0 ≤ fR S f 2 - usedM (oR S) (S 301 4) f + (if oR S p 1 = f then oR S p 0 else 0)) → K (.inl (some (vi r))) (X S m)) : Runs tb pg (d + 3) 217 [vr 300, vi p, vi f] (X S m) K := by
  have b4 := hB.2.2.1
  have u := sumZ_le (f := fun p => if oR S p 1 = f then oR S p 0 else 0) (n := S 301 4) (a := 0) (b := 6) b4.1 (fun i z1 z2 => by have := (hB.2.2.2.2.1 i z1 (by omega)).1; split <;> omega)
  have bo := (hB.2.2.2.2.1 p hp.1 hp.2)
  refine Runs.of (al := [vr 300, vi p, vi f]) (n := 1) ⟨300, _, _, rfl, xo_300⟩ rfl rfl trivial ?_
  repeat' (first | refine hK _ ?_ | simp only [w_aload, w_iload, w_iconst, w_call, w_isub, w_ifc, R32, cI, Int.reduceToNat, w_goto, w_fall, w_iadd, w_istore, w_if, w_zreturn, a217_0, a217_31, a217_32, a217_57, a217_58, List.getElem?_cons_zero, List.getElem?_cons_succ, List.set_cons_zero, List.set_cons_succ, List.cons_append, List.nil_append, List.replicate_succ, List.replicate_zero, List.take_succ_cons, List.take_zero, List.drop_succ_cons, List.drop_zero, List.reverse_cons, List.reverse_nil, List.length_cons, List.length_nil, Option.toList, true_and, and_true, eq_self, ↓reduceIte, not_true_eq_false, not_false_eq_true] | refine q_205 hB ?_ ?_ ?_ | refine q_206 hB ?_ ?_ ?_ | refine q_212 hB ?_ ?_ | refine And.intro ?_ ?_ | intro _)
  all_goals (try (first | omega | contradiction | ((try clear hK); (try clear hK0); (try clear hB); (try clear h9); (try clear h8); (try clear h7); first | omega | grind [yn, usedM])))
theorem k266_0 : pg.1 266 0 = [.bipush 0, .istore 1, .bipush 0, .istore 2, .jsr 4] := rfl
theorem a266_0 {tb : Tab} {d : Nat} {K : Out → AM → Prop} {ls st : List AV} {m : AM} : At tb d 266 K 0 ls st m = wpB tb (pg.2.1 266) (Runs tb pg d) K (At tb d 266 K) [.bipush 0, .istore 1, .bipush 0, .istore 2, .jsr 4] ls st m := At.eq k266_0
theorem k266_4 : pg.1 266 4 = [.iload 2, .aload 0, .getfield 1001, .bipush 3, .iaload, .if_icmp .ge 29, .iload 1, .aload 0, .iload 2, .bipush 1, .invokeinterface 205 3, .iadd, .istore 1, .iinc 2 1, .goto 4] := rfl
theorem a266_4 {tb : Tab} {d : Nat} {K : Out → AM → Prop} {ls st : List AV} {m : AM} : At tb d 266 K 4 ls st m = wpB tb (pg.2.1 266) (Runs tb pg d) K (At tb d 266 K) [.iload 2, .aload 0, .getfield 1001, .bipush 3, .iaload, .if_icmp .ge 29, .iload 1, .aload 0, .iload 2, .bipush 1, .invokeinterface 205 3, .iadd, .istore 1, .iinc 2 1, .goto 4] ls st m := At.eq k266_4
theorem k266_29 : pg.1 266 29 = [.iload 1, .ireturn] := rfl
theorem a266_29 {tb : Tab} {d : Nat} {K : Out → AM → Prop} {ls st : List AV} {m : AM} : At tb d 266 K 29 ls st m = wpB tb (pg.2.1 266) (Runs tb pg d) K (At tb d 266 K) [.iload 1, .ireturn] ls st m := At.eq k266_29
theorem q_266 (hB : BR S) (hK : ∀ r, r = sumZ (S 301 3) (fun f => fR S f 1) → K (.inl (some (vi r))) (X S m)) : Runs tb pg (d + 2) 266 [vr 300] (X S m) K := by
  have b3 := hB.2.1
  have hL4 : (fun i : Int => ∀ (a : Int), a = sumZ i (fun f => fR S f 1) → At tb (d + 1) 266 K 4 [vr 300, vi a, vi i] [] (X S m)) 0 := by
    refine loopZ (fun i : Int => ∀ (a : Int), a = sumZ i (fun f => fR S f 1) → At tb (d + 1) 266 K 4 [vr 300, vi a, vi i] [] (X S m)) (S 301 3) (by omega) ?_ ?_
    · intro i h0 h1 h9 a ha
      rw [a266_4]
      repeat' (first | refine h9 _ ?_ | simp only [w_iconst, w_istore, w_fall, Int.reduceToNat, w_iload, w_aload, x_g1001_300, x_iald, w_ialoads, w_ialoadw, w_ifc, R32, cI, w_call, w_iadd, w_iinc, lgB, Nat.reduceSub, w_goto, w_ireturn, isA_301, isA_302, isA_303, isA_304, isA_305, isA_306, isA_307, isA_308, isA_309, isA_310, isA_311, isA_312, isA_313, isA_314, isA_315, len_301, len_302, len_303, len_304, len_305, len_306, len_307, len_308, len_309, len_310, len_311, len_312, len_313, len_314, len_315, Int.cast_ofNat_Int, a266_0, a266_29, List.getElem?_cons_zero, List.getElem?_cons_succ, List.set_cons_zero, List.set_cons_succ, List.cons_append, List.nil_append, List.replicate_succ, List.replicate_zero, List.take_succ_cons, List.take_zero, List.drop_succ_cons, List.drop_zero, List.reverse_cons, List.reverse_nil, List.length_cons, List.length_nil, Option.toList, true_and, and_true, eq_self, ↓reduceIte, not_true_eq_false, not_false_eq_true] | refine q_205 hB ?_ ?_ ?_ | refine And.intro ?_ ?_ | intro _)
      all_goals (try (first | omega | contradiction | ((try clear hK); (try clear hK0); (try clear hB); (try clear h9); (try clear h8); (try clear h7); first | omega | grind [sumZ_s])))
    · intro a ha
      rw [a266_4]
      repeat' (first | refine hK _ ?_ | simp only [w_iconst, w_istore, w_fall, Int.reduceToNat, w_iload, w_aload, x_g1001_300, x_iald, w_ialoads, w_ialoadw, w_ifc, R32, cI, w_call, w_iadd, w_iinc, lgB, Nat.reduceSub, w_goto, w_ireturn, isA_301, isA_302, isA_303, isA_304, isA_305, isA_306, isA_307, isA_308, isA_309, isA_310, isA_311, isA_312, isA_313, isA_314, isA_315, len_301, len_302, len_303, len_304, len_305, len_306, len_307, len_308, len_309, len_310, len_311, len_312, len_313, len_314, len_315, Int.cast_ofNat_Int, a266_0, a266_29, List.getElem?_cons_zero, List.getElem?_cons_succ, List.set_cons_zero, List.set_cons_succ, List.cons_append, List.nil_append, List.replicate_succ, List.replicate_zero, List.take_succ_cons, List.take_zero, List.drop_succ_cons, List.drop_zero, List.reverse_cons, List.reverse_nil, List.length_cons, List.length_nil, Option.toList, true_and, and_true, eq_self, ↓reduceIte, not_true_eq_false, not_false_eq_true] | refine q_205 hB ?_ ?_ ?_ | refine And.intro ?_ ?_ | intro _)
      all_goals (try (first | omega | contradiction | ((try clear hK); (try clear hK0); (try clear hB); (try clear h9); (try clear h8); (try clear h7); first | omega | grind)))
  refine Runs.of (al := [vr 300]) (n := 2) ⟨300, _, _, rfl, xo_300⟩ rfl rfl trivial ?_
  repeat' (first | refine hL4 _ ?_ | simp only [w_iconst, w_istore, w_fall, Int.reduceToNat, w_iload, w_aload, x_g1001_300, x_iald, w_ialoads, w_ialoadw, w_ifc, R32, cI, w_call, w_iadd, w_iinc, lgB, Nat.reduceSub, w_goto, w_ireturn, isA_301, isA_302, isA_303, isA_304, isA_305, isA_306, isA_307, isA_308, isA_309, isA_310, isA_311, isA_312, isA_313, isA_314, isA_315, len_301, len_302, len_303, len_304, len_305, len_306, len_307, len_308, len_309, len_310, len_311, len_312, len_313, len_314, len_315, Int.cast_ofNat_Int, a266_0, a266_29, List.getElem?_cons_zero, List.getElem?_cons_succ, List.set_cons_zero, List.set_cons_succ, List.cons_append, List.nil_append, List.replicate_succ, List.replicate_zero, List.take_succ_cons, List.take_zero, List.drop_succ_cons, List.drop_zero, List.reverse_cons, List.reverse_nil, List.length_cons, List.length_nil, Option.toList, true_and, and_true, eq_self, ↓reduceIte, not_true_eq_false, not_false_eq_true] | refine q_205 hB ?_ ?_ ?_ | refine And.intro ?_ ?_ | intro _)
  all_goals (try (first | omega | contradiction | ((try clear hK); (try clear hK0); (try clear hB); (try clear h9); (try clear h8); (try clear h7); first | omega | rfl)))
theorem k267_0 : pg.1 267 0 = [.bipush 0, .istore 2, .bipush 0, .istore 3, .jsr 4] := rfl
theorem a267_0 {tb : Tab} {d : Nat} {K : Out → AM → Prop} {ls st : List AV} {m : AM} : At tb d 267 K 0 ls st m = wpB tb (pg.2.1 267) (Runs tb pg d) K (At tb d 267 K) [.bipush 0, .istore 2, .bipush 0, .istore 3, .jsr 4] ls st m := At.eq k267_0
theorem k267_4 : pg.1 267 4 = [.iload 3, .aload 0, .getfield 1001, .bipush 4, .iaload, .if_icmp .ge 40, .iload 2, .aload 0, .iload 3, .bipush 1, .invokeinterface 206 3, .iload 1, .if_icmp .ne 31, .bipush 1, .iload 3, .ishl, .goto 32] := rfl
theorem a267_4 {tb : Tab} {d : Nat} {K : Out → AM → Prop} {ls st : List AV} {m : AM} : At tb d 267 K 4 ls st m = wpB tb (pg.2.1 267) (Runs tb pg d) K (At tb d 267 K) [.iload 3, .aload 0, .getfield 1001, .bipush 4, .iaload, .if_icmp .ge 40, .iload 2, .aload 0, .iload 3, .bipush 1, .invokeinterface 206 3, .iload 1, .if_icmp .ne 31, .bipush 1, .iload 3, .ishl, .goto 32] ls st m := At.eq k267_4
theorem k267_31 : pg.1 267 31 = [.bipush 0, .jsr 32] := rfl
theorem a267_31 {tb : Tab} {d : Nat} {K : Out → AM → Prop} {ls st : List AV} {m : AM} : At tb d 267 K 31 ls st m = wpB tb (pg.2.1 267) (Runs tb pg d) K (At tb d 267 K) [.bipush 0, .jsr 32] ls st m := At.eq k267_31
theorem k267_32 : pg.1 267 32 = [.ior, .istore 2, .iinc 3 1, .goto 4] := rfl
theorem a267_32 {tb : Tab} {d : Nat} {K : Out → AM → Prop} {ls st : List AV} {m : AM} : At tb d 267 K 32 ls st m = wpB tb (pg.2.1 267) (Runs tb pg d) K (At tb d 267 K) [.ior, .istore 2, .iinc 3 1, .goto 4] ls st m := At.eq k267_32
theorem k267_40 : pg.1 267 40 = [.iload 2, .ireturn] := rfl
theorem a267_40 {tb : Tab} {d : Nat} {K : Out → AM → Prop} {ls st : List AV} {m : AM} : At tb d 267 K 40 ls st m = wpB tb (pg.2.1 267) (Runs tb pg d) K (At tb d 267 K) [.iload 2, .ireturn] ls st m := At.eq k267_40
theorem q_267 {f : Int} (hB : BR S) (hf : R32 f) (hK : ∀ r, r = setZ (S 301 4) (fun p => oR S p 1 = f) → K (.inl (some (vi r))) (X S m)) : Runs tb pg (d + 2) 267 [vr 300, vi f] (X S m) K := by
  unfold R32 at hf
  have b4 := hB.2.2.1
  have hL4 : (fun i : Int => ∀ (a : Int), a = setZ i (fun p => oR S p 1 = f) → At tb (d + 1) 267 K 4 [vr 300, vi f, vi a, vi i] [] (X S m)) 0 := by
    refine loopZ (fun i : Int => ∀ (a : Int), a = setZ i (fun p => oR S p 1 = f) → At tb (d + 1) 267 K 4 [vr 300, vi f, vi a, vi i] [] (X S m)) (S 301 4) (by omega) ?_ ?_
    · intro i h0 h1 h9 a ha
      rw [a267_4]
      repeat' (first | refine h9 _ ?_ | simp only [w_iconst, w_istore, w_fall, Int.reduceToNat, w_iload, w_aload, x_g1001_300, x_iald, w_ialoads, w_ialoadw, w_ifc, R32, cI, w_call, w_ishl, w_goto, w_ior, w_iinc, lgB, Nat.reduceSub, w_ireturn, isA_301, isA_302, isA_303, isA_304, isA_305, isA_306, isA_307, isA_308, isA_309, isA_310, isA_311, isA_312, isA_313, isA_314, isA_315, len_301, len_302, len_303, len_304, len_305, len_306, len_307, len_308, len_309, len_310, len_311, len_312, len_313, len_314, len_315, Int.cast_ofNat_Int, a267_0, a267_31, a267_32, a267_40, List.getElem?_cons_zero, List.getElem?_cons_succ, List.set_cons_zero, List.set_cons_succ, List.cons_append, List.nil_append, List.replicate_succ, List.replicate_zero, List.take_succ_cons, List.take_zero, List.drop_succ_cons, List.drop_zero, List.reverse_cons, List.reverse_nil, List.length_cons, List.length_nil, Option.toList, true_and, and_true, eq_self, ↓reduceIte, not_true_eq_false, not_false_eq_true] | refine q_206 hB ?_ ?_ ?_ | refine And.intro ?_ ?_ | intro _)
      all_goals (try (first | omega | contradiction | ((try clear hK); (try clear hK0); (try clear hB); (try clear h9); (try clear h8); (try clear h7); first | omega | (((with_reducible refine setZ_yes h0 ?_ ha ?_) <;> first | omega | grind); done) | (((with_reducible refine setZ_no0 h0 ?_ ha ?_) <;> first | omega | grind); done) | (((with_reducible refine setZ_no h0 ha ?_) <;> first | omega | grind); done) | grind)))
    · intro a ha
      rw [a267_4]
      repeat' (first | refine hK _ ?_ | simp only [w_iconst, w_istore, w_fall, Int.reduceToNat, w_iload, w_aload, x_g1001_300, x_iald, w_ialoads, w_ialoadw, w_ifc, R32, cI, w_call, w_ishl, w_goto, w_ior, w_iinc, lgB, Nat.reduceSub, w_ireturn, isA_301, isA_302, isA_303, isA_304, isA_305, isA_306, isA_307, isA_308, isA_309, isA_310, isA_311, isA_312, isA_313, isA_314, isA_315, len_301, len_302, len_303, len_304, len_305, len_306, len_307, len_308, len_309, len_310, len_311, len_312, len_313, len_314, len_315, Int.cast_ofNat_Int, a267_0, a267_31, a267_32, a267_40, List.getElem?_cons_zero, List.getElem?_cons_succ, List.set_cons_zero, List.set_cons_succ, List.cons_append, List.nil_append, List.replicate_succ, List.replicate_zero, List.take_succ_cons, List.take_zero, List.drop_succ_cons, List.drop_zero, List.reverse_cons, List.reverse_nil, List.length_cons, List.length_nil, Option.toList, true_and, and_true, eq_self, ↓reduceIte, not_true_eq_false, not_false_eq_true] | refine q_206 hB ?_ ?_ ?_ | refine And.intro ?_ ?_ | intro _)
      all_goals (try (first | omega | contradiction | ((try clear hK); (try clear hK0); (try clear hB); (try clear h9); (try clear h8); (try clear h7); first | omega | grind)))
  refine Runs.of (al := [vr 300, vi f]) (n := 2) ⟨300, _, _, rfl, xo_300⟩ rfl rfl trivial ?_
  repeat' (first | refine hL4 _ ?_ | simp only [w_iconst, w_istore, w_fall, Int.reduceToNat, w_iload, w_aload, x_g1001_300, x_iald, w_ialoads, w_ialoadw, w_ifc, R32, cI, w_call, w_ishl, w_goto, w_ior, w_iinc, lgB, Nat.reduceSub, w_ireturn, isA_301, isA_302, isA_303, isA_304, isA_305, isA_306, isA_307, isA_308, isA_309, isA_310, isA_311, isA_312, isA_313, isA_314, isA_315, len_301, len_302, len_303, len_304, len_305, len_306, len_307, len_308, len_309, len_310, len_311, len_312, len_313, len_314, len_315, Int.cast_ofNat_Int, a267_0, a267_31, a267_32, a267_40, List.getElem?_cons_zero, List.getElem?_cons_succ, List.set_cons_zero, List.set_cons_succ, List.cons_append, List.nil_append, List.replicate_succ, List.replicate_zero, List.take_succ_cons, List.take_zero, List.drop_succ_cons, List.drop_zero, List.reverse_cons, List.reverse_nil, List.length_cons, List.length_nil, Option.toList, true_and, and_true, eq_self, ↓reduceIte, not_true_eq_false, not_false_eq_true] | refine q_206 hB ?_ ?_ ?_ | refine And.intro ?_ ?_ | intro _)
  all_goals (try (first | omega | contradiction | ((try clear hK); (try clear hK0); (try clear hB); (try clear h9); (try clear h8); (try clear h7); first | omega | rfl)))
theorem k259_0 : pg.1 259 0 = [.bipush 0, .istore 1, .bipush 0, .istore 2, .jsr 4] := rfl
theorem a259_0 {tb : Tab} {d : Nat} {K : Out → AM → Prop} {ls st : List AV} {m : AM} : At tb d 259 K 0 ls st m = wpB tb (pg.2.1 259) (Runs tb pg d) K (At tb d 259 K) [.bipush 0, .istore 1, .bipush 0, .istore 2, .jsr 4] ls st m := At.eq k259_0
theorem k259_4 : pg.1 259 4 = [.iload 2, .aload 0, .getfield 1001, .bipush 4, .iaload, .if_icmp .ge 38, .iload 1, .aload 0, .iload 2, .invokeinterface 211 2, .ifCond .eq 29, .bipush 1, .iload 2, .ishl, .goto 30] := rfl
theorem a259_4 {tb : Tab} {d : Nat} {K : Out → AM → Prop} {ls st : List AV} {m : AM} : At tb d 259 K 4 ls st m = wpB tb (pg.2.1 259) (Runs tb pg d) K (At tb d 259 K) [.iload 2, .aload 0, .getfield 1001, .bipush 4, .iaload, .if_icmp .ge 38, .iload 1, .aload 0, .iload 2, .invokeinterface 211 2, .ifCond .eq 29, .bipush 1, .iload 2, .ishl, .goto 30] ls st m := At.eq k259_4
theorem k259_29 : pg.1 259 29 = [.bipush 0, .jsr 30] := rfl
theorem a259_29 {tb : Tab} {d : Nat} {K : Out → AM → Prop} {ls st : List AV} {m : AM} : At tb d 259 K 29 ls st m = wpB tb (pg.2.1 259) (Runs tb pg d) K (At tb d 259 K) [.bipush 0, .jsr 30] ls st m := At.eq k259_29
theorem k259_30 : pg.1 259 30 = [.ior, .istore 1, .iinc 2 1, .goto 4] := rfl
theorem a259_30 {tb : Tab} {d : Nat} {K : Out → AM → Prop} {ls st : List AV} {m : AM} : At tb d 259 K 30 ls st m = wpB tb (pg.2.1 259) (Runs tb pg d) K (At tb d 259 K) [.ior, .istore 1, .iinc 2 1, .goto 4] ls st m := At.eq k259_30
theorem k259_38 : pg.1 259 38 = [.iload 1, .ireturn] := rfl
theorem a259_38 {tb : Tab} {d : Nat} {K : Out → AM → Prop} {ls st : List AV} {m : AM} : At tb d 259 K 38 ls st m = wpB tb (pg.2.1 259) (Runs tb pg d) K (At tb d 259 K) [.iload 1, .ireturn] ls st m := At.eq k259_38
theorem q_259 (hB : BR S) (hK : ∀ r, r = setZ (S 301 4) (fun p => oR S p 1 ≠ -1) → K (.inl (some (vi r))) (X S m)) : Runs tb pg (d + 3) 259 [vr 300] (X S m) K := by
  have b4 := hB.2.2.1
  have hL4 : (fun i : Int => ∀ (a : Int), a = setZ i (fun p => oR S p 1 ≠ -1) → At tb (d + 2) 259 K 4 [vr 300, vi a, vi i] [] (X S m)) 0 := by
    refine loopZ (fun i : Int => ∀ (a : Int), a = setZ i (fun p => oR S p 1 ≠ -1) → At tb (d + 2) 259 K 4 [vr 300, vi a, vi i] [] (X S m)) (S 301 4) (by omega) ?_ ?_
    · intro i h0 h1 h9 a ha
      rw [a259_4]
      repeat' (first | refine h9 _ ?_ | simp only [w_iconst, w_istore, w_fall, Int.reduceToNat, w_iload, w_aload, x_g1001_300, x_iald, w_ialoads, w_ialoadw, w_ifc, R32, cI, w_call, w_if, w_ishl, w_goto, w_ior, w_iinc, lgB, Nat.reduceSub, w_ireturn, isA_301, isA_302, isA_303, isA_304, isA_305, isA_306, isA_307, isA_308, isA_309, isA_310, isA_311, isA_312, isA_313, isA_314, isA_315, len_301, len_302, len_303, len_304, len_305, len_306, len_307, len_308, len_309, len_310, len_311, len_312, len_313, len_314, len_315, Int.cast_ofNat_Int, a259_0, a259_29, a259_30, a259_38, List.getElem?_cons_zero, List.getElem?_cons_succ, List.set_cons_zero, List.set_cons_succ, List.cons_append, List.nil_append, List.replicate_succ, List.replicate_zero, List.take_succ_cons, List.take_zero, List.drop_succ_cons, List.drop_zero, List.reverse_cons, List.reverse_nil, List.length_cons, List.length_nil, Option.toList, true_and, and_true, eq_self, ↓reduceIte, not_true_eq_false, not_false_eq_true] | refine q_211 hB ?_ ?_ | refine And.intro ?_ ?_ | intro _)
      all_goals (try (first | omega | contradiction | ((try clear hK); (try clear hK0); (try clear hB); (try clear h9); (try clear h8); (try clear h7); first | omega | (((with_reducible refine setZ_yes h0 ?_ ha ?_) <;> first | omega | grind); done) | (((with_reducible refine setZ_no0 h0 ?_ ha ?_) <;> first | omega | grind); done) | (((with_reducible refine setZ_no h0 ha ?_) <;> first | omega | grind); done) | grind)))
    · intro a ha
      rw [a259_4]
      repeat' (first | refine hK _ ?_ | simp only [w_iconst, w_istore, w_fall, Int.reduceToNat, w_iload, w_aload, x_g1001_300, x_iald, w_ialoads, w_ialoadw, w_ifc, R32, cI, w_call, w_if, w_ishl, w_goto, w_ior, w_iinc, lgB, Nat.reduceSub, w_ireturn, isA_301, isA_302, isA_303, isA_304, isA_305, isA_306, isA_307, isA_308, isA_309, isA_310, isA_311, isA_312, isA_313, isA_314, isA_315, len_301, len_302, len_303, len_304, len_305, len_306, len_307, len_308, len_309, len_310, len_311, len_312, len_313, len_314, len_315, Int.cast_ofNat_Int, a259_0, a259_29, a259_30, a259_38, List.getElem?_cons_zero, List.getElem?_cons_succ, List.set_cons_zero, List.set_cons_succ, List.cons_append, List.nil_append, List.replicate_succ, List.replicate_zero, List.take_succ_cons, List.take_zero, List.drop_succ_cons, List.drop_zero, List.reverse_cons, List.reverse_nil, List.length_cons, List.length_nil, Option.toList, true_and, and_true, eq_self, ↓reduceIte, not_true_eq_false, not_false_eq_true] | refine q_211 hB ?_ ?_ | refine And.intro ?_ ?_ | intro _)
      all_goals (try (first | omega | contradiction | ((try clear hK); (try clear hK0); (try clear hB); (try clear h9); (try clear h8); (try clear h7); first | omega | grind)))
  refine Runs.of (al := [vr 300]) (n := 2) ⟨300, _, _, rfl, xo_300⟩ rfl rfl trivial ?_
  repeat' (first | refine hL4 _ ?_ | simp only [w_iconst, w_istore, w_fall, Int.reduceToNat, w_iload, w_aload, x_g1001_300, x_iald, w_ialoads, w_ialoadw, w_ifc, R32, cI, w_call, w_if, w_ishl, w_goto, w_ior, w_iinc, lgB, Nat.reduceSub, w_ireturn, isA_301, isA_302, isA_303, isA_304, isA_305, isA_306, isA_307, isA_308, isA_309, isA_310, isA_311, isA_312, isA_313, isA_314, isA_315, len_301, len_302, len_303, len_304, len_305, len_306, len_307, len_308, len_309, len_310, len_311, len_312, len_313, len_314, len_315, Int.cast_ofNat_Int, a259_0, a259_29, a259_30, a259_38, List.getElem?_cons_zero, List.getElem?_cons_succ, List.set_cons_zero, List.set_cons_succ, List.cons_append, List.nil_append, List.replicate_succ, List.replicate_zero, List.take_succ_cons, List.take_zero, List.drop_succ_cons, List.drop_zero, List.reverse_cons, List.reverse_nil, List.length_cons, List.length_nil, Option.toList, true_and, and_true, eq_self, ↓reduceIte, not_true_eq_false, not_false_eq_true] | refine q_211 hB ?_ ?_ | refine And.intro ?_ ?_ | intro _)
  all_goals (try (first | omega | contradiction | ((try clear hK); (try clear hK0); (try clear hB); (try clear h9); (try clear h8); (try clear h7); first | omega | rfl)))
theorem k260_0 : pg.1 260 0 = [.bipush 0, .istore 1, .bipush 0, .istore 2, .jsr 4] := rfl
theorem a260_0 {tb : Tab} {d : Nat} {K : Out → AM → Prop} {ls st : List AV} {m : AM} : At tb d 260 K 0 ls st m = wpB tb (pg.2.1 260) (Runs tb pg d) K (At tb d 260 K) [.bipush 0, .istore 1, .bipush 0, .istore 2, .jsr 4] ls st m := At.eq k260_0
theorem k260_4 : pg.1 260 4 = [.iload 2, .aload 0, .getfield 1001, .bipush 4, .iaload, .if_icmp .ge 38, .iload 1, .aload 0, .iload 2, .invokeinterface 214 2, .ifCond .eq 29, .bipush 1, .iload 2, .ishl, .goto 30] := rfl
theorem a260_4 {tb : Tab} {d : Nat} {K : Out → AM → Prop} {ls st : List AV} {m : AM} : At tb d 260 K 4 ls st m = wpB tb (pg.2.1 260) (Runs tb pg d) K (At tb d 260 K) [.iload 2, .aload 0, .getfield 1001, .bipush 4, .iaload, .if_icmp .ge 38, .iload 1, .aload 0, .iload 2, .invokeinterface 214 2, .ifCond .eq 29, .bipush 1, .iload 2, .ishl, .goto 30] ls st m := At.eq k260_4
theorem k260_29 : pg.1 260 29 = [.bipush 0, .jsr 30] := rfl
theorem a260_29 {tb : Tab} {d : Nat} {K : Out → AM → Prop} {ls st : List AV} {m : AM} : At tb d 260 K 29 ls st m = wpB tb (pg.2.1 260) (Runs tb pg d) K (At tb d 260 K) [.bipush 0, .jsr 30] ls st m := At.eq k260_29
theorem k260_30 : pg.1 260 30 = [.ior, .istore 1, .iinc 2 1, .goto 4] := rfl
theorem a260_30 {tb : Tab} {d : Nat} {K : Out → AM → Prop} {ls st : List AV} {m : AM} : At tb d 260 K 30 ls st m = wpB tb (pg.2.1 260) (Runs tb pg d) K (At tb d 260 K) [.ior, .istore 1, .iinc 2 1, .goto 4] ls st m := At.eq k260_30
theorem k260_38 : pg.1 260 38 = [.iload 1, .ireturn] := rfl
theorem a260_38 {tb : Tab} {d : Nat} {K : Out → AM → Prop} {ls st : List AV} {m : AM} : At tb d 260 K 38 ls st m = wpB tb (pg.2.1 260) (Runs tb pg d) K (At tb d 260 K) [.iload 1, .ireturn] ls st m := At.eq k260_38
theorem q_260 (hB : BR S) (hK : ∀ r, r = setZ (S 301 4) (fun p => wholeM (oR S) p (oR S p 0)) → K (.inl (some (vi r))) (X S m)) : Runs tb pg (d + 4) 260 [vr 300] (X S m) K := by
  have b4 := hB.2.2.1
  have hL4 : (fun i : Int => ∀ (a : Int), a = setZ i (fun p => wholeM (oR S) p (oR S p 0)) → At tb (d + 3) 260 K 4 [vr 300, vi a, vi i] [] (X S m)) 0 := by
    refine loopZ (fun i : Int => ∀ (a : Int), a = setZ i (fun p => wholeM (oR S) p (oR S p 0)) → At tb (d + 3) 260 K 4 [vr 300, vi a, vi i] [] (X S m)) (S 301 4) (by omega) ?_ ?_
    · intro i h0 h1 h9 a ha
      rw [a260_4]
      repeat' (first | refine h9 _ ?_ | simp only [w_iconst, w_istore, w_fall, Int.reduceToNat, w_iload, w_aload, x_g1001_300, x_iald, w_ialoads, w_ialoadw, w_ifc, R32, cI, w_call, w_if, w_ishl, w_goto, w_ior, w_iinc, lgB, Nat.reduceSub, w_ireturn, isA_301, isA_302, isA_303, isA_304, isA_305, isA_306, isA_307, isA_308, isA_309, isA_310, isA_311, isA_312, isA_313, isA_314, isA_315, len_301, len_302, len_303, len_304, len_305, len_306, len_307, len_308, len_309, len_310, len_311, len_312, len_313, len_314, len_315, Int.cast_ofNat_Int, a260_0, a260_29, a260_30, a260_38, List.getElem?_cons_zero, List.getElem?_cons_succ, List.set_cons_zero, List.set_cons_succ, List.cons_append, List.nil_append, List.replicate_succ, List.replicate_zero, List.take_succ_cons, List.take_zero, List.drop_succ_cons, List.drop_zero, List.reverse_cons, List.reverse_nil, List.length_cons, List.length_nil, Option.toList, true_and, and_true, eq_self, ↓reduceIte, not_true_eq_false, not_false_eq_true] | refine q_214 hB ?_ ?_ | refine And.intro ?_ ?_ | intro _)
      all_goals (try (first | omega | contradiction | ((try clear hK); (try clear hK0); (try clear hB); (try clear h9); (try clear h8); (try clear h7); first | omega | (((with_reducible refine setZ_yes h0 ?_ ha ?_) <;> first | omega | grind [yn]); done) | (((with_reducible refine setZ_no0 h0 ?_ ha ?_) <;> first | omega | grind [yn]); done) | (((with_reducible refine setZ_no h0 ha ?_) <;> first | omega | grind [yn]); done) | grind [yn])))
    · intro a ha
      rw [a260_4]
      repeat' (first | refine hK _ ?_ | simp only [w_iconst, w_istore, w_fall, Int.reduceToNat, w_iload, w_aload, x_g1001_300, x_iald, w_ialoads, w_ialoadw, w_ifc, R32, cI, w_call, w_if, w_ishl, w_goto, w_ior, w_iinc, lgB, Nat.reduceSub, w_ireturn, isA_301, isA_302, isA_303, isA_304, isA_305, isA_306, isA_307, isA_308, isA_309, isA_310, isA_311, isA_312, isA_313, isA_314, isA_315, len_301, len_302, len_303, len_304, len_305, len_306, len_307, len_308, len_309, len_310, len_311, len_312, len_313, len_314, len_315, Int.cast_ofNat_Int, a260_0, a260_29, a260_30, a260_38, List.getElem?_cons_zero, List.getElem?_cons_succ, List.set_cons_zero, List.set_cons_succ, List.cons_append, List.nil_append, List.replicate_succ, List.replicate_zero, List.take_succ_cons, List.take_zero, List.drop_succ_cons, List.drop_zero, List.reverse_cons, List.reverse_nil, List.length_cons, List.length_nil, Option.toList, true_and, and_true, eq_self, ↓reduceIte, not_true_eq_false, not_false_eq_true] | refine q_214 hB ?_ ?_ | refine And.intro ?_ ?_ | intro _)
      all_goals (try (first | omega | contradiction | ((try clear hK); (try clear hK0); (try clear hB); (try clear h9); (try clear h8); (try clear h7); first | omega | grind)))
  refine Runs.of (al := [vr 300]) (n := 2) ⟨300, _, _, rfl, xo_300⟩ rfl rfl trivial ?_
  repeat' (first | refine hL4 _ ?_ | simp only [w_iconst, w_istore, w_fall, Int.reduceToNat, w_iload, w_aload, x_g1001_300, x_iald, w_ialoads, w_ialoadw, w_ifc, R32, cI, w_call, w_if, w_ishl, w_goto, w_ior, w_iinc, lgB, Nat.reduceSub, w_ireturn, isA_301, isA_302, isA_303, isA_304, isA_305, isA_306, isA_307, isA_308, isA_309, isA_310, isA_311, isA_312, isA_313, isA_314, isA_315, len_301, len_302, len_303, len_304, len_305, len_306, len_307, len_308, len_309, len_310, len_311, len_312, len_313, len_314, len_315, Int.cast_ofNat_Int, a260_0, a260_29, a260_30, a260_38, List.getElem?_cons_zero, List.getElem?_cons_succ, List.set_cons_zero, List.set_cons_succ, List.cons_append, List.nil_append, List.replicate_succ, List.replicate_zero, List.take_succ_cons, List.take_zero, List.drop_succ_cons, List.drop_zero, List.reverse_cons, List.reverse_nil, List.length_cons, List.length_nil, Option.toList, true_and, and_true, eq_self, ↓reduceIte, not_true_eq_false, not_false_eq_true] | refine q_214 hB ?_ ?_ | refine And.intro ?_ ?_ | intro _)
  all_goals (try (first | omega | contradiction | ((try clear hK); (try clear hK0); (try clear hB); (try clear h9); (try clear h8); (try clear h7); first | omega | rfl)))
theorem k261_0 : pg.1 261 0 = [.bipush 0, .istore 2, .iload 1, .istore 3, .jsr 4] := rfl
theorem a261_0 {tb : Tab} {d : Nat} {K : Out → AM → Prop} {ls st : List AV} {m : AM} : At tb d 261 K 0 ls st m = wpB tb (pg.2.1 261) (Runs tb pg d) K (At tb d 261 K) [.bipush 0, .istore 2, .iload 1, .istore 3, .jsr 4] ls st m := At.eq k261_0
theorem k261_4 : pg.1 261 4 = [.iload 0, .iload 2, .invokeinterface 203 2, .ifCond .eq 16, .iload 3, .ifCond .le 38, .jsr 16] := rfl
theorem a261_4 {tb : Tab} {d : Nat} {K : Out → AM → Prop} {ls st : List AV} {m : AM} : At tb d 261 K 4 ls st m = wpB tb (pg.2.1 261) (Runs tb pg d) K (At tb d 261 K) [.iload 0, .iload 2, .invokeinterface 203 2, .ifCond .eq 16, .iload 3, .ifCond .le 38, .jsr 16] ls st m := At.eq k261_4
theorem k261_16 : pg.1 261 16 = [.iload 3, .iload 0, .iload 2, .invokeinterface 203 2, .ifCond .eq 29, .bipush 1, .goto 30] := rfl
theorem a261_16 {tb : Tab} {d : Nat} {K : Out → AM → Prop} {ls st : List AV} {m : AM} : At tb d 261 K 16 ls st m = wpB tb (pg.2.1 261) (Runs tb pg d) K (At tb d 261 K) [.iload 3, .iload 0, .iload 2, .invokeinterface 203 2, .ifCond .eq 29, .bipush 1, .goto 30] ls st m := At.eq k261_16
theorem k261_29 : pg.1 261 29 = [.bipush 0, .jsr 30] := rfl
theorem a261_29 {tb : Tab} {d : Nat} {K : Out → AM → Prop} {ls st : List AV} {m : AM} : At tb d 261 K 29 ls st m = wpB tb (pg.2.1 261) (Runs tb pg d) K (At tb d 261 K) [.bipush 0, .jsr 30] ls st m := At.eq k261_29
theorem k261_30 : pg.1 261 30 = [.isub, .istore 3, .iinc 2 1, .goto 4] := rfl
theorem a261_30 {tb : Tab} {d : Nat} {K : Out → AM → Prop} {ls st : List AV} {m : AM} : At tb d 261 K 30 ls st m = wpB tb (pg.2.1 261) (Runs tb pg d) K (At tb d 261 K) [.isub, .istore 3, .iinc 2 1, .goto 4] ls st m := At.eq k261_30
theorem k261_38 : pg.1 261 38 = [.iload 2, .ireturn] := rfl
theorem a261_38 {tb : Tab} {d : Nat} {K : Out → AM → Prop} {ls st : List AV} {m : AM} : At tb d 261 K 38 ls st m = wpB tb (pg.2.1 261) (Runs tb pg d) K (At tb d 261 K) [.iload 2, .ireturn] ls st m := At.eq k261_38
theorem q_261 {s n : Int} (hn0 : 0 ≤ n) (hn : n < bitsM s 31) (hK : ∀ r, 0 ≤ r → r < 31 → bitB s r → bitsM s r = n → K (.inl (some (vi r))) m) : Runs tb pg (d + 2) 261 [vi s, vi n] m K := by
  have hb9 := bits_le s
  have hL4 : (fun i : Int => ∀ (a : Int), a = n - bitsM s i → (bitsM s i ≤ n) → At tb (d + 1) 261 K 4 [vi s, vi n, vi i, vi a] [] m) 0 := by
    refine loopZ (fun i : Int => ∀ (a : Int), a = n - bitsM s i → (bitsM s i ≤ n) → At tb (d + 1) 261 K 4 [vi s, vi n, vi i, vi a] [] m) (31) (by omega) ?_ ?_
    · intro i h0 h1 h9 a ha hb
      have q1 := andI_1 (shrI s i)
      have q2 : bitsM s (i + 1) = bitsM s i + andI (shrI s i) 1 := sumZ_s h0
      have q3 := bitsM_le (s := s) h0
      rw [a261_4]
      repeat' (first | refine h9 _ ?_ ?_ | refine hK _ (by omega) (by omega) (by assumption) (by omega) | simp only [w_iconst, w_istore, w_iload, w_fall, Int.reduceToNat, w_call, w_if, R32, cI, w_goto, w_isub, w_iinc, lgB, Nat.reduceSub, w_ireturn, a261_0, a261_16, a261_29, a261_30, a261_38, List.getElem?_cons_zero, List.getElem?_cons_succ, List.set_cons_zero, List.set_cons_succ, List.cons_append, List.nil_append, List.replicate_succ, List.replicate_zero, List.take_succ_cons, List.take_zero, List.drop_succ_cons, List.drop_zero, List.reverse_cons, List.reverse_nil, List.length_cons, List.length_nil, Option.toList, true_and, and_true, eq_self, ↓reduceIte, not_true_eq_false, not_false_eq_true] | refine q_203 (fun q9 => ?_) (fun q9 => ?_) | refine And.intro ?_ ?_ | intro _)
      all_goals (try (first | omega | contradiction | ((try clear hK); (try clear hK0); (try clear hB); (try clear h9); (try clear h8); (try clear h7); first | omega | grind)))
    · intro a ha hb
      rw [a261_4]
      repeat' (first | simp only [w_iconst, w_istore, w_iload, w_fall, Int.reduceToNat, w_call, w_if, R32, cI, w_goto, w_isub, w_iinc, lgB, Nat.reduceSub, w_ireturn, a261_0, a261_16, a261_29, a261_30, a261_38, List.getElem?_cons_zero, List.getElem?_cons_succ, List.set_cons_zero, List.set_cons_succ, List.cons_append, List.nil_append, List.replicate_succ, List.replicate_zero, List.take_succ_cons, List.take_zero, List.drop_succ_cons, List.drop_zero, List.reverse_cons, List.reverse_nil, List.length_cons, List.length_nil, Option.toList, true_and, and_true, eq_self, ↓reduceIte, not_true_eq_false, not_false_eq_true] | refine q_203 (fun q9 => ?_) (fun q9 => ?_) | refine And.intro ?_ ?_ | intro _)
      all_goals (try (first | omega | contradiction | ((try clear hK); (try clear hK0); (try clear hB); (try clear h9); (try clear h8); (try clear h7); first | omega | omega)))
  refine Runs.of (al := [vi s, vi n]) (n := 2) trivial rfl rfl trivial ?_
  repeat' (first | refine hL4 _ ?_ ?_ | simp only [w_iconst, w_istore, w_iload, w_fall, Int.reduceToNat, w_call, w_if, R32, cI, w_goto, w_isub, w_iinc, lgB, Nat.reduceSub, w_ireturn, a261_0, a261_16, a261_29, a261_30, a261_38, List.getElem?_cons_zero, List.getElem?_cons_succ, List.set_cons_zero, List.set_cons_succ, List.cons_append, List.nil_append, List.replicate_succ, List.replicate_zero, List.take_succ_cons, List.take_zero, List.drop_succ_cons, List.drop_zero, List.reverse_cons, List.reverse_nil, List.length_cons, List.length_nil, Option.toList, true_and, and_true, eq_self, ↓reduceIte, not_true_eq_false, not_false_eq_true] | refine q_203 (fun q9 => ?_) (fun q9 => ?_) | refine And.intro ?_ ?_ | intro _)
  all_goals (try (first | omega | contradiction | ((try clear hK); (try clear hK0); (try clear hB); (try clear h9); (try clear h8); (try clear h7); first | omega | grind [bitsM, sumZ_0])))
theorem k269_0 : pg.1 269 0 = [.bipush 0, .istore 3, .bipush 0, .istore 4, .jsr 5] := rfl
theorem a269_0 {tb : Tab} {d : Nat} {K : Out → AM → Prop} {ls st : List AV} {m : AM} : At tb d 269 K 0 ls st m = wpB tb (pg.2.1 269) (Runs tb pg d) K (At tb d 269 K) [.bipush 0, .istore 3, .bipush 0, .istore 4, .jsr 5] ls st m := At.eq k269_0
theorem k269_5 : pg.1 269 5 = [.iload 4, .aload 0, .iload 1, .bipush 0, .invokeinterface 206 3, .if_icmp .ge 57, .aload 0, .iload 1, .invokeinterface 211 2, .ifCond .eq 51, .aload 0, .iload 1, .bipush 14, .iload 4, .iadd, .invokeinterface 206 3, .ifCond .ne 40, .goto 51] := rfl
theorem a269_5 {tb : Tab} {d : Nat} {K : Out → AM → Prop} {ls st : List AV} {m : AM} : At tb d 269 K 5 ls st m = wpB tb (pg.2.1 269) (Runs tb pg d) K (At tb d 269 K) [.iload 4, .aload 0, .iload 1, .bipush 0, .invokeinterface 206 3, .if_icmp .ge 57, .aload 0, .iload 1, .invokeinterface 211 2, .ifCond .eq 51, .aload 0, .iload 1, .bipush 14, .iload 4, .iadd, .invokeinterface 206 3, .ifCond .ne 40, .goto 51] ls st m := At.eq k269_5
theorem k269_40 : pg.1 269 40 = [.iload 3, .iload 2, .if_icmp .ne 48, .iload 4, .ireturn] := rfl
theorem a269_40 {tb : Tab} {d : Nat} {K : Out → AM → Prop} {ls st : List AV} {m : AM} : At tb d 269 K 40 ls st m = wpB tb (pg.2.1 269) (Runs tb pg d) K (At tb d 269 K) [.iload 3, .iload 2, .if_icmp .ne 48, .iload 4, .ireturn] ls st m := At.eq k269_40
theorem k269_48 : pg.1 269 48 = [.iinc 3 1, .jsr 51] := rfl
theorem a269_48 {tb : Tab} {d : Nat} {K : Out → AM → Prop} {ls st : List AV} {m : AM} : At tb d 269 K 48 ls st m = wpB tb (pg.2.1 269) (Runs tb pg d) K (At tb d 269 K) [.iinc 3 1, .jsr 51] ls st m := At.eq k269_48
theorem k269_51 : pg.1 269 51 = [.iinc 4 1, .goto 5] := rfl
theorem a269_51 {tb : Tab} {d : Nat} {K : Out → AM → Prop} {ls st : List AV} {m : AM} : At tb d 269 K 51 ls st m = wpB tb (pg.2.1 269) (Runs tb pg d) K (At tb d 269 K) [.iinc 4 1, .goto 5] ls st m := At.eq k269_51
theorem k269_57 : pg.1 269 57 = [.bipush (-1), .ireturn] := rfl
theorem a269_57 {tb : Tab} {d : Nat} {K : Out → AM → Prop} {ls st : List AV} {m : AM} : At tb d 269 K 57 ls st m = wpB tb (pg.2.1 269) (Runs tb pg d) K (At tb d 269 K) [.bipush (-1), .ireturn] ls st m := At.eq k269_57
theorem q_269 {p k : Int} (hB : BR S) (hp : 0 ≤ p ∧ p < 6) (hk : R32 k) (hK : ∀ r, isFst (fun i => plM (oR S) p i ∧ leftM (oR S) p i = k) (oR S p 0) r → -1 ≤ r → r < 6 → K (.inl (some (vi r))) (X S m)) : Runs tb pg (d + 3) 269 [vr 300, vi p, vi k] (X S m) K := by
  unfold R32 at hk
  have b4 := (hB.2.2.2.2.1 p hp.1 hp.2).1
  have hL5 : (fun i : Int => ∀ (a : Int), a = leftM (oR S) p i → (∀ j, 0 ≤ j → j < i → ¬ (plM (oR S) p j ∧ leftM (oR S) p j = k)) → At tb (d + 2) 269 K 5 [vr 300, vi p, vi k, vi a, vi i] [] (X S m)) 0 := by
    refine loopZ (fun i : Int => ∀ (a : Int), a = leftM (oR S) p i → (∀ j, 0 ≤ j → j < i → ¬ (plM (oR S) p j ∧ leftM (oR S) p j = k)) → At tb (d + 2) 269 K 5 [vr 300, vi p, vi k, vi a, vi i] [] (X S m)) (oR S p 0) (by omega) ?_ ?_
    · intro i h0 h1 h9 a ha hb
      have q9 := hB.2.2.2.2.2.1 p i hp.1 hp.2 h0 (by omega)
      have q8 := leftM_le (P := oR S) (p := p) h0
      have q7 := leftM_s (P := oR S) (p := p) h0
      rw [a269_5]
      repeat' (first | refine h9 _ ?_ ?_ | refine hK _ ?_ ?_ ?_ | simp only [w_iconst, w_istore, w_fall, Int.reduceToNat, w_iload, w_aload, w_call, w_ifc, R32, cI, w_if, w_iadd, w_goto, w_ireturn, w_iinc, lgB, Nat.reduceSub, a269_0, a269_40, a269_48, a269_51, a269_57, List.getElem?_cons_zero, List.getElem?_cons_succ, List.set_cons_zero, List.set_cons_succ, List.cons_append, List.nil_append, List.replicate_succ, List.replicate_zero, List.take_succ_cons, List.take_zero, List.drop_succ_cons, List.drop_zero, List.reverse_cons, List.reverse_nil, List.length_cons, List.length_nil, Option.toList, true_and, and_true, eq_self, ↓reduceIte, not_true_eq_false, not_false_eq_true] | refine q_206 hB ?_ ?_ ?_ | refine q_211 hB ?_ ?_ | refine And.intro ?_ ?_ | intro _)
      all_goals (try (first | omega | contradiction | ((try clear hK); (try clear hK0); (try clear hB); (try clear h9); (try clear h8); (try clear h7); first | omega | grind [plM, isFst])))
    · intro a ha hb
      rw [a269_5]
      repeat' (first | refine hK _ ?_ ?_ ?_ | simp only [w_iconst, w_istore, w_fall, Int.reduceToNat, w_iload, w_aload, w_call, w_ifc, R32, cI, w_if, w_iadd, w_goto, w_ireturn, w_iinc, lgB, Nat.reduceSub, a269_0, a269_40, a269_48, a269_51, a269_57, List.getElem?_cons_zero, List.getElem?_cons_succ, List.set_cons_zero, List.set_cons_succ, List.cons_append, List.nil_append, List.replicate_succ, List.replicate_zero, List.take_succ_cons, List.take_zero, List.drop_succ_cons, List.drop_zero, List.reverse_cons, List.reverse_nil, List.length_cons, List.length_nil, Option.toList, true_and, and_true, eq_self, ↓reduceIte, not_true_eq_false, not_false_eq_true] | refine q_206 hB ?_ ?_ ?_ | refine q_211 hB ?_ ?_ | refine And.intro ?_ ?_ | intro _)
      all_goals (try (first | omega | contradiction | ((try clear hK); (try clear hK0); (try clear hB); (try clear h9); (try clear h8); (try clear h7); first | omega | grind [isFst])))
  refine Runs.of (al := [vr 300, vi p, vi k]) (n := 2) ⟨300, _, _, rfl, xo_300⟩ rfl rfl trivial ?_
  repeat' (first | refine hL5 _ ?_ ?_ | simp only [w_iconst, w_istore, w_fall, Int.reduceToNat, w_iload, w_aload, w_call, w_ifc, R32, cI, w_if, w_iadd, w_goto, w_ireturn, w_iinc, lgB, Nat.reduceSub, a269_0, a269_40, a269_48, a269_51, a269_57, List.getElem?_cons_zero, List.getElem?_cons_succ, List.set_cons_zero, List.set_cons_succ, List.cons_append, List.nil_append, List.replicate_succ, List.replicate_zero, List.take_succ_cons, List.take_zero, List.drop_succ_cons, List.drop_zero, List.reverse_cons, List.reverse_nil, List.length_cons, List.length_nil, Option.toList, true_and, and_true, eq_self, ↓reduceIte, not_true_eq_false, not_false_eq_true] | refine q_206 hB ?_ ?_ ?_ | refine q_211 hB ?_ ?_ | refine And.intro ?_ ?_ | intro _)
  all_goals (try (first | omega | contradiction | ((try clear hK); (try clear hK0); (try clear hB); (try clear h9); (try clear h8); (try clear h7); first | omega | grind [leftM, sumZ_0])))
theorem k270_0 : pg.1 270 0 = [.aload 0, .iload 1, .invokeinterface 211 2, .ifCond .eq 26, .aload 0, .iload 1, .invokeinterface 213 2, .aload 0, .iload 2, .bipush 0, .invokeinterface 206 3, .if_icmp .ne 26, .bipush 1, .goto 27] := rfl
theorem a270_0 {tb : Tab} {d : Nat} {K : Out → AM → Prop} {ls st : List AV} {m : AM} : At tb d 270 K 0 ls st m = wpB tb (pg.2.1 270) (Runs tb pg d) K (At tb d 270 K) [.aload 0, .iload 1, .invokeinterface 211 2, .ifCond .eq 26, .aload 0, .iload 1, .invokeinterface 213 2, .aload 0, .iload 2, .bipush 0, .invokeinterface 206 3, .if_icmp .ne 26, .bipush 1, .goto 27] ls st m := At.eq k270_0
theorem k270_26 : pg.1 270 26 = [.bipush 0, .jsr 27] := rfl
theorem a270_26 {tb : Tab} {d : Nat} {K : Out → AM → Prop} {ls st : List AV} {m : AM} : At tb d 270 K 26 ls st m = wpB tb (pg.2.1 270) (Runs tb pg d) K (At tb d 270 K) [.bipush 0, .jsr 27] ls st m := At.eq k270_26
theorem k270_27 : pg.1 270 27 = [.istore 3, .bipush 0, .istore 4, .jsr 31] := rfl
theorem a270_27 {tb : Tab} {d : Nat} {K : Out → AM → Prop} {ls st : List AV} {m : AM} : At tb d 270 K 27 ls st m = wpB tb (pg.2.1 270) (Runs tb pg d) K (At tb d 270 K) [.istore 3, .bipush 0, .istore 4, .jsr 31] ls st m := At.eq k270_27
theorem k270_31 : pg.1 270 31 = [.iload 4, .aload 0, .iload 2, .bipush 0, .invokeinterface 206 3, .if_icmp .ge 85, .iload 3, .ifCond .eq 85, .aload 0, .iload 1, .bipush 8, .aload 0, .iload 1, .iload 4, .invokeinterface 269 3, .iadd, .invokeinterface 206 3, .aload 0, .iload 2, .bipush 2, .iload 4, .iadd, .invokeinterface 206 3, .if_icmp .ne 77, .bipush 1, .goto 78] := rfl
theorem a270_31 {tb : Tab} {d : Nat} {K : Out → AM → Prop} {ls st : List AV} {m : AM} : At tb d 270 K 31 ls st m = wpB tb (pg.2.1 270) (Runs tb pg d) K (At tb d 270 K) [.iload 4, .aload 0, .iload 2, .bipush 0, .invokeinterface 206 3, .if_icmp .ge 85, .iload 3, .ifCond .eq 85, .aload 0, .iload 1, .bipush 8, .aload 0, .iload 1, .iload 4, .invokeinterface 269 3, .iadd, .invokeinterface 206 3, .aload 0, .iload 2, .bipush 2, .iload 4, .iadd, .invokeinterface 206 3, .if_icmp .ne 77, .bipush 1, .goto 78] ls st m := At.eq k270_31
theorem k270_77 : pg.1 270 77 = [.bipush 0, .jsr 78] := rfl
theorem a270_77 {tb : Tab} {d : Nat} {K : Out → AM → Prop} {ls st : List AV} {m : AM} : At tb d 270 K 77 ls st m = wpB tb (pg.2.1 270) (Runs tb pg d) K (At tb d 270 K) [.bipush 0, .jsr 78] ls st m := At.eq k270_77
theorem k270_78 : pg.1 270 78 = [.istore 3, .iinc 4 1, .goto 31] := rfl
theorem a270_78 {tb : Tab} {d : Nat} {K : Out → AM → Prop} {ls st : List AV} {m : AM} : At tb d 270 K 78 ls st m = wpB tb (pg.2.1 270) (Runs tb pg d) K (At tb d 270 K) [.istore 3, .iinc 4 1, .goto 31] ls st m := At.eq k270_78
theorem k270_85 : pg.1 270 85 = [.iload 3, .freturn] := rfl
theorem a270_85 {tb : Tab} {d : Nat} {K : Out → AM → Prop} {ls st : List AV} {m : AM} : At tb d 270 K 85 ls st m = wpB tb (pg.2.1 270) (Runs tb pg d) K (At tb d 270 K) [.iload 3, .freturn] ls st m := At.eq k270_85
theorem q_270 {p o : Int} (hB : BR S) (hp : 0 ≤ p ∧ p < 6) (ho : 0 ≤ o ∧ o < 6) (hK : ∀ r, yn r (readsM (oR S) p o (oR S o 0)) → K (.inl (some (vi r))) (X S m)) : Runs tb pg (d + 4) 270 [vr 300, vi p, vi o] (X S m) K := by
  have b4 := (hB.2.2.2.2.1 p hp.1 hp.2).1
  have b5 := (hB.2.2.2.2.1 o ho.1 ho.2).1
  have b6 := leftM_le (P := oR S) (p := p) b4.1
  have hL31 : (fun i : Int => ∀ (a : Int), (yn a (readsM (oR S) p o i)) → At tb (d + 3) 270 K 31 [vr 300, vi p, vi o, vi a, vi i] [] (X S m)) 0 := by
    refine loopZ (fun i : Int => ∀ (a : Int), (yn a (readsM (oR S) p o i)) → At tb (d + 3) 270 K 31 [vr 300, vi p, vi o, vi a, vi i] [] (X S m)) (oR S o 0) (by omega) ?_ ?_
    · intro i h0 h1 h9 a ha
      rw [a270_31]
      repeat' (first | refine h9 _ ?_ | refine hK _ ?_ | simp only [w_aload, w_iload, w_call, w_if, R32, cI, Int.reduceToNat, w_iconst, w_ifc, w_goto, w_fall, w_istore, w_iadd, w_iinc, lgB, Nat.reduceSub, w_zreturn, a270_0, a270_26, a270_27, a270_77, a270_78, a270_85, List.getElem?_cons_zero, List.getElem?_cons_succ, List.set_cons_zero, List.set_cons_succ, List.cons_append, List.nil_append, List.replicate_succ, List.replicate_zero, List.take_succ_cons, List.take_zero, List.drop_succ_cons, List.drop_zero, List.reverse_cons, List.reverse_nil, List.length_cons, List.length_nil, Option.toList, true_and, and_true, eq_self, ↓reduceIte, not_true_eq_false, not_false_eq_true] | refine q_206 hB ?_ ?_ ?_ | refine q_211 hB ?_ ?_ | refine q_213 hB ?_ ?_ | refine q_269 hB ?_ ?_ ?_ | refine And.intro ?_ ?_ | intro _)
      all_goals (try (first | omega | contradiction | ((try clear hK); (try clear hK0); (try clear hB); (try clear h9); (try clear h8); (try clear h7); first | omega | (have z := readsM_s h0 (by omega) b4.1 (by assumption) (show readsM (oR S) p o i by grind [yn]); grind [yn]) | (have z := fun z => readsM_le (P := oR S) (p := p) (o := o) (i := i) (n := oR S o 0) (by omega) z; grind [yn]) | grind [yn])))
    · intro a ha
      rw [a270_31]
      repeat' (first | refine hK _ ?_ | simp only [w_aload, w_iload, w_call, w_if, R32, cI, Int.reduceToNat, w_iconst, w_ifc, w_goto, w_fall, w_istore, w_iadd, w_iinc, lgB, Nat.reduceSub, w_zreturn, a270_0, a270_26, a270_27, a270_77, a270_78, a270_85, List.getElem?_cons_zero, List.getElem?_cons_succ, List.set_cons_zero, List.set_cons_succ, List.cons_append, List.nil_append, List.replicate_succ, List.replicate_zero, List.take_succ_cons, List.take_zero, List.drop_succ_cons, List.drop_zero, List.reverse_cons, List.reverse_nil, List.length_cons, List.length_nil, Option.toList, true_and, and_true, eq_self, ↓reduceIte, not_true_eq_false, not_false_eq_true] | refine q_206 hB ?_ ?_ ?_ | refine q_211 hB ?_ ?_ | refine q_213 hB ?_ ?_ | refine q_269 hB ?_ ?_ ?_ | refine And.intro ?_ ?_ | intro _)
      all_goals (try (first | omega | contradiction | ((try clear hK); (try clear hK0); (try clear hB); (try clear h9); (try clear h8); (try clear h7); first | omega | grind [yn])))
  refine Runs.of (al := [vr 300, vi p, vi o]) (n := 2) ⟨300, _, _, rfl, xo_300⟩ rfl rfl trivial ?_
  repeat' (first | refine hL31 _ ?_ | simp only [w_aload, w_iload, w_call, w_if, R32, cI, Int.reduceToNat, w_iconst, w_ifc, w_goto, w_fall, w_istore, w_iadd, w_iinc, lgB, Nat.reduceSub, w_zreturn, a270_0, a270_26, a270_27, a270_77, a270_78, a270_85, List.getElem?_cons_zero, List.getElem?_cons_succ, List.set_cons_zero, List.set_cons_succ, List.cons_append, List.nil_append, List.replicate_succ, List.replicate_zero, List.take_succ_cons, List.take_zero, List.drop_succ_cons, List.drop_zero, List.reverse_cons, List.reverse_nil, List.length_cons, List.length_nil, Option.toList, true_and, and_true, eq_self, ↓reduceIte, not_true_eq_false, not_false_eq_true] | refine q_206 hB ?_ ?_ ?_ | refine q_211 hB ?_ ?_ | refine q_213 hB ?_ ?_ | refine q_269 hB ?_ ?_ ?_ | refine And.intro ?_ ?_ | intro _)
  all_goals (try (first | omega | contradiction | ((try clear hK); (try clear hK0); (try clear hB); (try clear h9); (try clear h8); (try clear h7); first | omega | grind [yn, readsM_0])))
theorem k271_0 : pg.1 271 0 = [.aload 0, .iload 1, .iload 1, .invokeinterface 270 3, .ifCond .eq 11, .iload 1, .ireturn] := rfl
theorem a271_0 {tb : Tab} {d : Nat} {K : Out → AM → Prop} {ls st : List AV} {m : AM} : At tb d 271 K 0 ls st m = wpB tb (pg.2.1 271) (Runs tb pg d) K (At tb d 271 K) [.aload 0, .iload 1, .iload 1, .invokeinterface 270 3, .ifCond .eq 11, .iload 1, .ireturn] ls st m := At.eq k271_0
theorem k271_11 : pg.1 271 11 = [.bipush 0, .istore 2, .jsr 13] := rfl
theorem a271_11 {tb : Tab} {d : Nat} {K : Out → AM → Prop} {ls st : List AV} {m : AM} : At tb d 271 K 11 ls st m = wpB tb (pg.2.1 271) (Runs tb pg d) K (At tb d 271 K) [.bipush 0, .istore 2, .jsr 13] ls st m := At.eq k271_11
theorem k271_13 : pg.1 271 13 = [.iload 2, .aload 0, .getfield 1001, .bipush 4, .iaload, .if_icmp .ge 40, .aload 0, .iload 1, .iload 2, .invokeinterface 270 3, .ifCond .eq 34, .iload 2, .ireturn] := rfl
theorem a271_13 {tb : Tab} {d : Nat} {K : Out → AM → Prop} {ls st : List AV} {m : AM} : At tb d 271 K 13 ls st m = wpB tb (pg.2.1 271) (Runs tb pg d) K (At tb d 271 K) [.iload 2, .aload 0, .getfield 1001, .bipush 4, .iaload, .if_icmp .ge 40, .aload 0, .iload 1, .iload 2, .invokeinterface 270 3, .ifCond .eq 34, .iload 2, .ireturn] ls st m := At.eq k271_13
theorem k271_34 : pg.1 271 34 = [.iinc 2 1, .goto 13] := rfl
theorem a271_34 {tb : Tab} {d : Nat} {K : Out → AM → Prop} {ls st : List AV} {m : AM} : At tb d 271 K 34 ls st m = wpB tb (pg.2.1 271) (Runs tb pg d) K (At tb d 271 K) [.iinc 2 1, .goto 13] ls st m := At.eq k271_34
theorem k271_40 : pg.1 271 40 = [.bipush (-1), .ireturn] := rfl
theorem a271_40 {tb : Tab} {d : Nat} {K : Out → AM → Prop} {ls st : List AV} {m : AM} : At tb d 271 K 40 ls st m = wpB tb (pg.2.1 271) (Runs tb pg d) K (At tb d 271 K) [.bipush (-1), .ireturn] ls st m := At.eq k271_40
theorem q_271 {p : Int} (hB : BR S) (hp : 0 ≤ p ∧ p < 6) (hK : ∀ r, ((readsM (oR S) p p (oR S p 0) ∧ r = p) ∨ (¬ readsM (oR S) p p (oR S p 0) ∧ isFst (fun o => readsM (oR S) p o (oR S o 0)) (S 301 4) r)) → K (.inl (some (vi r))) (X S m)) : Runs tb pg (d + 5) 271 [vr 300, vi p] (X S m) K := by
  have b4 := hB.2.2.1
  have hL13 : (fun i : Int => (¬ readsM (oR S) p p (oR S p 0)) → (∀ j, 0 ≤ j → j < i → ¬ readsM (oR S) p j (oR S j 0)) → At tb (d + 4) 271 K 13 [vr 300, vi p, vi i] [] (X S m)) 0 := by
    refine loopZ (fun i : Int => (¬ readsM (oR S) p p (oR S p 0)) → (∀ j, 0 ≤ j → j < i → ¬ readsM (oR S) p j (oR S j 0)) → At tb (d + 4) 271 K 13 [vr 300, vi p, vi i] [] (X S m)) (S 301 4) (by omega) ?_ ?_
    · intro i h0 h1 h9  hc hb
      rw [a271_13]
      repeat' (first | refine h9  ?_ ?_ | refine hK _ ?_ | simp only [w_aload, w_iload, w_call, w_if, R32, cI, Int.reduceToNat, w_ireturn, w_iconst, w_istore, w_fall, x_g1001_300, x_iald, w_ialoads, w_ialoadw, w_ifc, w_iinc, lgB, Nat.reduceSub, w_goto, isA_301, isA_302, isA_303, isA_304, isA_305, isA_306, isA_307, isA_308, isA_309, isA_310, isA_311, isA_312, isA_313, isA_314, isA_315, len_301, len_302, len_303, len_304, len_305, len_306, len_307, len_308, len_309, len_310, len_311, len_312, len_313, len_314, len_315, Int.cast_ofNat_Int, a271_0, a271_11, a271_34, a271_40, List.getElem?_cons_zero, List.getElem?_cons_succ, List.set_cons_zero, List.set_cons_succ, List.cons_append, List.nil_append, List.replicate_succ, List.replicate_zero, List.take_succ_cons, List.take_zero, List.drop_succ_cons, List.drop_zero, List.reverse_cons, List.reverse_nil, List.length_cons, List.length_nil, Option.toList, true_and, and_true, eq_self, ↓reduceIte, not_true_eq_false, not_false_eq_true] | refine q_270 hB ?_ ?_ ?_ | refine And.intro ?_ ?_ | intro _)
      all_goals (try (first | omega | contradiction | ((try clear hK); (try clear hK0); (try clear hB); (try clear h9); (try clear h8); (try clear h7); first | omega | grind [yn, isFst])))
    · intro  hc hb
      rw [a271_13]
      repeat' (first | refine hK _ ?_ | simp only [w_aload, w_iload, w_call, w_if, R32, cI, Int.reduceToNat, w_ireturn, w_iconst, w_istore, w_fall, x_g1001_300, x_iald, w_ialoads, w_ialoadw, w_ifc, w_iinc, lgB, Nat.reduceSub, w_goto, isA_301, isA_302, isA_303, isA_304, isA_305, isA_306, isA_307, isA_308, isA_309, isA_310, isA_311, isA_312, isA_313, isA_314, isA_315, len_301, len_302, len_303, len_304, len_305, len_306, len_307, len_308, len_309, len_310, len_311, len_312, len_313, len_314, len_315, Int.cast_ofNat_Int, a271_0, a271_11, a271_34, a271_40, List.getElem?_cons_zero, List.getElem?_cons_succ, List.set_cons_zero, List.set_cons_succ, List.cons_append, List.nil_append, List.replicate_succ, List.replicate_zero, List.take_succ_cons, List.take_zero, List.drop_succ_cons, List.drop_zero, List.reverse_cons, List.reverse_nil, List.length_cons, List.length_nil, Option.toList, true_and, and_true, eq_self, ↓reduceIte, not_true_eq_false, not_false_eq_true] | refine q_270 hB ?_ ?_ ?_ | refine And.intro ?_ ?_ | intro _)
      all_goals (try (first | omega | contradiction | ((try clear hK); (try clear hK0); (try clear hB); (try clear h9); (try clear h8); (try clear h7); first | omega | grind [isFst])))
  refine Runs.of (al := [vr 300, vi p]) (n := 1) ⟨300, _, _, rfl, xo_300⟩ rfl rfl trivial ?_
  repeat' (first | refine hL13 ?_ ?_ | refine hK _ ?_ | simp only [w_aload, w_iload, w_call, w_if, R32, cI, Int.reduceToNat, w_ireturn, w_iconst, w_istore, w_fall, x_g1001_300, x_iald, w_ialoads, w_ialoadw, w_ifc, w_iinc, lgB, Nat.reduceSub, w_goto, isA_301, isA_302, isA_303, isA_304, isA_305, isA_306, isA_307, isA_308, isA_309, isA_310, isA_311, isA_312, isA_313, isA_314, isA_315, len_301, len_302, len_303, len_304, len_305, len_306, len_307, len_308, len_309, len_310, len_311, len_312, len_313, len_314, len_315, Int.cast_ofNat_Int, a271_0, a271_11, a271_34, a271_40, List.getElem?_cons_zero, List.getElem?_cons_succ, List.set_cons_zero, List.set_cons_succ, List.cons_append, List.nil_append, List.replicate_succ, List.replicate_zero, List.take_succ_cons, List.take_zero, List.drop_succ_cons, List.drop_zero, List.reverse_cons, List.reverse_nil, List.length_cons, List.length_nil, Option.toList, true_and, and_true, eq_self, ↓reduceIte, not_true_eq_false, not_false_eq_true] | refine q_270 hB ?_ ?_ ?_ | refine And.intro ?_ ?_ | intro _)
  all_goals (try (first | omega | contradiction | ((try clear hK); (try clear hK0); (try clear hB); (try clear h9); (try clear h8); (try clear h7); first | omega | grind [yn])))
theorem k275_0 : pg.1 275 0 = [.bipush 0, .istore 1, .bipush 0, .istore 2, .jsr 4] := rfl
theorem a275_0 {tb : Tab} {d : Nat} {K : Out → AM → Prop} {ls st : List AV} {m : AM} : At tb d 275 K 0 ls st m = wpB tb (pg.2.1 275) (Runs tb pg d) K (At tb d 275 K) [.bipush 0, .istore 1, .bipush 0, .istore 2, .jsr 4] ls st m := At.eq k275_0
theorem k275_4 : pg.1 275 4 = [.iload 2, .aload 0, .getfield 1001, .bipush 5, .iaload, .if_icmp .ge 29, .iload 1, .aload 0, .iload 2, .bipush 2, .invokeinterface 208 3, .iadd, .istore 1, .iinc 2 1, .goto 4] := rfl
theorem a275_4 {tb : Tab} {d : Nat} {K : Out → AM → Prop} {ls st : List AV} {m : AM} : At tb d 275 K 4 ls st m = wpB tb (pg.2.1 275) (Runs tb pg d) K (At tb d 275 K) [.iload 2, .aload 0, .getfield 1001, .bipush 5, .iaload, .if_icmp .ge 29, .iload 1, .aload 0, .iload 2, .bipush 2, .invokeinterface 208 3, .iadd, .istore 1, .iinc 2 1, .goto 4] ls st m := At.eq k275_4
theorem k275_29 : pg.1 275 29 = [.iload 1, .ireturn] := rfl
theorem a275_29 {tb : Tab} {d : Nat} {K : Out → AM → Prop} {ls st : List AV} {m : AM} : At tb d 275 K 29 ls st m = wpB tb (pg.2.1 275) (Runs tb pg d) K (At tb d 275 K) [.iload 1, .ireturn] ls st m := At.eq k275_29
theorem q_275 (hB : BR S) (hK : ∀ r, r = sumZ (S 301 5) (fun k => dR S k 2) → -8 ≤ r → r ≤ 80000 → K (.inl (some (vi r))) (X S m)) : Runs tb pg (d + 2) 275 [vr 300] (X S m) K := by
  have b5 := hB.2.2.2.1
  have u := sumZ_le (f := fun k => dR S k 2) (n := S 301 5) (a := -1) (b := 10000) b5.1 (fun i z1 z2 => hB.1 _ (by omega))
  have hL4 : (fun i : Int => ∀ (a : Int), a = sumZ i (fun k => dR S k 2) → At tb (d + 1) 275 K 4 [vr 300, vi a, vi i] [] (X S m)) 0 := by
    refine loopZ (fun i : Int => ∀ (a : Int), a = sumZ i (fun k => dR S k 2) → At tb (d + 1) 275 K 4 [vr 300, vi a, vi i] [] (X S m)) (S 301 5) (by omega) ?_ ?_
    · intro i h0 h1 h9 a ha
      rw [a275_4]
      repeat' (first | refine h9 _ ?_ | simp only [w_iconst, w_istore, w_fall, Int.reduceToNat, w_iload, w_aload, x_g1001_300, x_iald, w_ialoads, w_ialoadw, w_ifc, R32, cI, w_call, w_iadd, w_iinc, lgB, Nat.reduceSub, w_goto, w_ireturn, isA_301, isA_302, isA_303, isA_304, isA_305, isA_306, isA_307, isA_308, isA_309, isA_310, isA_311, isA_312, isA_313, isA_314, isA_315, len_301, len_302, len_303, len_304, len_305, len_306, len_307, len_308, len_309, len_310, len_311, len_312, len_313, len_314, len_315, Int.cast_ofNat_Int, a275_0, a275_29, List.getElem?_cons_zero, List.getElem?_cons_succ, List.set_cons_zero, List.set_cons_succ, List.cons_append, List.nil_append, List.replicate_succ, List.replicate_zero, List.take_succ_cons, List.take_zero, List.drop_succ_cons, List.drop_zero, List.reverse_cons, List.reverse_nil, List.length_cons, List.length_nil, Option.toList, true_and, and_true, eq_self, ↓reduceIte, not_true_eq_false, not_false_eq_true] | refine q_208 hB ?_ ?_ ?_ | refine And.intro ?_ ?_ | intro _)
      all_goals (try (first | omega | contradiction | ((try clear hK); (try clear hK0); (try clear hB); (try clear h9); (try clear h8); (try clear h7); first | omega | grind [sumZ_s])))
    · intro a ha
      rw [a275_4]
      repeat' (first | refine hK _ ?_ ?_ ?_ | simp only [w_iconst, w_istore, w_fall, Int.reduceToNat, w_iload, w_aload, x_g1001_300, x_iald, w_ialoads, w_ialoadw, w_ifc, R32, cI, w_call, w_iadd, w_iinc, lgB, Nat.reduceSub, w_goto, w_ireturn, isA_301, isA_302, isA_303, isA_304, isA_305, isA_306, isA_307, isA_308, isA_309, isA_310, isA_311, isA_312, isA_313, isA_314, isA_315, len_301, len_302, len_303, len_304, len_305, len_306, len_307, len_308, len_309, len_310, len_311, len_312, len_313, len_314, len_315, Int.cast_ofNat_Int, a275_0, a275_29, List.getElem?_cons_zero, List.getElem?_cons_succ, List.set_cons_zero, List.set_cons_succ, List.cons_append, List.nil_append, List.replicate_succ, List.replicate_zero, List.take_succ_cons, List.take_zero, List.drop_succ_cons, List.drop_zero, List.reverse_cons, List.reverse_nil, List.length_cons, List.length_nil, Option.toList, true_and, and_true, eq_self, ↓reduceIte, not_true_eq_false, not_false_eq_true] | refine q_208 hB ?_ ?_ ?_ | refine And.intro ?_ ?_ | intro _)
      all_goals (try (first | omega | contradiction | ((try clear hK); (try clear hK0); (try clear hB); (try clear h9); (try clear h8); (try clear h7); first | omega | grind)))
  refine Runs.of (al := [vr 300]) (n := 2) ⟨300, _, _, rfl, xo_300⟩ rfl rfl trivial ?_
  repeat' (first | refine hL4 _ ?_ | simp only [w_iconst, w_istore, w_fall, Int.reduceToNat, w_iload, w_aload, x_g1001_300, x_iald, w_ialoads, w_ialoadw, w_ifc, R32, cI, w_call, w_iadd, w_iinc, lgB, Nat.reduceSub, w_goto, w_ireturn, isA_301, isA_302, isA_303, isA_304, isA_305, isA_306, isA_307, isA_308, isA_309, isA_310, isA_311, isA_312, isA_313, isA_314, isA_315, len_301, len_302, len_303, len_304, len_305, len_306, len_307, len_308, len_309, len_310, len_311, len_312, len_313, len_314, len_315, Int.cast_ofNat_Int, a275_0, a275_29, List.getElem?_cons_zero, List.getElem?_cons_succ, List.set_cons_zero, List.set_cons_succ, List.cons_append, List.nil_append, List.replicate_succ, List.replicate_zero, List.take_succ_cons, List.take_zero, List.drop_succ_cons, List.drop_zero, List.reverse_cons, List.reverse_nil, List.length_cons, List.length_nil, Option.toList, true_and, and_true, eq_self, ↓reduceIte, not_true_eq_false, not_false_eq_true] | refine q_208 hB ?_ ?_ ?_ | refine And.intro ?_ ?_ | intro _)
  all_goals (try (first | omega | contradiction | ((try clear hK); (try clear hK0); (try clear hB); (try clear h9); (try clear h8); (try clear h7); first | omega | rfl)))
theorem owed_bd {S : Nat → Int → Int} (hB : BR S) (p : Int) : (-8 ≤ owedByM (dR S) (S 301 5) p ∧ owedByM (dR S) (S 301 5) p ≤ 80000) ∧ (-8 ≤ owedToM (dR S) (S 301 5) p ∧ owedToM (dR S) (S 301 5) p ≤ 80000) := by
  have b5 := hB.2.2.2.1
  have u := sumZ_le (f := fun k => if dR S k 0 = p then dR S k 2 else 0) (n := S 301 5) (a := -1) (b := 10000) b5.1 (fun i z1 z2 => by have := hB.1 (151 + 3 * i + 2) (by omega); unfold dR; split <;> omega)
  have v := sumZ_le (f := fun k => if dR S k 1 = p then dR S k 2 else 0) (n := S 301 5) (a := -1) (b := 10000) b5.1 (fun i z1 z2 => by have := hB.1 (151 + 3 * i + 2) (by omega); unfold dR; split <;> omega)
  unfold owedByM owedToM
  omega
/-- what one owes, less what is owed to it -/
def owesM (D : Int → Int → Int) (n p : Int) : Int := owedByM D n p - owedToM D n p
theorem k276_0 : pg.1 276 0 = [.aload 0, .iload 1, .invokeinterface 215 2, .aload 0, .iload 1, .invokeinterface 216 2, .isub, .ireturn] := rfl
theorem a276_0 {tb : Tab} {d : Nat} {K : Out → AM → Prop} {ls st : List AV} {m : AM} : At tb d 276 K 0 ls st m = wpB tb (pg.2.1 276) (Runs tb pg d) K (At tb d 276 K) [.aload 0, .iload 1, .invokeinterface 215 2, .aload 0, .iload 1, .invokeinterface 216 2, .isub, .ireturn] ls st m := At.eq k276_0
theorem q_276 {p : Int} (hB : BR S) (hp : R32 p) (hK : ∀ r, r = owesM (dR S) (S 301 5) p → -100000 ≤ r → r ≤ 100000 → K (.inl (some (vi r))) (X S m)) : Runs tb pg (d + 3) 276 [vr 300, vi p] (X S m) K := by
  refine Runs.of (al := [vr 300, vi p]) (n := 0) ⟨300, _, _, rfl, xo_300⟩ rfl rfl trivial ?_
  have u := owed_bd hB p
  unfold R32 at hp
  repeat' (first | refine hK _ ?_ ?_ ?_ | simp only [w_aload, w_iload, w_call, w_isub, w_ireturn, a276_0, List.getElem?_cons_zero, List.getElem?_cons_succ, List.set_cons_zero, List.set_cons_succ, List.cons_append, List.nil_append, List.replicate_succ, List.replicate_zero, List.take_succ_cons, List.take_zero, List.drop_succ_cons, List.drop_zero, List.reverse_cons, List.reverse_nil, List.length_cons, List.length_nil, Option.toList, true_and, and_true, eq_self, ↓reduceIte, not_true_eq_false, not_false_eq_true] | refine q_215 hB ?_ ?_ | refine q_216 hB ?_ ?_ | refine And.intro ?_ ?_ | intro _)
  all_goals (try (first | omega | contradiction | ((try clear hK); (try clear hK0); (try clear hB); (try clear h9); (try clear h8); (try clear h7); first | omega | grind [owesM])))
end Ref2
