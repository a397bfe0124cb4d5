/-! ===== SNOWNAMES: shares, rests, odds, the most ===== -/
def fiS (S : Nat → Int → Int) (a : Nat) (n v : Int) : Nat → Int → Int := fun b => if b = a then (fun j => if 0 ≤ j ∧ j < n then v else S a j) else S b
theorem fiS_o {S : Nat → Int → Int} {a b : Nat} {n v : Int} (h : b ≠ a) : fiS S a n v b = S b := if_neg h
theorem fiS_x {S : Nat → Int → Int} {a : Nat} {n v : Int} : FxE a S (fiS S a n v) := fun b hb => if_neg hb
theorem fiS_a {S : Nat → Int → Int} {a : Nat} {n v j : Int} (h : 0 ≤ j ∧ j < n) : fiS S a n v a j = v := by
  unfold fiS
  rw [if_pos rfl]
  exact if_pos h
section fills
variable {tb : Tab} {d : Nat} {m : AM} {K : Out → AM → Prop} {S : Nat → Int → Int}
theorem w_384 {a : Nat} {v : Int} (ha : isA a 0) (hl : lenX a < 2147483648) (hK : K (.inl none) (X (fiS S a (lenX a) v) m)) : Runs tb pg (d + 1) 384 [vr a, vi v] (X S m) K := by
  refine r_384 (f := fun n => S a n) (len := lenX a) (by rw [X_1 ha.1, ha.2]) hl ?_
  rw [X_set (r := fun j => if 0 ≤ j ∧ j < lenX a then v else S a j) ha.1 (by
    rw [ha.2]
    refine congrArg (ca 0 (lenX a)) (funext fun j => ?_)
    by_cases z : j < lenX a
    · rw [if_pos z, if_pos ⟨by omega, by omega⟩]
    · rw [if_neg z, if_neg (by omega)])]
  exact hK
theorem w_385 {a : Nat} {v : Int} (ha : isA a 1) (hl : lenX a < 2147483648) (hK : K (.inl none) (X (fiS S a (lenX a) v) m)) : Runs tb pg (d + 1) 385 [vr a, vl v] (X S m) K := by
  refine r_385 (f := fun n => S a n) (len := lenX a) (by rw [X_1 ha.1, ha.2]) hl ?_
  rw [X_set (r := fun j => if 0 ≤ j ∧ j < lenX a then v else S a j) ha.1 (by
    rw [ha.2]
    refine congrArg (ca 1 (lenX a)) (funext fun j => ?_)
    by_cases z : j < lenX a
    · rw [if_pos z, if_pos ⟨by omega, by omega⟩]
    · rw [if_neg z, if_neg (by omega)])]
  exact hK
end fills
def shW (r : Int → Int) (T : Nat → Int → Int) (i : Int) : Prop := ∀ j, 0 ≤ j → j < 6 → T 94 j = shH (fr r) (r 3) i.toNat j ∧ 0 ≤ T 94 j ∧ T 94 j ≤ i
theorem shW_0 {r : Int → Int} {S : Nat → Int → Int} : shW r (fiS S 94 6 0) 0 := fun j j0 j1 => by
  rw [fiS_a ⟨j0, j1⟩]
  exact ⟨rfl, by decide, by decide⟩
theorem shW_s {r : Int → Int} {T : Nat → Int → Int} {i b : Int} (h : shW r T i) (h0 : 0 ≤ i) (hb : b = nxZ (fr r) (shH (fr r) (r 3) i.toNat) (r 3 - 1)) : shW r (upS T 94 b (T 94 b + 1)) (i + 1) := by
  intro j j0 j1
  have q := h j j0 j1
  rw [upS_at, shH_s h0, ← hb]
  by_cases e : j = b
  · subst e
    rw [if_pos ⟨rfl, rfl⟩, if_pos rfl]
    omega
  · rw [if_neg (fun z => e z.2), if_neg e]
    omega
theorem shW_x {r : Int → Int} {T : Nat → Int → Int} {i : Int} (h : shW r T i) (h3 : 0 ≤ r 3 ∧ r 3 ≤ 6) : nxZ (fr r) (T 94) (r 3 - 1) = nxZ (fr r) (shH (fr r) (r 3) i.toNat) (r 3 - 1) := by
  unfold nxZ
  exact nxN_congr (fun j j0 j1 => (h j j0 (by omega)).1)
section rests
variable {x l t a c s : Int}
theorem res_k (hs : 0 ≤ s ∧ s < 2) : resM x l t (2 * c + s) ↔ clkV x l (1 - c) s ≤ clkV x l c s ∧ sunV t c (1 - s) ≤ sunV t c s := by
  unfold resM
  rw [show (2 * c + s) / 2 = c by omega, show (2 * c + s) % 2 = s by omega]
theorem res_y (hc : 0 ≤ c ∧ c < 2) (hs : 0 ≤ s ∧ s < 2) (ha : a = setZ (2 * c + s) (resM x l t)) (h1 : clkV x l (1 - c) s ≤ clkV x l c s) (h2 : sunV t c (1 - s) ≤ sunV t c s) : orI a (shlI 1 (2 * c + s)) = setZ (2 * c + (s + 1)) (resM x l t) := by
  rw [show 2 * c + (s + 1) = 2 * c + s + 1 by omega]
  exact setZ_yes (by omega) (by omega) ha ((res_k hs).mpr ⟨h1, h2⟩)
theorem res_n (hc : 0 ≤ c ∧ c < 2) (hs : 0 ≤ s ∧ s < 2) (ha : a = setZ (2 * c + s) (resM x l t)) (h : ¬ (clkV x l (1 - c) s ≤ clkV x l c s ∧ sunV t c (1 - s) ≤ sunV t c s)) : a = setZ (2 * c + (s + 1)) (resM x l t) := by
  rw [show 2 * c + (s + 1) = 2 * c + s + 1 by omega]
  exact setZ_no (by omega) ha (fun z => h ((res_k hs).mp z))
end rests
/-- the chances of so many hares, day by day -/
def chT (h : Int) : Nat → Int → Int
  | 0, j => if j = 0 then 1 else 0
  | n + 1, j => chT h n j * (100 - h) + if 0 < j then chT h n (j - 1) * h else 0
theorem ch_od : ∀ n k : Fin 6, ∀ h : Fin 101, sumZ (6 - (k : Nat)) (fun i => chT (h : Nat) (n : Nat) ((k : Nat) + i)) = odR (n : Nat) (k : Nat) (h : Nat) := by decide +kernel
theorem chT_s {h n j : Int} (h0 : 0 ≤ n) : chT h (n + 1).toNat j = chT h n.toNat j * (100 - h) + if 0 < j then chT h n.toNat (j - 1) * h else 0 := by
  rw [show (n + 1).toNat = n.toNat + 1 by omega]
  rfl
/-- the chances of day n + 1, laid from the last one down to j -/
def chV (h n : Int) (T : Nat → Int → Int) (j : Int) : Prop := ∀ i, 0 ≤ i → i < 6 → T 95 i = if j < i then chT h (n + 1).toNat i else chT h n.toNat i
theorem chV_5 {h n : Int} {T : Nat → Int → Int} (hh : ∀ i, 0 ≤ i → i < 6 → T 95 i = chT h n.toNat i) : chV h n T 5 := fun i i0 i1 => by
  rw [if_neg (by omega)]; exact hh i i0 i1
theorem chV_s {h n j v : Int} {T : Nat → Int → Int} (h0 : 0 ≤ n) (hj : 0 ≤ j ∧ j < 6) (hT : chV h n T j) (hv : v = T 95 j * (100 - h) + if 0 < j then T 95 (j - 1) * h else 0) : chV h n (upS T 95 j v) (j - 1) := fun i i0 i1 => by
  rw [upS_at]
  by_cases e : i = j
  · subst e
    rw [if_pos ⟨rfl, rfl⟩, if_pos (by omega), chT_s h0, hv, hT i i0 i1, if_neg (by omega)]
    by_cases z : 0 < i
    · rw [if_pos z, if_pos z, hT (i - 1) (by omega) (by omega), if_neg (by omega)]
    · rw [if_neg z, if_neg z]
  · rw [if_neg (fun z => e z.2), hT i i0 i1]
    by_cases z : j < i
    · rw [if_pos z, if_pos (by omega)]
    · rw [if_neg z, if_neg (by omega)]
theorem chV_e {h n : Int} {T : Nat → Int → Int} (hT : chV h n T (-1)) : ∀ i, 0 ≤ i → i < 6 → T 95 i = chT h (n + 1).toNat i := fun i i0 i1 => by
  rw [hT i i0 i1, if_pos (by omega)]
def chW (h n : Int) (T : Nat → Int → Int) : Prop := ∀ i, 0 ≤ i → i < 6 → T 95 i = chT h n.toNat i
theorem chW_0 {h : Int} {S : Nat → Int → Int} : chW h 0 (upS (fiS S 95 6 0) 95 0 1) := fun i i0 i1 => by
  rw [upS_at]
  show _ = if i = 0 then 1 else 0
  by_cases e : i = 0
  · rw [if_pos ⟨rfl, e⟩, if_pos e]
  · rw [if_neg (fun z => e z.2), if_neg e, fiS_a ⟨i0, i1⟩]
theorem ch_o {n k h : Int} (hn : 0 ≤ n ∧ n ≤ 5) (hk : 0 ≤ k ∧ k ≤ 5) (hh : 0 ≤ h ∧ h ≤ 100) : sumZ (6 - k) (fun i => chT h n.toNat (k + i)) = odR n k h := by
  have e := ch_od ⟨n.toNat, by omega⟩ ⟨k.toNat, by omega⟩ ⟨h.toNat, by omega⟩
  dsimp only at e
  rw [Int.toNat_of_nonneg hn.1, Int.toNat_of_nonneg hk.1, Int.toNat_of_nonneg hh.1] at e
  exact e
theorem od_bd : ∀ n k : Fin 6, ∀ h : Fin 101, 0 ≤ odR (n : Nat) (k : Nat) (h : Nat) ∧ odR (n : Nat) (k : Nat) (h : Nat) ≤ 10000000000 := by decide +kernel
theorem od_b {n k h : Int} (hn : 0 ≤ n ∧ n ≤ 5) (hk : 0 ≤ k ∧ k ≤ 5) (hh : 0 ≤ h ∧ h ≤ 100) : 0 ≤ odR n k h ∧ odR n k h ≤ 10000000000 := by
  have e := od_bd ⟨n.toNat, by omega⟩ ⟨k.toNat, by omega⟩ ⟨h.toNat, by omega⟩
  dsimp only at e
  rw [Int.toNat_of_nonneg hn.1, Int.toNat_of_nonneg hk.1, Int.toNat_of_nonneg hh.1] at e
  exact e
theorem ow_bd : ∀ n : Fin 6, 1 ≤ odW (n : Nat) ∧ odW (n : Nat) ≤ 10000000000 := by decide +kernel
theorem ow_b {n : Int} (hn : 0 ≤ n ∧ n ≤ 5) : 1 ≤ odW n ∧ odW n ≤ 10000000000 := by
  have e := ow_bd ⟨n.toNat, by omega⟩
  dsimp only at e
  rw [Int.toNat_of_nonneg hn.1] at e
  exact e
theorem dv_b {x y : Int} (hx : 0 ≤ x) (hy : 0 ≤ y) : 0 ≤ x / (y + 1) ∧ x / (y + 1) ≤ x := ⟨Int.ediv_nonneg hx (by omega), Int.ediv_le_self _ hx⟩
theorem used_r {r : Int → Int} (hA : AB r) {f : Int} : 0 ≤ usedM (pr r) (r 4) f ∧ usedM (pr r) (r 4) f ≤ 36 := used_bd (S := fun _ => r) (AB_B (S := fun _ => r) hA)
theorem mlt_0 {r : Int → Int} {p f : Int} : -1000 ≤ mltR evL r p f := by
  have := mltR_0 (ev := evL) (r := r) (p := p) (f := f)
  omega
section Snow3
variable {tb : Tab} {d : Nat} {m : AM} {K : Out → AM → Prop} {S : Nat → Int → Int} {r : Int → Int}
theorem hs_176 {E : Nat} : pg.2.1 176 E = none := rfl
theorem k176_0 : pg.1 176 0 = [.bipush 0, .istore 1, .bipush 1, .istore 2, .jsr 4] := rfl
theorem a176_0 {tb : Tab} {d : Nat} {K : Out → AM → Prop} {ls st : List AV} {m : AM} : At tb d 176 K 0 ls st m = wpB tb (pg.2.1 176) (Runs tb pg d) K (At tb d 176 K) [.bipush 0, .istore 1, .bipush 1, .istore 2, .jsr 4] ls st m := At.eq k176_0
theorem k176_4 : pg.1 176 4 = [.iload 2, .aload 0, .getfield 903, .getfield 800, .if_icmp .ge 62, .aload 0, .getfield 903, .getfield 803, .iload 2, .iaload, .aload 0, .getfield 915, .iload 2, .iaload, .bipush 1, .iadd, .idiv, .aload 0, .getfield 903, .getfield 803, .iload 1, .iaload, .aload 0, .getfield 915, .iload 1, .iaload, .bipush 1, .iadd, .idiv, .if_icmp .le 56, .iload 2, .istore 1, .jsr 56] := rfl
theorem a176_4 {tb : Tab} {d : Nat} {K : Out → AM → Prop} {ls st : List AV} {m : AM} : At tb d 176 K 4 ls st m = wpB tb (pg.2.1 176) (Runs tb pg d) K (At tb d 176 K) [.iload 2, .aload 0, .getfield 903, .getfield 800, .if_icmp .ge 62, .aload 0, .getfield 903, .getfield 803, .iload 2, .iaload, .aload 0, .getfield 915, .iload 2, .iaload, .bipush 1, .iadd, .idiv, .aload 0, .getfield 903, .getfield 803, .iload 1, .iaload, .aload 0, .getfield 915, .iload 1, .iaload, .bipush 1, .iadd, .idiv, .if_icmp .le 56, .iload 2, .istore 1, .jsr 56] ls st m := At.eq k176_4
theorem k176_56 : pg.1 176 56 = [.iinc 2 1, .goto 4] := rfl
theorem a176_56 {tb : Tab} {d : Nat} {K : Out → AM → Prop} {ls st : List AV} {m : AM} : At tb d 176 K 56 ls st m = wpB tb (pg.2.1 176) (Runs tb pg d) K (At tb d 176 K) [.iinc 2 1, .goto 4] ls st m := At.eq k176_56
theorem k176_62 : pg.1 176 62 = [.iload 1, .ireturn] := rfl
theorem a176_62 {tb : Tab} {d : Nat} {K : Out → AM → Prop} {ls st : List AV} {m : AM} : At tb d 176 K 62 ls st m = wpB tb (pg.2.1 176) (Runs tb pg d) K (At tb d 176 K) [.iload 1, .ireturn] ls st m := At.eq k176_62
theorem w_176 (hR : RW S 2 r) (hA : AB r) (h3 : 1 ≤ r 3) (hS : ∀ j, 0 ≤ j → j < 6 → 0 ≤ S 94 j ∧ S 94 j ≤ 1000) (hK : ∀ v, v = nxZ (fr r) (S 94) (r 3 - 1) → K (.inl (some (vi v))) (X S m)) : Runs tb pg (d + 1) 176 [vr 0] (X S m) K := by
  have hw := isW_2
  have b3 := hA.2.1.1
  have b4 := hA.2.1.2.1
  have b5 := hA.2.1.2.2.1
  have s3 : S 2 0 = r 3 := hR.1.1
  have hL4 : (fun x : Int => ∀ (b : Int) (q : Int), b = nxZ (fr r) (S 94) x → q = x + 1 → At tb d 176 K 4 [vr 0, vi b, vi q] [] (X S m)) 0 := by
    refine loopZ (fun x : Int => ∀ (b : Int) (q : Int), b = nxZ (fr r) (S 94) x → q = x + 1 → At tb d 176 K 4 [vr 0, vi b, vi q] [] (X S m)) (r 3 - 1) (by omega) ?_ ?_
    · intro x h0 h1 h9 b q hb hq
      have s3 : S 2 0 = r 3 := hR.1.1
      have q1 := nxZ_s (F := fr r) (H := S 94) h0
      have q2 := nxZ_rg (F := fr r) (H := S 94) h0
      rw [← hb] at q1 q2
      rw [← hq] at q1
      have q3 := hS b (by omega) (by omega)
      have q4 := hS q (by omega) (by omega)
      have q5 := AB_ff hA (f := b) (by omega) (by omega)
      have q6 := AB_ff hA (f := q) (by omega) (by omega)
      have e5 := (hR.2.1 b (by omega) (by omega)).2.2
      have e6 := (hR.2.1 q (by omega) (by omega)).2.2
      have d1 := dv_b q5.2.2.1.1 q3.1
      have d2 := dv_b q6.2.2.1.1 q4.1
      rw [a176_4]
      repeat' (first | omega | with_reducible refine h9 _ _ ?_ ?_ | simp only [w_iconst, w_istore, w_fall, Int.reduceToNat, w_iload, w_aload, x_g903_0, x_g800_w0, w_ifc, cI, x_g803_w0, x_iald, w_ialoads, w_ialoadw, x_g915_0, w_iadd, w_idiv, w_iinc, lgB, Nat.reduceSub, w_goto, w_ireturn, isA_w1, isA_w2, isA_w3, isA_w4, isA_w5, isA_w6, isA_w7, isA_w8, isA_w10, isA_w11, isA_w12, isA_w14, isA_w15, isA_w16, len_w1, len_w2, len_w3, len_w4, len_w5, len_w6, len_w7, len_w8, len_w10, len_w11, len_w12, len_w14, len_w15, len_w16, isA_94, len_94, Int.cast_ofNat_Int, a176_0, a176_56, a176_62, R32, List.getElem?_cons_zero, List.getElem?_cons_succ, List.set_cons_zero, List.set_cons_succ, List.cons_append, List.nil_append, List.replicate_succ, List.replicate_zero, List.take_succ_cons, List.take_zero, List.drop_succ_cons, List.drop_zero, List.reverse_cons, List.reverse_nil, List.length_cons, List.length_nil, Option.toList, true_and, and_true, eq_self, ↓reduceIte, not_true_eq_false, not_false_eq_true, true_or, or_true, hw, x_throw, hs_176] | (rw [s3]) | (rw [e5]) | (rw [e6]) | with_reducible refine And.intro ?_ ?_ | with_reducible intro _)
      all_goals (try (first | omega | contradiction | (rw [hq]; rw [if_pos (by assumption)] at q1; omega) | (rw [hq]; rw [if_neg (by omega)] at q1; omega) | (rw [hq] at *; rw [if_pos (by omega)] at q1; exact q1.symm) | (rw [hq] at *; rw [if_neg (by omega)] at q1; exact q1.symm)))
    · intro b q hb hq
      have s3 : S 2 0 = r 3 := hR.1.1
      rw [a176_4]
      repeat' (first | omega | (exact hK _ hb) | simp only [w_iconst, w_istore, w_fall, Int.reduceToNat, w_iload, w_aload, x_g903_0, x_g800_w0, w_ifc, cI, x_g803_w0, x_iald, w_ialoads, w_ialoadw, x_g915_0, w_iadd, w_idiv, w_iinc, lgB, Nat.reduceSub, w_goto, w_ireturn, isA_w1, isA_w2, isA_w3, isA_w4, isA_w5, isA_w6, isA_w7, isA_w8, isA_w10, isA_w11, isA_w12, isA_w14, isA_w15, isA_w16, len_w1, len_w2, len_w3, len_w4, len_w5, len_w6, len_w7, len_w8, len_w10, len_w11, len_w12, len_w14, len_w15, len_w16, isA_94, len_94, Int.cast_ofNat_Int, a176_0, a176_56, a176_62, R32, List.getElem?_cons_zero, List.getElem?_cons_succ, List.set_cons_zero, List.set_cons_succ, List.cons_append, List.nil_append, List.replicate_succ, List.replicate_zero, List.take_succ_cons, List.take_zero, List.drop_succ_cons, List.drop_zero, List.reverse_cons, List.reverse_nil, List.length_cons, List.length_nil, Option.toList, true_and, and_true, eq_self, ↓reduceIte, not_true_eq_false, not_false_eq_true, true_or, or_true, hw, x_throw, hs_176] | (rw [s3]) | (rw [e5]) | (rw [e6]) | with_reducible refine And.intro ?_ ?_ | with_reducible intro _)
      all_goals (try (first | omega | contradiction | skip))
  refine Runs.of (al := [vr 0]) (n := 2) ⟨0, _, _, rfl, xo_0⟩ rfl rfl trivial ?_
  repeat' (first | omega | (exact hL4 _ _ rfl rfl) | simp only [w_iconst, w_istore, w_fall, Int.reduceToNat, w_iload, w_aload, x_g903_0, x_g800_w0, w_ifc, cI, x_g803_w0, x_iald, w_ialoads, w_ialoadw, x_g915_0, w_iadd, w_idiv, w_iinc, lgB, Nat.reduceSub, w_goto, w_ireturn, isA_w1, isA_w2, isA_w3, isA_w4, isA_w5, isA_w6, isA_w7, isA_w8, isA_w10, isA_w11, isA_w12, isA_w14, isA_w15, isA_w16, len_w1, len_w2, len_w3, len_w4, len_w5, len_w6, len_w7, len_w8, len_w10, len_w11, len_w12, len_w14, len_w15, len_w16, isA_94, len_94, Int.cast_ofNat_Int, a176_0, a176_56, a176_62, R32, List.getElem?_cons_zero, List.getElem?_cons_succ, List.set_cons_zero, List.set_cons_succ, List.cons_append, List.nil_append, List.replicate_succ, List.replicate_zero, List.take_succ_cons, List.take_zero, List.drop_succ_cons, List.drop_zero, List.reverse_cons, List.reverse_nil, List.length_cons, List.length_nil, Option.toList, true_and, and_true, eq_self, ↓reduceIte, not_true_eq_false, not_false_eq_true, true_or, or_true, hw, x_throw, hs_176] | (rw [s3]) | with_reducible refine And.intro ?_ ?_ | with_reducible intro _)
  all_goals (try (first | omega | (exfalso; assumption) | skip))
theorem hs_175 {E : Nat} : pg.2.1 175 E = none := rfl
theorem k175_0 : pg.1 175 0 = [.aload 0, .iload 1, .invokeinterface 142 2, .iload 2, .bipush 0, .bipush 99, .invokeinterface 145 3, .aload 0, .getfield 915, .bipush 0, .invokeinterface 384 2, .bipush 0, .istore 3, .jsr 22] := rfl
theorem a175_0 {tb : Tab} {d : Nat} {K : Out → AM → Prop} {ls st : List AV} {m : AM} : At tb d 175 K 0 ls st m = wpB tb (pg.2.1 175) (Runs tb pg d) K (At tb d 175 K) [.aload 0, .iload 1, .invokeinterface 142 2, .iload 2, .bipush 0, .bipush 99, .invokeinterface 145 3, .aload 0, .getfield 915, .bipush 0, .invokeinterface 384 2, .bipush 0, .istore 3, .jsr 22] ls st m := At.eq k175_0
theorem k175_22 : pg.1 175 22 = [.iload 3, .iload 2, .if_icmp .ge 46, .aload 0, .getfield 915, .aload 0, .invokeinterface 176 1, .dup2, .iaload, .bipush 1, .iadd, .iastore, .iinc 3 1, .goto 22] := rfl
theorem a175_22 {tb : Tab} {d : Nat} {K : Out → AM → Prop} {ls st : List AV} {m : AM} : At tb d 175 K 22 ls st m = wpB tb (pg.2.1 175) (Runs tb pg d) K (At tb d 175 K) [.iload 3, .iload 2, .if_icmp .ge 46, .aload 0, .getfield 915, .aload 0, .invokeinterface 176 1, .dup2, .iaload, .bipush 1, .iadd, .iastore, .iinc 3 1, .goto 22] ls st m := At.eq k175_22
theorem k175_46 : pg.1 175 46 = [.aload 0, .getfield 915, .iload 1, .iaload, .ireturn] := rfl
theorem a175_46 {tb : Tab} {d : Nat} {K : Out → AM → Prop} {ls st : List AV} {m : AM} : At tb d 175 K 46 ls st m = wpB tb (pg.2.1 175) (Runs tb pg d) K (At tb d 175 K) [.aload 0, .getfield 915, .iload 1, .iaload, .ireturn] ls st m := At.eq k175_46
theorem w_175 {f n : Int} (hR : RW S 2 r) (hA : AB r) (hf : R32 f) (hn : R32 n) (hX1 : ¬ (0 ≤ f ∧ f < r 3) → K (.inr 2) (X S (mthrow m))) (hX2 : (0 ≤ f ∧ f < r 3) → ¬ (0 ≤ n ∧ n ≤ 99) → K (.inr 1) (X S (mthrow m))) (hK : ∀ T v, (0 ≤ f ∧ f < r 3) → (0 ≤ n ∧ n ≤ 99) → v = shH (fr r) (r 3) n.toNat f → FxE 94 S T → K (.inl (some (vi v))) (X T m)) : Runs tb pg (d + 3) 175 [vr 0, vi f, vi n] (X S m) K := by
  have hw := isW_2
  have b3 := hA.2.1.1
  have b4 := hA.2.1.2.1
  have b5 := hA.2.1.2.2.1
  have uhf := hf
  unfold R32 at uhf
  have uhn := hn
  unfold R32 at uhn
  have hL : (0 ≤ f ∧ f < r 3) → (0 ≤ n ∧ n ≤ 99) → At tb (d + 2) 175 K 22 [vr 0, vi f, vi n, vi 0] [] (X (fiS S 94 6 0) m) := by
    intro hf9 hn9
    have hL22 : (fun i : Int => ∀ (T : Nat → Int → Int), (FxE 94 S T) → (shW r T i) → At tb (d + 2) 175 K 22 [vr 0, vi f, vi n, vi i] [] (X T m)) 0 := by
      refine loopZ (fun i : Int => ∀ (T : Nat → Int → Int), (FxE 94 S T) → (shW r T i) → At tb (d + 2) 175 K 22 [vr 0, vi f, vi n, vi i] [] (X T m)) (n) (by omega) ?_ ?_
      · intro i h0 h1 h9 T hT hv
        have hRT : RW T 2 r := RW_k hR (fun k hk => hT _ (by omega))
        have hxx := shW_x hv b3
        have hS6 : ∀ j, 0 ≤ j → j < 6 → 0 ≤ T 94 j ∧ T 94 j ≤ 1000 := fun j j0 j1 => by have := hv j j0 j1; omega
        have nr := nxZ_rg (F := fr r) (H := T 94) (show 0 ≤ r 3 - 1 by omega)
        rw [a175_22]
        repeat' (first | omega | (exact h9 _ (FxE_u hT) (shW_s hv h0 x2)) | simp only [w_aload, w_iload, w_call, w_iconst, x_g915_0, w_istore, w_fall, Int.reduceToNat, w_ifc, cI, w_dup2, x_iald, w_ialoads, w_ialoadw, w_iadd, x_iast, w_iinc, lgB, Nat.reduceSub, w_goto, w_ireturn, isA_w1, isA_w2, isA_w3, isA_w4, isA_w5, isA_w6, isA_w7, isA_w8, isA_w10, isA_w11, isA_w12, isA_w14, isA_w15, isA_w16, len_w1, len_w2, len_w3, len_w4, len_w5, len_w6, len_w7, len_w8, len_w10, len_w11, len_w12, len_w14, len_w15, len_w16, isA_94, len_94, Int.cast_ofNat_Int, a175_0, a175_46, R32, List.getElem?_cons_zero, List.getElem?_cons_succ, List.set_cons_zero, List.set_cons_succ, List.cons_append, List.nil_append, List.replicate_succ, List.replicate_zero, List.take_succ_cons, List.take_zero, List.drop_succ_cons, List.drop_zero, List.reverse_cons, List.reverse_nil, List.length_cons, List.length_nil, Option.toList, true_and, and_true, eq_self, ↓reduceIte, not_true_eq_false, not_false_eq_true, true_or, or_true, hw, x_throw, hs_175] | ((with_reducible refine w_176 hRT hA (by omega) hS6 (fun v1 x1 => ?_)); have y1 := hS6 v1 (by omega) (by omega); have x2 := x1.trans hxx) | with_reducible refine And.intro ?_ ?_ | with_reducible intro _)
        all_goals (try (first | omega | contradiction | omega))
      · intro T hT hv
        rw [a175_22]
        repeat' (first | omega | (exact hK _ _ hf9 hn9 (by have e := (hv f (by omega) (by omega)).1; exact e) hT) | simp only [w_aload, w_iload, w_call, w_iconst, x_g915_0, w_istore, w_fall, Int.reduceToNat, w_ifc, cI, w_dup2, x_iald, w_ialoads, w_ialoadw, w_iadd, x_iast, w_iinc, lgB, Nat.reduceSub, w_goto, w_ireturn, isA_w1, isA_w2, isA_w3, isA_w4, isA_w5, isA_w6, isA_w7, isA_w8, isA_w10, isA_w11, isA_w12, isA_w14, isA_w15, isA_w16, len_w1, len_w2, len_w3, len_w4, len_w5, len_w6, len_w7, len_w8, len_w10, len_w11, len_w12, len_w14, len_w15, len_w16, isA_94, len_94, Int.cast_ofNat_Int, a175_0, a175_46, R32, List.getElem?_cons_zero, List.getElem?_cons_succ, List.set_cons_zero, List.set_cons_succ, List.cons_append, List.nil_append, List.replicate_succ, List.replicate_zero, List.take_succ_cons, List.take_zero, List.drop_succ_cons, List.drop_zero, List.reverse_cons, List.reverse_nil, List.length_cons, List.length_nil, Option.toList, true_and, and_true, eq_self, ↓reduceIte, not_true_eq_false, not_false_eq_true, true_or, or_true, hw, x_throw, hs_175] | ((with_reducible refine w_176 hRT hA (by omega) hS6 (fun v1 x1 => ?_)); have y1 := hS6 v1 (by omega) (by omega); have x2 := x1.trans hxx) | with_reducible refine And.intro ?_ ?_ | with_reducible intro _)
        all_goals (try (first | omega | contradiction | skip))
    exact hL22 _ fiS_x shW_0
  refine Runs.of (al := [vr 0, vi f, vi n]) (n := 1) ⟨0, _, _, rfl, xo_0⟩ rfl rfl trivial ?_
  repeat' (first | omega | (exact hL z z2) | (exact hX1 z) | (exact hX2 z z2) | simp only [w_aload, w_iload, w_call, w_iconst, x_g915_0, w_istore, w_fall, Int.reduceToNat, w_ifc, cI, w_dup2, x_iald, w_ialoads, w_ialoadw, w_iadd, x_iast, w_iinc, lgB, Nat.reduceSub, w_goto, w_ireturn, isA_w1, isA_w2, isA_w3, isA_w4, isA_w5, isA_w6, isA_w7, isA_w8, isA_w10, isA_w11, isA_w12, isA_w14, isA_w15, isA_w16, len_w1, len_w2, len_w3, len_w4, len_w5, len_w6, len_w7, len_w8, len_w10, len_w11, len_w12, len_w14, len_w15, len_w16, isA_94, len_94, Int.cast_ofNat_Int, a175_0, a175_46, R32, List.getElem?_cons_zero, List.getElem?_cons_succ, List.set_cons_zero, List.set_cons_succ, List.cons_append, List.nil_append, List.replicate_succ, List.replicate_zero, List.take_succ_cons, List.take_zero, List.drop_succ_cons, List.drop_zero, List.reverse_cons, List.reverse_nil, List.length_cons, List.length_nil, Option.toList, true_and, and_true, eq_self, ↓reduceIte, not_true_eq_false, not_false_eq_true, true_or, or_true, hw, x_throw, hs_175] | (with_reducible refine w_142 hR hA hf (fun z => ?_) (fun z => ?_)) | (with_reducible refine w_145 hn (by unfold R32; omega) (by unfold R32; omega) (fun z2 => ?_) (fun z2 => ?_)) | (with_reducible refine w_384 isA_94 (by decide) ?_) | with_reducible refine And.intro ?_ ?_ | with_reducible intro _)
  all_goals (try (first | omega | (exfalso; assumption) | skip))
theorem k178_0 : pg.1 178 0 = [.iload 0, .ifCond .ne 16, .iload 1, .ifCond .ne 14, .iload 2, .iload 3, .isub, .goto 15] := rfl
theorem a178_0 {tb : Tab} {d : Nat} {K : Out → AM → Prop} {ls st : List AV} {m : AM} : At tb d 178 K 0 ls st m = wpB tb (pg.2.1 178) (Runs tb pg d) K (At tb d 178 K) [.iload 0, .ifCond .ne 16, .iload 1, .ifCond .ne 14, .iload 2, .iload 3, .isub, .goto 15] ls st m := At.eq k178_0
theorem k178_14 : pg.1 178 14 = [.iload 2, .jsr 15] := rfl
theorem a178_14 {tb : Tab} {d : Nat} {K : Out → AM → Prop} {ls st : List AV} {m : AM} : At tb d 178 K 14 ls st m = wpB tb (pg.2.1 178) (Runs tb pg d) K (At tb d 178 K) [.iload 2, .jsr 15] ls st m := At.eq k178_14
theorem k178_15 : pg.1 178 15 = [.ireturn] := rfl
theorem a178_15 {tb : Tab} {d : Nat} {K : Out → AM → Prop} {ls st : List AV} {m : AM} : At tb d 178 K 15 ls st m = wpB tb (pg.2.1 178) (Runs tb pg d) K (At tb d 178 K) [.ireturn] ls st m := At.eq k178_15
theorem k178_16 : pg.1 178 16 = [.iload 1, .ifCond .ne 24, .bipush 0, .goto 25] := rfl
theorem a178_16 {tb : Tab} {d : Nat} {K : Out → AM → Prop} {ls st : List AV} {m : AM} : At tb d 178 K 16 ls st m = wpB tb (pg.2.1 178) (Runs tb pg d) K (At tb d 178 K) [.iload 1, .ifCond .ne 24, .bipush 0, .goto 25] ls st m := At.eq k178_16
theorem k178_24 : pg.1 178 24 = [.bipush 1, .jsr 25] := rfl
theorem a178_24 {tb : Tab} {d : Nat} {K : Out → AM → Prop} {ls st : List AV} {m : AM} : At tb d 178 K 24 ls st m = wpB tb (pg.2.1 178) (Runs tb pg d) K (At tb d 178 K) [.bipush 1, .jsr 25] ls st m := At.eq k178_24
theorem k178_25 : pg.1 178 25 = [.ireturn] := rfl
theorem a178_25 {tb : Tab} {d : Nat} {K : Out → AM → Prop} {ls st : List AV} {m : AM} : At tb d 178 K 25 ls st m = wpB tb (pg.2.1 178) (Runs tb pg d) K (At tb d 178 K) [.ireturn] ls st m := At.eq k178_25
theorem w_178 {x l a b : Int} (ha : R32 a) (hb : R32 b) (hx : -1000 ≤ x ∧ x ≤ 1000) (hl : -1000 ≤ l ∧ l ≤ 1000) (hK : ∀ v, v = clkV x l a b → -2000 ≤ v → v ≤ 2000 → K (.inl (some (vi v))) m) : Runs tb pg (d + 1) 178 [vi a, vi b, vi x, vi l] m K := by
  refine Runs.of (al := [vi a, vi b, vi x, vi l]) (n := 0) trivial rfl rfl trivial ?_
  unfold R32 at ha hb
  repeat' (first | omega | (refine hK _ ?_ (by omega) (by omega)) | simp only [w_iload, w_if, cI, Int.reduceToNat, w_isub, w_goto, w_fall, w_ireturn, w_iconst, a178_0, a178_14, a178_15, a178_16, a178_24, a178_25, R32, List.getElem?_cons_zero, List.getElem?_cons_succ, List.set_cons_zero, List.set_cons_succ, List.cons_append, List.nil_append, List.replicate_succ, List.replicate_zero, List.take_succ_cons, List.take_zero, List.drop_succ_cons, List.drop_zero, List.reverse_cons, List.reverse_nil, List.length_cons, List.length_nil, Option.toList, true_and, and_true, eq_self, ↓reduceIte, not_true_eq_false, not_false_eq_true, true_or, or_true] | with_reducible refine And.intro ?_ ?_ | with_reducible intro _)
  all_goals (try (first | omega | contradiction | (unfold clkV; grind)))
theorem k179_0 : pg.1 179 0 = [.iload 0, .ifCond .ne 14, .iload 1, .ifCond .ne 12, .bipush 2, .goto 13] := rfl
theorem a179_0 {tb : Tab} {d : Nat} {K : Out → AM → Prop} {ls st : List AV} {m : AM} : At tb d 179 K 0 ls st m = wpB tb (pg.2.1 179) (Runs tb pg d) K (At tb d 179 K) [.iload 0, .ifCond .ne 14, .iload 1, .ifCond .ne 12, .bipush 2, .goto 13] ls st m := At.eq k179_0
theorem k179_12 : pg.1 179 12 = [.bipush 1, .jsr 13] := rfl
theorem a179_12 {tb : Tab} {d : Nat} {K : Out → AM → Prop} {ls st : List AV} {m : AM} : At tb d 179 K 12 ls st m = wpB tb (pg.2.1 179) (Runs tb pg d) K (At tb d 179 K) [.bipush 1, .jsr 13] ls st m := At.eq k179_12
theorem k179_13 : pg.1 179 13 = [.ireturn] := rfl
theorem a179_13 {tb : Tab} {d : Nat} {K : Out → AM → Prop} {ls st : List AV} {m : AM} : At tb d 179 K 13 ls st m = wpB tb (pg.2.1 179) (Runs tb pg d) K (At tb d 179 K) [.ireturn] ls st m := At.eq k179_13
theorem k179_14 : pg.1 179 14 = [.iload 1, .ifCond .ne 23, .iload 2, .ineg, .goto 24] := rfl
theorem a179_14 {tb : Tab} {d : Nat} {K : Out → AM → Prop} {ls st : List AV} {m : AM} : At tb d 179 K 14 ls st m = wpB tb (pg.2.1 179) (Runs tb pg d) K (At tb d 179 K) [.iload 1, .ifCond .ne 23, .iload 2, .ineg, .goto 24] ls st m := At.eq k179_14
theorem k179_23 : pg.1 179 23 = [.bipush 0, .jsr 24] := rfl
theorem a179_23 {tb : Tab} {d : Nat} {K : Out → AM → Prop} {ls st : List AV} {m : AM} : At tb d 179 K 23 ls st m = wpB tb (pg.2.1 179) (Runs tb pg d) K (At tb d 179 K) [.bipush 0, .jsr 24] ls st m := At.eq k179_23
theorem k179_24 : pg.1 179 24 = [.ireturn] := rfl
theorem a179_24 {tb : Tab} {d : Nat} {K : Out → AM → Prop} {ls st : List AV} {m : AM} : At tb d 179 K 24 ls st m = wpB tb (pg.2.1 179) (Runs tb pg d) K (At tb d 179 K) [.ireturn] ls st m := At.eq k179_24
theorem w_179 {x a b : Int} (ha : R32 a) (hb : R32 b) (hx : -1000 ≤ x ∧ x ≤ 1000) (hK : ∀ v, v = sunV x a b → -2000 ≤ v → v ≤ 2000 → K (.inl (some (vi v))) m) : Runs tb pg (d + 1) 179 [vi a, vi b, vi x] m K := by
  refine Runs.of (al := [vi a, vi b, vi x]) (n := 0) trivial rfl rfl trivial ?_
  unfold R32 at ha hb
  repeat' (first | omega | (refine hK _ ?_ (by omega) (by omega)) | simp only [w_iload, w_if, cI, Int.reduceToNat, w_iconst, w_goto, w_fall, w_ireturn, w_ineg, a179_0, a179_12, a179_13, a179_14, a179_23, a179_24, R32, List.getElem?_cons_zero, List.getElem?_cons_succ, List.set_cons_zero, List.set_cons_succ, List.cons_append, List.nil_append, List.replicate_succ, List.replicate_zero, List.take_succ_cons, List.take_zero, List.drop_succ_cons, List.drop_zero, List.reverse_cons, List.reverse_nil, List.length_cons, List.length_nil, Option.toList, true_and, and_true, eq_self, ↓reduceIte, not_true_eq_false, not_false_eq_true, true_or, or_true] | with_reducible refine And.intro ?_ ?_ | with_reducible intro _)
  all_goals (try (first | omega | contradiction | (unfold sunV; grind)))
theorem hs_177 {E : Nat} : pg.2.1 177 E = none := rfl
theorem k177_0 : pg.1 177 0 = [.aload 0, .iload 1, .invokeinterface 143 2, .aload 0, .iload 2, .invokeinterface 142 2, .aload 0, .getfield 903, .iload 1, .iload 2, .invokeinterface 125 3, .istore 3, .aload 0, .getfield 903, .iload 1, .iload 2, .invokeinterface 124 3, .istore 4, .bipush 0, .istore 5, .bipush 0, .istore 6, .jsr 37] := rfl
theorem a177_0 {tb : Tab} {d : Nat} {K : Out → AM → Prop} {ls st : List AV} {m : AM} : At tb d 177 K 0 ls st m = wpB tb (pg.2.1 177) (Runs tb pg d) K (At tb d 177 K) [.aload 0, .iload 1, .invokeinterface 143 2, .aload 0, .iload 2, .invokeinterface 142 2, .aload 0, .getfield 903, .iload 1, .iload 2, .invokeinterface 125 3, .istore 3, .aload 0, .getfield 903, .iload 1, .iload 2, .invokeinterface 124 3, .istore 4, .bipush 0, .istore 5, .bipush 0, .istore 6, .jsr 37] ls st m := At.eq k177_0
theorem k177_37 : pg.1 177 37 = [.iload 6, .bipush 2, .if_icmp .ge 164, .bipush 0, .istore 7, .jsr 46] := rfl
theorem a177_37 {tb : Tab} {d : Nat} {K : Out → AM → Prop} {ls st : List AV} {m : AM} : At tb d 177 K 37 ls st m = wpB tb (pg.2.1 177) (Runs tb pg d) K (At tb d 177 K) [.iload 6, .bipush 2, .if_icmp .ge 164, .bipush 0, .istore 7, .jsr 46] ls st m := At.eq k177_37
theorem k177_46 : pg.1 177 46 = [.iload 7, .bipush 2, .if_icmp .ge 158, .iload 6, .iload 7, .iload 3, .iload 4, .invokeinterface 178 4, .bipush 1, .iload 6, .isub, .iload 7, .iload 3, .iload 4, .invokeinterface 178 4, .if_icmp .lt 81, .bipush 1, .goto 82] := rfl
theorem a177_46 {tb : Tab} {d : Nat} {K : Out → AM → Prop} {ls st : List AV} {m : AM} : At tb d 177 K 46 ls st m = wpB tb (pg.2.1 177) (Runs tb pg d) K (At tb d 177 K) [.iload 7, .bipush 2, .if_icmp .ge 158, .iload 6, .iload 7, .iload 3, .iload 4, .invokeinterface 178 4, .bipush 1, .iload 6, .isub, .iload 7, .iload 3, .iload 4, .invokeinterface 178 4, .if_icmp .lt 81, .bipush 1, .goto 82] ls st m := At.eq k177_46
theorem k177_81 : pg.1 177 81 = [.bipush 0, .jsr 82] := rfl
theorem a177_81 {tb : Tab} {d : Nat} {K : Out → AM → Prop} {ls st : List AV} {m : AM} : At tb d 177 K 81 ls st m = wpB tb (pg.2.1 177) (Runs tb pg d) K (At tb d 177 K) [.bipush 0, .jsr 82] ls st m := At.eq k177_81
theorem k177_82 : pg.1 177 82 = [.istore 8, .iload 6, .iload 7, .aload 0, .getfield 903, .getfield 801, .iload 2, .iaload, .invokeinterface 179 3, .iload 6, .bipush 1, .iload 7, .isub, .aload 0, .getfield 903, .getfield 801, .iload 2, .iaload, .invokeinterface 179 3, .if_icmp .lt 125, .bipush 1, .goto 126] := rfl
theorem a177_82 {tb : Tab} {d : Nat} {K : Out → AM → Prop} {ls st : List AV} {m : AM} : At tb d 177 K 82 ls st m = wpB tb (pg.2.1 177) (Runs tb pg d) K (At tb d 177 K) [.istore 8, .iload 6, .iload 7, .aload 0, .getfield 903, .getfield 801, .iload 2, .iaload, .invokeinterface 179 3, .iload 6, .bipush 1, .iload 7, .isub, .aload 0, .getfield 903, .getfield 801, .iload 2, .iaload, .invokeinterface 179 3, .if_icmp .lt 125, .bipush 1, .goto 126] ls st m := At.eq k177_82
theorem k177_125 : pg.1 177 125 = [.bipush 0, .jsr 126] := rfl
theorem a177_125 {tb : Tab} {d : Nat} {K : Out → AM → Prop} {ls st : List AV} {m : AM} : At tb d 177 K 125 ls st m = wpB tb (pg.2.1 177) (Runs tb pg d) K (At tb d 177 K) [.bipush 0, .jsr 126] ls st m := At.eq k177_125
theorem k177_126 : pg.1 177 126 = [.istore 9, .iload 8, .ifCond .eq 152, .iload 9, .ifCond .eq 152, .iload 5, .bipush 1, .bipush 2, .iload 6, .imul, .iload 7, .iadd, .ishl, .ior, .istore 5, .jsr 152] := rfl
theorem a177_126 {tb : Tab} {d : Nat} {K : Out → AM → Prop} {ls st : List AV} {m : AM} : At tb d 177 K 126 ls st m = wpB tb (pg.2.1 177) (Runs tb pg d) K (At tb d 177 K) [.istore 9, .iload 8, .ifCond .eq 152, .iload 9, .ifCond .eq 152, .iload 5, .bipush 1, .bipush 2, .iload 6, .imul, .iload 7, .iadd, .ishl, .ior, .istore 5, .jsr 152] ls st m := At.eq k177_126
theorem k177_152 : pg.1 177 152 = [.iinc 7 1, .goto 46] := rfl
theorem a177_152 {tb : Tab} {d : Nat} {K : Out → AM → Prop} {ls st : List AV} {m : AM} : At tb d 177 K 152 ls st m = wpB tb (pg.2.1 177) (Runs tb pg d) K (At tb d 177 K) [.iinc 7 1, .goto 46] ls st m := At.eq k177_152
theorem k177_158 : pg.1 177 158 = [.iinc 6 1, .goto 37] := rfl
theorem a177_158 {tb : Tab} {d : Nat} {K : Out → AM → Prop} {ls st : List AV} {m : AM} : At tb d 177 K 158 ls st m = wpB tb (pg.2.1 177) (Runs tb pg d) K (At tb d 177 K) [.iinc 6 1, .goto 37] ls st m := At.eq k177_158
theorem k177_164 : pg.1 177 164 = [.iload 5, .ireturn] := rfl
theorem a177_164 {tb : Tab} {d : Nat} {K : Out → AM → Prop} {ls st : List AV} {m : AM} : At tb d 177 K 164 ls st m = wpB tb (pg.2.1 177) (Runs tb pg d) K (At tb d 177 K) [.iload 5, .ireturn] ls st m := At.eq k177_164
theorem w_177 {p f : Int} (hR : RW S 2 r) (hA : AB r) (hp : R32 p) (hf : R32 f) (hl : LWo m (S 2 15) (lawD r)) (hX : ¬ ((0 ≤ p ∧ p < r 4) ∧ (0 ≤ f ∧ f < r 3)) → K (.inr 2) (X S (mthrow m))) (hK : ∀ T m1 v, (0 ≤ p ∧ p < r 4) → (0 ≤ f ∧ f < r 3) → v = setZ 4 (resM (dptR evL r p f) (mltR evL r p f) (fr r f 0)) → FT S T 2 → MS m m1 → K (.inl (some (vi v))) (X T m1)) : Runs tb pg (d + 4) 177 [vr 0, vi p, vi f] (X S m) K := by
  have hw := isW_2
  have b3 := hA.2.1.1
  have b4 := hA.2.1.2.1
  have b5 := hA.2.1.2.2.1
  have uhp := hp
  unfold R32 at uhp
  have uhf := hf
  unfold R32 at uhf
  have hL : ∀ (T : Nat → Int → Int) (m1 : AM) (x l : Int) (z7 z8 z9 : AV), (0 ≤ p ∧ p < r 4) → (0 ≤ f ∧ f < r 3) → FT S T 2 → MS m m1 → x = dptR evL r p f → l = mltR evL r p f → At tb (d + 3) 177 K 37 [vr 0, vi p, vi f, vi x, vi l, vi 0, vi 0, z7, z8, z9] [] (X T m1) := by
    intro T m1 x l z7 z8 z9 z1 z hF hM hx hlx
    have bx := dpt_rg (r := r) (p := p) (f := f)
    have bl := mlt_rg hA (p := p) z
    have bl0 := mlt_0 (r := r) (p := p) (f := f)
    have hRT : RW T 2 r := RW_F hR hF
    have e1 := (hRT.2.1 f z.1 z.2).1
    have fb := AB_ff hA z.1 z.2
    have hL37 : (fun c : Int => ∀ (y7 : AV) (y8 : AV) (y9 : AV) (a : Int), a = setZ (2 * c) (resM x l (fr r f 0)) → At tb (d + 3) 177 K 37 [vr 0, vi p, vi f, vi x, vi l, vi a, vi c, y7, y8, y9] [] (X T m1)) 0 := by
      refine loopZ (fun c : Int => ∀ (y7 : AV) (y8 : AV) (y9 : AV) (a : Int), a = setZ (2 * c) (resM x l (fr r f 0)) → At tb (d + 3) 177 K 37 [vr 0, vi p, vi f, vi x, vi l, vi a, vi c, y7, y8, y9] [] (X T m1)) (2) (by omega) ?_ ?_
      · intro c h0 h1 h9 y7 y8 y9 a ha
        have hL46 : (fun s : Int => ∀ (y8 : AV) (y9 : AV) (a : Int), a = setZ (2 * c + s) (resM x l (fr r f 0)) → At tb (d + 3) 177 K 46 [vr 0, vi p, vi f, vi x, vi l, vi a, vi c, vi s, y8, y9] [] (X T m1)) 0 := by
          refine loopZ (fun s : Int => ∀ (y8 : AV) (y9 : AV) (a : Int), a = setZ (2 * c + s) (resM x l (fr r f 0)) → At tb (d + 3) 177 K 46 [vr 0, vi p, vi f, vi x, vi l, vi a, vi c, vi s, y8, y9] [] (X T m1)) (2) (by omega) ?_ ?_
          · intro s j0 j1 h8 y8 y9 a ha
            rw [a177_46]
            repeat' (first | omega | with_reducible refine h8 _ _ _ ?_ | simp only [w_aload, w_iload, w_call, x_g903_0, w_istore, w_iconst, w_fall, Int.reduceToNat, w_ifc, cI, w_isub, w_goto, x_g801_w0, x_iald, w_ialoads, w_ialoadw, w_if, w_imul, w_iadd, w_ishl, w_ior, w_iinc, lgB, Nat.reduceSub, w_ireturn, isA_w1, isA_w2, isA_w3, isA_w4, isA_w5, isA_w6, isA_w7, isA_w8, isA_w10, isA_w11, isA_w12, isA_w14, isA_w15, isA_w16, len_w1, len_w2, len_w3, len_w4, len_w5, len_w6, len_w7, len_w8, len_w10, len_w11, len_w12, len_w14, len_w15, len_w16, Int.cast_ofNat_Int, a177_0, a177_81, a177_82, a177_125, a177_126, a177_152, a177_158, a177_164, R32, List.getElem?_cons_zero, List.getElem?_cons_succ, List.set_cons_zero, List.set_cons_succ, List.cons_append, List.nil_append, List.replicate_succ, List.replicate_zero, List.take_succ_cons, List.take_zero, List.drop_succ_cons, List.drop_zero, List.reverse_cons, List.reverse_nil, List.length_cons, List.length_nil, Option.toList, true_and, and_true, eq_self, ↓reduceIte, not_true_eq_false, not_false_eq_true, true_or, or_true, hw, x_throw, hs_177] | (rw [e1]) | (with_reducible refine w_178 (by unfold R32; omega) (by unfold R32; omega) (by omega) (by omega) (fun v1 x1 u1 w1 => ?_)) | (with_reducible refine w_179 (by unfold R32; omega) (by unfold R32; omega) (by omega) (fun v2 x2 u2 w2 => ?_)) | with_reducible refine And.intro ?_ ?_ | with_reducible intro _)
            all_goals (try (first | omega | contradiction | (exact res_y ⟨h0, h1⟩ ⟨j0, j1⟩ ha (by omega) (by omega)) | (exact res_n ⟨h0, h1⟩ ⟨j0, j1⟩ ha (by omega))))
          · intro y8 y9 a ha
            rw [a177_46]
            repeat' (first | omega | (exact h9 _ _ _ _ (by rw [ha, show 2 * c + 2 = 2 * (c + 1) by omega])) | simp only [w_aload, w_iload, w_call, x_g903_0, w_istore, w_iconst, w_fall, Int.reduceToNat, w_ifc, cI, w_isub, w_goto, x_g801_w0, x_iald, w_ialoads, w_ialoadw, w_if, w_imul, w_iadd, w_ishl, w_ior, w_iinc, lgB, Nat.reduceSub, w_ireturn, isA_w1, isA_w2, isA_w3, isA_w4, isA_w5, isA_w6, isA_w7, isA_w8, isA_w10, isA_w11, isA_w12, isA_w14, isA_w15, isA_w16, len_w1, len_w2, len_w3, len_w4, len_w5, len_w6, len_w7, len_w8, len_w10, len_w11, len_w12, len_w14, len_w15, len_w16, Int.cast_ofNat_Int, a177_0, a177_81, a177_82, a177_125, a177_126, a177_152, a177_158, a177_164, R32, List.getElem?_cons_zero, List.getElem?_cons_succ, List.set_cons_zero, List.set_cons_succ, List.cons_append, List.nil_append, List.replicate_succ, List.replicate_zero, List.take_succ_cons, List.take_zero, List.drop_succ_cons, List.drop_zero, List.reverse_cons, List.reverse_nil, List.length_cons, List.length_nil, Option.toList, true_and, and_true, eq_self, ↓reduceIte, not_true_eq_false, not_false_eq_true, true_or, or_true, hw, x_throw, hs_177] | (rw [e1]) | (with_reducible refine w_178 (by unfold R32; omega) (by unfold R32; omega) (by omega) (by omega) (fun v1 x1 u1 w1 => ?_)) | (with_reducible refine w_179 (by unfold R32; omega) (by unfold R32; omega) (by omega) (fun v2 x2 u2 w2 => ?_)) | with_reducible refine And.intro ?_ ?_ | with_reducible intro _)
            all_goals (try (first | omega | contradiction | skip))
        rw [a177_37]
        repeat' (first | omega | with_reducible refine h9 _ _ _ _ ?_ | (exact hL46 _ _ _ (by rw [ha, Int.add_zero])) | simp only [w_aload, w_iload, w_call, x_g903_0, w_istore, w_iconst, w_fall, Int.reduceToNat, w_ifc, cI, w_isub, w_goto, x_g801_w0, x_iald, w_ialoads, w_ialoadw, w_if, w_imul, w_iadd, w_ishl, w_ior, w_iinc, lgB, Nat.reduceSub, w_ireturn, isA_w1, isA_w2, isA_w3, isA_w4, isA_w5, isA_w6, isA_w7, isA_w8, isA_w10, isA_w11, isA_w12, isA_w14, isA_w15, isA_w16, len_w1, len_w2, len_w3, len_w4, len_w5, len_w6, len_w7, len_w8, len_w10, len_w11, len_w12, len_w14, len_w15, len_w16, Int.cast_ofNat_Int, a177_0, a177_81, a177_82, a177_125, a177_126, a177_152, a177_158, a177_164, R32, List.getElem?_cons_zero, List.getElem?_cons_succ, List.set_cons_zero, List.set_cons_succ, List.cons_append, List.nil_append, List.replicate_succ, List.replicate_zero, List.take_succ_cons, List.take_zero, List.drop_succ_cons, List.drop_zero, List.reverse_cons, List.reverse_nil, List.length_cons, List.length_nil, Option.toList, true_and, and_true, eq_self, ↓reduceIte, not_true_eq_false, not_false_eq_true, true_or, or_true, hw, x_throw, hs_177] | with_reducible refine And.intro ?_ ?_ | with_reducible intro _)
        all_goals (try (first | omega | contradiction | skip))
      · intro y7 y8 y9 a ha
        rw [a177_37]
        repeat' (first | omega | (exact hK _ _ _ z1 z (by rw [ha, hx, hlx]; rfl) hF hM) | simp only [w_aload, w_iload, w_call, x_g903_0, w_istore, w_iconst, w_fall, Int.reduceToNat, w_ifc, cI, w_isub, w_goto, x_g801_w0, x_iald, w_ialoads, w_ialoadw, w_if, w_imul, w_iadd, w_ishl, w_ior, w_iinc, lgB, Nat.reduceSub, w_ireturn, isA_w1, isA_w2, isA_w3, isA_w4, isA_w5, isA_w6, isA_w7, isA_w8, isA_w10, isA_w11, isA_w12, isA_w14, isA_w15, isA_w16, len_w1, len_w2, len_w3, len_w4, len_w5, len_w6, len_w7, len_w8, len_w10, len_w11, len_w12, len_w14, len_w15, len_w16, Int.cast_ofNat_Int, a177_0, a177_81, a177_82, a177_125, a177_126, a177_152, a177_158, a177_164, R32, List.getElem?_cons_zero, List.getElem?_cons_succ, List.set_cons_zero, List.set_cons_succ, List.cons_append, List.nil_append, List.replicate_succ, List.replicate_zero, List.take_succ_cons, List.take_zero, List.drop_succ_cons, List.drop_zero, List.reverse_cons, List.reverse_nil, List.length_cons, List.length_nil, Option.toList, true_and, and_true, eq_self, ↓reduceIte, not_true_eq_false, not_false_eq_true, true_or, or_true, hw, x_throw, hs_177] | with_reducible refine And.intro ?_ ?_ | with_reducible intro _)
        all_goals (try (first | omega | contradiction | skip))
    exact hL37 _ _ _ _ rfl
  refine Runs.of (al := [vr 0, vi p, vi f]) (n := 7) ⟨0, _, _, rfl, xo_0⟩ rfl rfl trivial ?_
  repeat' (first | omega | (exact hL _ _ _ _ _ _ _ z1 z (FT_t y5 y6) (MS_t u5 u6) x5 x6) | (exact hX (fun y => z1 y.1)) | (exact hX (fun y => z y.2)) | simp only [w_aload, w_iload, w_call, x_g903_0, w_istore, w_iconst, w_fall, Int.reduceToNat, w_ifc, cI, w_isub, w_goto, x_g801_w0, x_iald, w_ialoads, w_ialoadw, w_if, w_imul, w_iadd, w_ishl, w_ior, w_iinc, lgB, Nat.reduceSub, w_ireturn, isA_w1, isA_w2, isA_w3, isA_w4, isA_w5, isA_w6, isA_w7, isA_w8, isA_w10, isA_w11, isA_w12, isA_w14, isA_w15, isA_w16, len_w1, len_w2, len_w3, len_w4, len_w5, len_w6, len_w7, len_w8, len_w10, len_w11, len_w12, len_w14, len_w15, len_w16, Int.cast_ofNat_Int, a177_0, a177_81, a177_82, a177_125, a177_126, a177_152, a177_158, a177_164, R32, List.getElem?_cons_zero, List.getElem?_cons_succ, List.set_cons_zero, List.set_cons_succ, List.cons_append, List.nil_append, List.replicate_succ, List.replicate_zero, List.take_succ_cons, List.take_zero, List.drop_succ_cons, List.drop_zero, List.reverse_cons, List.reverse_nil, List.length_cons, List.length_nil, Option.toList, true_and, and_true, eq_self, ↓reduceIte, not_true_eq_false, not_false_eq_true, true_or, or_true, hw, x_throw, hs_177] | (with_reducible refine w_143 hR hA hp (fun z1 => ?_) (fun z1 => ?_)) | (with_reducible refine w_142 hR hA hf (fun z => ?_) (fun z => ?_)) | ((with_reducible refine w_125 hw hR hA z1 z hl (fun T5 m5 v5 x5 y5 u5 => ?_)); have hR5 : RW T5 2 r := RW_F hR y5; have hl5 : LWo m5 (T5 2 15) (lawD r) := (by rw [y5 2 (by decide)]; exact LWo_s u5 hl)) | (with_reducible refine w_124 hw hR5 hA z1 z hl5 (fun T6 m6 v6 x6 y6 u6 => ?_)) | with_reducible refine And.intro ?_ ?_ | with_reducible intro _)
  all_goals (try (first | omega | (exfalso; assumption) | skip))
theorem hs_180 {E : Nat} : pg.2.1 180 E = none := rfl
theorem k180_0 : pg.1 180 0 = [.iload 1, .bipush 0, .bipush 5, .invokeinterface 145 3, .iload 2, .bipush 0, .bipush 5, .invokeinterface 145 3, .aload 0, .getfield 903, .getfield 812, .bipush 2, .iaload, .i2l, .lstore 3, .sipush 1, .lstore 5, .aload 0, .getfield 916, .sipush 0, .invokeinterface 385 2, .aload 0, .getfield 916, .bipush 0, .sipush 1, .lastore, .bipush 0, .istore 7, .jsr 44] := rfl
theorem a180_0 {tb : Tab} {d : Nat} {K : Out → AM → Prop} {ls st : List AV} {m : AM} : At tb d 180 K 0 ls st m = wpB tb (pg.2.1 180) (Runs tb pg d) K (At tb d 180 K) [.iload 1, .bipush 0, .bipush 5, .invokeinterface 145 3, .iload 2, .bipush 0, .bipush 5, .invokeinterface 145 3, .aload 0, .getfield 903, .getfield 812, .bipush 2, .iaload, .i2l, .lstore 3, .sipush 1, .lstore 5, .aload 0, .getfield 916, .sipush 0, .invokeinterface 385 2, .aload 0, .getfield 916, .bipush 0, .sipush 1, .lastore, .bipush 0, .istore 7, .jsr 44] ls st m := At.eq k180_0
theorem k180_44 : pg.1 180 44 = [.iload 7, .iload 1, .if_icmp .ge 119, .bipush 5, .fstore 8, .jsr 53] := rfl
theorem a180_44 {tb : Tab} {d : Nat} {K : Out → AM → Prop} {ls st : List AV} {m : AM} : At tb d 180 K 44 ls st m = wpB tb (pg.2.1 180) (Runs tb pg d) K (At tb d 180 K) [.iload 7, .iload 1, .if_icmp .ge 119, .bipush 5, .fstore 8, .jsr 53] ls st m := At.eq k180_44
theorem k180_53 : pg.1 180 53 = [.iload 8, .ifCond .lt 105, .aload 0, .getfield 916, .iload 8, .aload 0, .getfield 916, .iload 8, .laload, .sipush 100, .lload 3, .lsub, .lmul, .iload 8, .ifCond .le 96, .aload 0, .getfield 916, .iload 8, .bipush 1, .isub, .laload, .lload 3, .lmul, .goto 97] := rfl
theorem a180_53 {tb : Tab} {d : Nat} {K : Out → AM → Prop} {ls st : List AV} {m : AM} : At tb d 180 K 53 ls st m = wpB tb (pg.2.1 180) (Runs tb pg d) K (At tb d 180 K) [.iload 8, .ifCond .lt 105, .aload 0, .getfield 916, .iload 8, .aload 0, .getfield 916, .iload 8, .laload, .sipush 100, .lload 3, .lsub, .lmul, .iload 8, .ifCond .le 96, .aload 0, .getfield 916, .iload 8, .bipush 1, .isub, .laload, .lload 3, .lmul, .goto 97] ls st m := At.eq k180_53
theorem k180_96 : pg.1 180 96 = [.sipush 0, .jsr 97] := rfl
theorem a180_96 {tb : Tab} {d : Nat} {K : Out → AM → Prop} {ls st : List AV} {m : AM} : At tb d 180 K 96 ls st m = wpB tb (pg.2.1 180) (Runs tb pg d) K (At tb d 180 K) [.sipush 0, .jsr 97] ls st m := At.eq k180_96
theorem k180_97 : pg.1 180 97 = [.ladd, .lastore, .iinc 8 (-1), .goto 53] := rfl
theorem a180_97 {tb : Tab} {d : Nat} {K : Out → AM → Prop} {ls st : List AV} {m : AM} : At tb d 180 K 97 ls st m = wpB tb (pg.2.1 180) (Runs tb pg d) K (At tb d 180 K) [.ladd, .lastore, .iinc 8 (-1), .goto 53] ls st m := At.eq k180_97
theorem k180_105 : pg.1 180 105 = [.lload 5, .sipush 100, .lmul, .lstore 5, .iinc 7 1, .goto 44] := rfl
theorem a180_105 {tb : Tab} {d : Nat} {K : Out → AM → Prop} {ls st : List AV} {m : AM} : At tb d 180 K 105 ls st m = wpB tb (pg.2.1 180) (Runs tb pg d) K (At tb d 180 K) [.lload 5, .sipush 100, .lmul, .lstore 5, .iinc 7 1, .goto 44] ls st m := At.eq k180_105
theorem k180_119 : pg.1 180 119 = [.sipush 0, .lstore 7, .iload 2, .istore 9, .jsr 125] := rfl
theorem a180_119 {tb : Tab} {d : Nat} {K : Out → AM → Prop} {ls st : List AV} {m : AM} : At tb d 180 K 119 ls st m = wpB tb (pg.2.1 180) (Runs tb pg d) K (At tb d 180 K) [.sipush 0, .lstore 7, .iload 2, .istore 9, .jsr 125] ls st m := At.eq k180_119
theorem k180_125 : pg.1 180 125 = [.iload 9, .bipush 5, .if_icmp .gt 149, .lload 7, .aload 0, .getfield 916, .iload 9, .laload, .ladd, .lstore 7, .iinc 9 1, .goto 125] := rfl
theorem a180_125 {tb : Tab} {d : Nat} {K : Out → AM → Prop} {ls st : List AV} {m : AM} : At tb d 180 K 125 ls st m = wpB tb (pg.2.1 180) (Runs tb pg d) K (At tb d 180 K) [.iload 9, .bipush 5, .if_icmp .gt 149, .lload 7, .aload 0, .getfield 916, .iload 9, .laload, .ladd, .lstore 7, .iinc 9 1, .goto 125] ls st m := At.eq k180_125
theorem k180_149 : pg.1 180 149 = [.lload 5, .sipush 0, .lcmp, .ifCond .gt 160, .bipush 0, .goto 170] := rfl
theorem a180_149 {tb : Tab} {d : Nat} {K : Out → AM → Prop} {ls st : List AV} {m : AM} : At tb d 180 K 149 ls st m = wpB tb (pg.2.1 180) (Runs tb pg d) K (At tb d 180 K) [.lload 5, .sipush 0, .lcmp, .ifCond .gt 160, .bipush 0, .goto 170] ls st m := At.eq k180_149
theorem k180_160 : pg.1 180 160 = [.sipush 10000, .lload 7, .lmul, .lload 5, .ldiv, .l2i, .jsr 170] := rfl
theorem a180_160 {tb : Tab} {d : Nat} {K : Out → AM → Prop} {ls st : List AV} {m : AM} : At tb d 180 K 160 ls st m = wpB tb (pg.2.1 180) (Runs tb pg d) K (At tb d 180 K) [.sipush 10000, .lload 7, .lmul, .lload 5, .ldiv, .l2i, .jsr 170] ls st m := At.eq k180_160
theorem k180_170 : pg.1 180 170 = [.ireturn] := rfl
theorem a180_170 {tb : Tab} {d : Nat} {K : Out → AM → Prop} {ls st : List AV} {m : AM} : At tb d 180 K 170 ls st m = wpB tb (pg.2.1 180) (Runs tb pg d) K (At tb d 180 K) [.ireturn] ls st m := At.eq k180_170
theorem w_180 {n k : Int} (hR : RW S 2 r) (hA : AB r) (hn : R32 n) (hk : R32 k) (hX : ¬ ((0 ≤ n ∧ n ≤ 5) ∧ (0 ≤ k ∧ k ≤ 5)) → K (.inr 1) (X S (mthrow m))) (hK : ∀ T v, (0 ≤ n ∧ n ≤ 5) → (0 ≤ k ∧ k ≤ 5) → v = 10000 * odR n k (r 8) / odW n → FxE 95 S T → K (.inl (some (vi v))) (X T m)) : Runs tb pg (d + 2) 180 [vr 0, vi n, vi k] (X S m) K := by
  have hw := isW_2
  have b3 := hA.2.1.1
  have b4 := hA.2.1.2.1
  have b5 := hA.2.1.2.2.1
  have s8 : S (2 + 15) 2 = r 8 := hR.2.2.2.2.2 2 (by decide) (by decide)
  have h8 : 0 ≤ r 8 ∧ r 8 ≤ 100 := hA.2.1.2.2.2.2.2.1
  have uhn := hn
  unfold R32 at uhn
  have uhk := hk
  unfold R32 at uhk
  have hL : (0 ≤ n ∧ n ≤ 5) → (0 ≤ k ∧ k ≤ 5) → At tb (d + 1) 180 K 44 [vr 0, vi n, vi k, vl (r 8), vu, vl 1, vu, vi 0, vu, vu] [] (X (upS (fiS S 95 6 0) 95 0 1) m) := by
    intro hn9 hk9
    have ob := od_b hn9 hk9 h8
    have wb := ow_b hn9
    have hL44 : (fun i : Int => ∀ (z8 : AV) (z9 : AV) (T : Nat → Int → Int) (u : Int), (chW (r 8) i T) → (FxE 95 S T) → u = prodZ 1 i (fun _ => 100) → At tb (d + 1) 180 K 44 [vr 0, vi n, vi k, vl (r 8), vu, vl u, vu, vi i, z8, z9] [] (X T m)) 0 := by
      refine loopZ (fun i : Int => ∀ (z8 : AV) (z9 : AV) (T : Nat → Int → Int) (u : Int), (chW (r 8) i T) → (FxE 95 S T) → u = prodZ 1 i (fun _ => 100) → At tb (d + 1) 180 K 44 [vr 0, vi n, vi k, vl (r 8), vu, vl u, vu, vi i, z8, z9] [] (X T m)) (n) (by omega) ?_ ?_
      · intro i h0 h1 h9 z8 z9 T u hT hF hu
        have hL53 : (fun x : Int => ∀ (j : Int) (U : Nat → Int → Int), j = 5 - x → (chV (r 8) i U j) → (FxE 95 S U) → At tb (d + 1) 180 K 53 [vr 0, vi n, vi k, vl (r 8), vu, vl u, vu, vi i, vi j, z9] [] (X U m)) 0 := by
          refine loopZ (fun x : Int => ∀ (j : Int) (U : Nat → Int → Int), j = 5 - x → (chV (r 8) i U j) → (FxE 95 S U) → At tb (d + 1) 180 K 53 [vr 0, vi n, vi k, vl (r 8), vu, vl u, vu, vi i, vi j, z9] [] (X U m)) (6) (by omega) ?_ ?_
          · intro x j0 j1 h8 j U hj hU hG
            rw [a180_53]
            repeat' (first | omega | (refine h8 _ _ ?_ (chV_s h0 (by omega) hU ?_) (FxE_u hG)) | simp only [w_iload, w_iconst, w_call, w_aload, x_g903_0, x_g812_w0, x_iald, w_ialoads, w_ialoadw, w_i2l, w_lstore, w_lconst, x_g916_0, x_last, w_istore, w_fall, Int.reduceToNat, w_ifc, cI, w_fstore, lgB, w_if, x_lald, w_lload, w_lsub, w_lmul, w_isub, w_goto, w_ladd, w_iinc, Nat.reduceSub, w_lcmp, R64, cmpI, w_ldiv, w_l2i, w_ireturn, isA_w1, isA_w2, isA_w3, isA_w4, isA_w5, isA_w6, isA_w7, isA_w8, isA_w10, isA_w11, isA_w12, isA_w14, isA_w15, isA_w16, len_w1, len_w2, len_w3, len_w4, len_w5, len_w6, len_w7, len_w8, len_w10, len_w11, len_w12, len_w14, len_w15, len_w16, isA_95, len_95, Int.cast_ofNat_Int, a180_0, a180_96, a180_97, a180_105, a180_119, a180_149, a180_160, a180_170, R32, List.getElem?_cons_zero, List.getElem?_cons_succ, List.set_cons_zero, List.set_cons_succ, List.cons_append, List.nil_append, List.replicate_succ, List.replicate_zero, List.take_succ_cons, List.take_zero, List.drop_succ_cons, List.drop_zero, List.reverse_cons, List.reverse_nil, List.length_cons, List.length_nil, Option.toList, true_and, and_true, eq_self, ↓reduceIte, not_true_eq_false, not_false_eq_true, true_or, or_true, hw, x_throw, hs_180] | with_reducible refine And.intro ?_ ?_ | with_reducible intro _)
            all_goals (try (first | omega | contradiction | (rw [if_pos (by omega)]) | (rw [if_neg (by omega)])))
          · intro j U hj hU hG
            rw [a180_53]
            repeat' (first | omega | (exact h9 _ _ _ _ (chV_e (by rw [show (-1 : Int) = j by omega]; exact hU)) hG (by rw [prodZ_s h0, ← hu])) | simp only [w_iload, w_iconst, w_call, w_aload, x_g903_0, x_g812_w0, x_iald, w_ialoads, w_ialoadw, w_i2l, w_lstore, w_lconst, x_g916_0, x_last, w_istore, w_fall, Int.reduceToNat, w_ifc, cI, w_fstore, lgB, w_if, x_lald, w_lload, w_lsub, w_lmul, w_isub, w_goto, w_ladd, w_iinc, Nat.reduceSub, w_lcmp, R64, cmpI, w_ldiv, w_l2i, w_ireturn, isA_w1, isA_w2, isA_w3, isA_w4, isA_w5, isA_w6, isA_w7, isA_w8, isA_w10, isA_w11, isA_w12, isA_w14, isA_w15, isA_w16, len_w1, len_w2, len_w3, len_w4, len_w5, len_w6, len_w7, len_w8, len_w10, len_w11, len_w12, len_w14, len_w15, len_w16, isA_95, len_95, Int.cast_ofNat_Int, a180_0, a180_96, a180_97, a180_105, a180_119, a180_149, a180_160, a180_170, R32, List.getElem?_cons_zero, List.getElem?_cons_succ, List.set_cons_zero, List.set_cons_succ, List.cons_append, List.nil_append, List.replicate_succ, List.replicate_zero, List.take_succ_cons, List.take_zero, List.drop_succ_cons, List.drop_zero, List.reverse_cons, List.reverse_nil, List.length_cons, List.length_nil, Option.toList, true_and, and_true, eq_self, ↓reduceIte, not_true_eq_false, not_false_eq_true, true_or, or_true, hw, x_throw, hs_180] | with_reducible refine And.intro ?_ ?_ | with_reducible intro _)
            all_goals (try (first | omega | contradiction | skip))
        rw [a180_44]
        repeat' (first | omega | with_reducible refine h9 _ _ _ _ ?_ ?_ ?_ | (exact hL53 _ _ (by omega) (chV_5 hT) hF) | simp only [w_iload, w_iconst, w_call, w_aload, x_g903_0, x_g812_w0, x_iald, w_ialoads, w_ialoadw, w_i2l, w_lstore, w_lconst, x_g916_0, x_last, w_istore, w_fall, Int.reduceToNat, w_ifc, cI, w_fstore, lgB, w_if, x_lald, w_lload, w_lsub, w_lmul, w_isub, w_goto, w_ladd, w_iinc, Nat.reduceSub, w_lcmp, R64, cmpI, w_ldiv, w_l2i, w_ireturn, isA_w1, isA_w2, isA_w3, isA_w4, isA_w5, isA_w6, isA_w7, isA_w8, isA_w10, isA_w11, isA_w12, isA_w14, isA_w15, isA_w16, len_w1, len_w2, len_w3, len_w4, len_w5, len_w6, len_w7, len_w8, len_w10, len_w11, len_w12, len_w14, len_w15, len_w16, isA_95, len_95, Int.cast_ofNat_Int, a180_0, a180_96, a180_97, a180_105, a180_119, a180_149, a180_160, a180_170, R32, List.getElem?_cons_zero, List.getElem?_cons_succ, List.set_cons_zero, List.set_cons_succ, List.cons_append, List.nil_append, List.replicate_succ, List.replicate_zero, List.take_succ_cons, List.take_zero, List.drop_succ_cons, List.drop_zero, List.reverse_cons, List.reverse_nil, List.length_cons, List.length_nil, Option.toList, true_and, and_true, eq_self, ↓reduceIte, not_true_eq_false, not_false_eq_true, true_or, or_true, hw, x_throw, hs_180] | with_reducible refine And.intro ?_ ?_ | with_reducible intro _)
        all_goals (try (first | omega | contradiction | skip))
      · intro z8 z9 T u hT hF hu
        have hL125 : (fun x : Int => ∀ (j : Int) (g : Int), j = k + x → g = sumZ x (fun i => chT (r 8) n.toNat (k + i)) → At tb (d + 1) 180 K 125 [vr 0, vi n, vi k, vl (r 8), vu, vl u, vu, vl g, vu, vi j] [] (X T m)) 0 := by
          refine loopZ (fun x : Int => ∀ (j : Int) (g : Int), j = k + x → g = sumZ x (fun i => chT (r 8) n.toNat (k + i)) → At tb (d + 1) 180 K 125 [vr 0, vi n, vi k, vl (r 8), vu, vl u, vu, vl g, vu, vi j] [] (X T m)) (6 - k) (by omega) ?_ ?_
          · intro x j0 j1 h8 j g hj hg
            have tj := hT j (by omega) (by omega)
            rw [a180_125]
            repeat' (first | omega | with_reducible refine h8 _ _ ?_ ?_ | simp only [w_iload, w_iconst, w_call, w_aload, x_g903_0, x_g812_w0, x_iald, w_ialoads, w_ialoadw, w_i2l, w_lstore, w_lconst, x_g916_0, x_last, w_istore, w_fall, Int.reduceToNat, w_ifc, cI, w_fstore, lgB, w_if, x_lald, w_lload, w_lsub, w_lmul, w_isub, w_goto, w_ladd, w_iinc, Nat.reduceSub, w_lcmp, R64, cmpI, w_ldiv, w_l2i, w_ireturn, isA_w1, isA_w2, isA_w3, isA_w4, isA_w5, isA_w6, isA_w7, isA_w8, isA_w10, isA_w11, isA_w12, isA_w14, isA_w15, isA_w16, len_w1, len_w2, len_w3, len_w4, len_w5, len_w6, len_w7, len_w8, len_w10, len_w11, len_w12, len_w14, len_w15, len_w16, isA_95, len_95, Int.cast_ofNat_Int, a180_0, a180_96, a180_97, a180_105, a180_119, a180_149, a180_160, a180_170, R32, List.getElem?_cons_zero, List.getElem?_cons_succ, List.set_cons_zero, List.set_cons_succ, List.cons_append, List.nil_append, List.replicate_succ, List.replicate_zero, List.take_succ_cons, List.take_zero, List.drop_succ_cons, List.drop_zero, List.reverse_cons, List.reverse_nil, List.length_cons, List.length_nil, Option.toList, true_and, and_true, eq_self, ↓reduceIte, not_true_eq_false, not_false_eq_true, true_or, or_true, hw, x_throw, hs_180] | (rw [tj]) | with_reducible refine And.intro ?_ ?_ | with_reducible intro _)
            all_goals (try (first | omega | contradiction | (rw [sumZ_s j0, hg, hj])))
          · intro j g hj hg
            have eg : g = odR n k (r 8) := hg.trans (ch_o hn9 hk9 h8)
            have ew : u = odW n := hu
            rw [a180_125]
            repeat' (first | omega | (exact hK _ _ hn9 hk9 (by rw [eg, ew]) hF) | simp only [w_iload, w_iconst, w_call, w_aload, x_g903_0, x_g812_w0, x_iald, w_ialoads, w_ialoadw, w_i2l, w_lstore, w_lconst, x_g916_0, x_last, w_istore, w_fall, Int.reduceToNat, w_ifc, cI, w_fstore, lgB, w_if, x_lald, w_lload, w_lsub, w_lmul, w_isub, w_goto, w_ladd, w_iinc, Nat.reduceSub, w_lcmp, R64, cmpI, w_ldiv, w_l2i, w_ireturn, isA_w1, isA_w2, isA_w3, isA_w4, isA_w5, isA_w6, isA_w7, isA_w8, isA_w10, isA_w11, isA_w12, isA_w14, isA_w15, isA_w16, len_w1, len_w2, len_w3, len_w4, len_w5, len_w6, len_w7, len_w8, len_w10, len_w11, len_w12, len_w14, len_w15, len_w16, isA_95, len_95, Int.cast_ofNat_Int, a180_0, a180_96, a180_97, a180_105, a180_119, a180_149, a180_160, a180_170, R32, List.getElem?_cons_zero, List.getElem?_cons_succ, List.set_cons_zero, List.set_cons_succ, List.cons_append, List.nil_append, List.replicate_succ, List.replicate_zero, List.take_succ_cons, List.take_zero, List.drop_succ_cons, List.drop_zero, List.reverse_cons, List.reverse_nil, List.length_cons, List.length_nil, Option.toList, true_and, and_true, eq_self, ↓reduceIte, not_true_eq_false, not_false_eq_true, true_or, or_true, hw, x_throw, hs_180] | (rw [tj]) | with_reducible refine And.intro ?_ ?_ | with_reducible intro _)
            all_goals (try (first | omega | contradiction | (unfold R64; omega) | skip))
        rw [a180_44]
        repeat' (first | omega | (exact hL125 _ _ (by omega) rfl) | simp only [w_iload, w_iconst, w_call, w_aload, x_g903_0, x_g812_w0, x_iald, w_ialoads, w_ialoadw, w_i2l, w_lstore, w_lconst, x_g916_0, x_last, w_istore, w_fall, Int.reduceToNat, w_ifc, cI, w_fstore, lgB, w_if, x_lald, w_lload, w_lsub, w_lmul, w_isub, w_goto, w_ladd, w_iinc, Nat.reduceSub, w_lcmp, R64, cmpI, w_ldiv, w_l2i, w_ireturn, isA_w1, isA_w2, isA_w3, isA_w4, isA_w5, isA_w6, isA_w7, isA_w8, isA_w10, isA_w11, isA_w12, isA_w14, isA_w15, isA_w16, len_w1, len_w2, len_w3, len_w4, len_w5, len_w6, len_w7, len_w8, len_w10, len_w11, len_w12, len_w14, len_w15, len_w16, isA_95, len_95, Int.cast_ofNat_Int, a180_0, a180_96, a180_97, a180_105, a180_119, a180_149, a180_160, a180_170, R32, List.getElem?_cons_zero, List.getElem?_cons_succ, List.set_cons_zero, List.set_cons_succ, List.cons_append, List.nil_append, List.replicate_succ, List.replicate_zero, List.take_succ_cons, List.take_zero, List.drop_succ_cons, List.drop_zero, List.reverse_cons, List.reverse_nil, List.length_cons, List.length_nil, Option.toList, true_and, and_true, eq_self, ↓reduceIte, not_true_eq_false, not_false_eq_true, true_or, or_true, hw, x_throw, hs_180] | with_reducible refine And.intro ?_ ?_ | with_reducible intro _)
        all_goals (try (first | omega | contradiction | skip))
    exact hL44 _ _ _ _ chW_0 (FxE_u fiS_x) rfl
  refine Runs.of (al := [vr 0, vi n, vi k]) (n := 7) ⟨0, _, _, rfl, xo_0⟩ rfl rfl trivial ?_
  repeat' (first | omega | (exact hL z2 z3) | (exact hX (fun y => z2 y.1)) | (exact hX (fun y => z3 y.2)) | simp only [w_iload, w_iconst, w_call, w_aload, x_g903_0, x_g812_w0, x_iald, w_ialoads, w_ialoadw, w_i2l, w_lstore, w_lconst, x_g916_0, x_last, w_istore, w_fall, Int.reduceToNat, w_ifc, cI, w_fstore, lgB, w_if, x_lald, w_lload, w_lsub, w_lmul, w_isub, w_goto, w_ladd, w_iinc, Nat.reduceSub, w_lcmp, R64, cmpI, w_ldiv, w_l2i, w_ireturn, isA_w1, isA_w2, isA_w3, isA_w4, isA_w5, isA_w6, isA_w7, isA_w8, isA_w10, isA_w11, isA_w12, isA_w14, isA_w15, isA_w16, len_w1, len_w2, len_w3, len_w4, len_w5, len_w6, len_w7, len_w8, len_w10, len_w11, len_w12, len_w14, len_w15, len_w16, isA_95, len_95, Int.cast_ofNat_Int, a180_0, a180_96, a180_97, a180_105, a180_119, a180_149, a180_160, a180_170, R32, List.getElem?_cons_zero, List.getElem?_cons_succ, List.set_cons_zero, List.set_cons_succ, List.cons_append, List.nil_append, List.replicate_succ, List.replicate_zero, List.take_succ_cons, List.take_zero, List.drop_succ_cons, List.drop_zero, List.reverse_cons, List.reverse_nil, List.length_cons, List.length_nil, Option.toList, true_and, and_true, eq_self, ↓reduceIte, not_true_eq_false, not_false_eq_true, true_or, or_true, hw, x_throw, hs_180] | (with_reducible refine w_145 hn (by unfold R32; omega) (by unfold R32; omega) (fun z2 => ?_) (fun z2 => ?_)) | (with_reducible refine w_145 hk (by unfold R32; omega) (by unfold R32; omega) (fun z3 => ?_) (fun z3 => ?_)) | (rw [s8]) | (with_reducible refine w_385 isA_95 (by decide) ?_) | with_reducible refine And.intro ?_ ?_ | with_reducible intro _)
  all_goals (try (first | omega | (exfalso; assumption) | skip))
theorem hs_182 {E : Nat} : pg.2.1 182 E = none := rfl
theorem k182_0 : pg.1 182 0 = [.bipush (-1), .istore 1, .bipush 0, .istore 2, .jsr 4] := rfl
theorem a182_0 {tb : Tab} {d : Nat} {K : Out → AM → Prop} {ls st : List AV} {m : AM} : At tb d 182 K 0 ls st m = wpB tb (pg.2.1 182) (Runs tb pg d) K (At tb d 182 K) [.bipush (-1), .istore 1, .bipush 0, .istore 2, .jsr 4] ls st m := At.eq k182_0
theorem k182_4 : pg.1 182 4 = [.iload 2, .aload 0, .getfield 903, .getfield 800, .if_icmp .ge 47, .iload 1, .bipush (-1), .if_icmp .eq 39, .aload 0, .getfield 903, .iload 2, .invokeinterface 110 2, .aload 0, .getfield 903, .iload 1, .invokeinterface 110 2, .if_icmp .le 41, .jsr 39] := rfl
theorem a182_4 {tb : Tab} {d : Nat} {K : Out → AM → Prop} {ls st : List AV} {m : AM} : At tb d 182 K 4 ls st m = wpB tb (pg.2.1 182) (Runs tb pg d) K (At tb d 182 K) [.iload 2, .aload 0, .getfield 903, .getfield 800, .if_icmp .ge 47, .iload 1, .bipush (-1), .if_icmp .eq 39, .aload 0, .getfield 903, .iload 2, .invokeinterface 110 2, .aload 0, .getfield 903, .iload 1, .invokeinterface 110 2, .if_icmp .le 41, .jsr 39] ls st m := At.eq k182_4
theorem k182_39 : pg.1 182 39 = [.iload 2, .istore 1, .jsr 41] := rfl
theorem a182_39 {tb : Tab} {d : Nat} {K : Out → AM → Prop} {ls st : List AV} {m : AM} : At tb d 182 K 39 ls st m = wpB tb (pg.2.1 182) (Runs tb pg d) K (At tb d 182 K) [.iload 2, .istore 1, .jsr 41] ls st m := At.eq k182_39
theorem k182_41 : pg.1 182 41 = [.iinc 2 1, .goto 4] := rfl
theorem a182_41 {tb : Tab} {d : Nat} {K : Out → AM → Prop} {ls st : List AV} {m : AM} : At tb d 182 K 41 ls st m = wpB tb (pg.2.1 182) (Runs tb pg d) K (At tb d 182 K) [.iinc 2 1, .goto 4] ls st m := At.eq k182_41
theorem k182_47 : pg.1 182 47 = [.iload 1, .ireturn] := rfl
theorem a182_47 {tb : Tab} {d : Nat} {K : Out → AM → Prop} {ls st : List AV} {m : AM} : At tb d 182 K 47 ls st m = wpB tb (pg.2.1 182) (Runs tb pg d) K (At tb d 182 K) [.iload 1, .ireturn] ls st m := At.eq k182_47
theorem w_182 (hR : RW S 2 r) (hA : AB r)  (hK : ∀ v, isMax (valM (fun _ => r) 0) (r 3) v → K (.inl (some (vi v))) (X S m)) : Runs tb pg (d + 3) 182 [vr 0] (X S m) K := by
  have hw := isW_2
  have b3 := hA.2.1.1
  have b4 := hA.2.1.2.1
  have b5 := hA.2.1.2.2.1
  have hL4 : (fun i : Int => ∀ (a : Int), (isMax (valM (fun _ => r) 0) i a) → At tb (d + 2) 182 K 4 [vr 0, vi a, vi i] [] (X S m)) 0 := by
    refine loopZ (fun i : Int => ∀ (a : Int), (isMax (valM (fun _ => r) 0) i a) → At tb (d + 2) 182 K 4 [vr 0, vi a, vi i] [] (X S m)) (r 3) (by omega) ?_ ?_
    · intro i h0 h1 h9 a ha
      have s3 : S 2 0 = r 3 := hR.1.1
      have s4 : S 2 4 = r 4 := hR.1.2.1
      have g1 := isMax_rg h0 ha
      have u1 := used_r hA (f := i)
      have u2 := used_r hA (f := a)
      have ff := AB_ff hA h0 h1
      have va : a ≠ -1 → 0 ≤ a ∧ a < r 3 := fun z => by omega
      have e1 : valM (fun _ => r) 0 i = fr r i 2 - usedM (pr r) (r 4) i := rfl
      have e2 : valM (fun _ => r) 0 a = fr r a 2 - usedM (pr r) (r 4) a := rfl
      rw [a182_4]
      repeat' (first | omega | with_reducible refine h9 _ ?_ | simp only [w_iconst, w_istore, w_fall, Int.reduceToNat, w_iload, w_aload, x_g903_0, x_g800_w0, w_ifc, cI, w_call, w_iinc, lgB, Nat.reduceSub, w_goto, w_ireturn, a182_0, a182_39, a182_41, a182_47, R32, List.getElem?_cons_zero, List.getElem?_cons_succ, List.set_cons_zero, List.set_cons_succ, List.cons_append, List.nil_append, List.replicate_succ, List.replicate_zero, List.take_succ_cons, List.take_zero, List.drop_succ_cons, List.drop_zero, List.reverse_cons, List.reverse_nil, List.length_cons, List.length_nil, Option.toList, true_and, and_true, eq_self, ↓reduceIte, not_true_eq_false, not_false_eq_true, true_or, or_true, hw, x_throw, hs_182] | (rw [s3]) | (rw [s4]) | (have vv := va (by assumption); (with_reducible refine w_110 hw hR hA ⟨h0, h1⟩ (fun v1 x1 => ?_))) | (have fa := AB_ff hA vv.1 vv.2; (with_reducible refine w_110 hw hR hA vv (fun v2 x2 => ?_))) | with_reducible refine And.intro ?_ ?_ | with_reducible intro _)
      all_goals (try (first | omega | contradiction | (((with_reducible refine isMax_y h0 ha ?_) <;> first | omega | assumption | (rw [e1, e2]; omega)); done) | (((with_reducible refine isMax_n h0 ha ?_) <;> first | omega | assumption | (rw [e1, e2]; omega)); done) | (rw [e1, e2]; omega)))
    · intro a ha
      have s3 : S 2 0 = r 3 := hR.1.1
      have s4 : S 2 4 = r 4 := hR.1.2.1
      rw [a182_4]
      repeat' (first | omega | (exact hK _ ha) | simp only [w_iconst, w_istore, w_fall, Int.reduceToNat, w_iload, w_aload, x_g903_0, x_g800_w0, w_ifc, cI, w_call, w_iinc, lgB, Nat.reduceSub, w_goto, w_ireturn, a182_0, a182_39, a182_41, a182_47, R32, List.getElem?_cons_zero, List.getElem?_cons_succ, List.set_cons_zero, List.set_cons_succ, List.cons_append, List.nil_append, List.replicate_succ, List.replicate_zero, List.take_succ_cons, List.take_zero, List.drop_succ_cons, List.drop_zero, List.reverse_cons, List.reverse_nil, List.length_cons, List.length_nil, Option.toList, true_and, and_true, eq_self, ↓reduceIte, not_true_eq_false, not_false_eq_true, true_or, or_true, hw, x_throw, hs_182] | (rw [s3]) | (rw [s4]) | (have vv := va (by assumption); (with_reducible refine w_110 hw hR hA ⟨h0, h1⟩ (fun v1 x1 => ?_))) | (have fa := AB_ff hA vv.1 vv.2; (with_reducible refine w_110 hw hR hA vv (fun v2 x2 => ?_))) | with_reducible refine And.intro ?_ ?_ | with_reducible intro _)
      all_goals (try (first | omega | contradiction | skip))
  refine Runs.of (al := [vr 0]) (n := 2) ⟨0, _, _, rfl, xo_0⟩ rfl rfl trivial ?_
  repeat' (first | omega | (exact hL4 _ isMax_0) | simp only [w_iconst, w_istore, w_fall, Int.reduceToNat, w_iload, w_aload, x_g903_0, x_g800_w0, w_ifc, cI, w_call, w_iinc, lgB, Nat.reduceSub, w_goto, w_ireturn, a182_0, a182_39, a182_41, a182_47, R32, List.getElem?_cons_zero, List.getElem?_cons_succ, List.set_cons_zero, List.set_cons_succ, List.cons_append, List.nil_append, List.replicate_succ, List.replicate_zero, List.take_succ_cons, List.take_zero, List.drop_succ_cons, List.drop_zero, List.reverse_cons, List.reverse_nil, List.length_cons, List.length_nil, Option.toList, true_and, and_true, eq_self, ↓reduceIte, not_true_eq_false, not_false_eq_true, true_or, or_true, hw, x_throw, hs_182] | with_reducible refine And.intro ?_ ?_ | with_reducible intro _)
  all_goals (try (first | omega | (exfalso; assumption) | skip))
theorem hs_183 {E : Nat} : pg.2.1 183 E = none := rfl
theorem k183_0 : pg.1 183 0 = [.bipush (-1), .istore 1, .bipush 0, .istore 2, .jsr 4] := rfl
theorem a183_0 {tb : Tab} {d : Nat} {K : Out → AM → Prop} {ls st : List AV} {m : AM} : At tb d 183 K 0 ls st m = wpB tb (pg.2.1 183) (Runs tb pg d) K (At tb d 183 K) [.bipush (-1), .istore 1, .bipush 0, .istore 2, .jsr 4] ls st m := At.eq k183_0
theorem k183_4 : pg.1 183 4 = [.iload 2, .aload 0, .getfield 903, .getfield 800, .if_icmp .ge 49, .iload 1, .bipush (-1), .if_icmp .eq 41, .aload 0, .getfield 903, .getfield 802, .iload 2, .iaload, .aload 0, .getfield 903, .getfield 802, .iload 1, .iaload, .if_icmp .le 43, .jsr 41] := rfl
theorem a183_4 {tb : Tab} {d : Nat} {K : Out → AM → Prop} {ls st : List AV} {m : AM} : At tb d 183 K 4 ls st m = wpB tb (pg.2.1 183) (Runs tb pg d) K (At tb d 183 K) [.iload 2, .aload 0, .getfield 903, .getfield 800, .if_icmp .ge 49, .iload 1, .bipush (-1), .if_icmp .eq 41, .aload 0, .getfield 903, .getfield 802, .iload 2, .iaload, .aload 0, .getfield 903, .getfield 802, .iload 1, .iaload, .if_icmp .le 43, .jsr 41] ls st m := At.eq k183_4
theorem k183_41 : pg.1 183 41 = [.iload 2, .istore 1, .jsr 43] := rfl
theorem a183_41 {tb : Tab} {d : Nat} {K : Out → AM → Prop} {ls st : List AV} {m : AM} : At tb d 183 K 41 ls st m = wpB tb (pg.2.1 183) (Runs tb pg d) K (At tb d 183 K) [.iload 2, .istore 1, .jsr 43] ls st m := At.eq k183_41
theorem k183_43 : pg.1 183 43 = [.iinc 2 1, .goto 4] := rfl
theorem a183_43 {tb : Tab} {d : Nat} {K : Out → AM → Prop} {ls st : List AV} {m : AM} : At tb d 183 K 43 ls st m = wpB tb (pg.2.1 183) (Runs tb pg d) K (At tb d 183 K) [.iinc 2 1, .goto 4] ls st m := At.eq k183_43
theorem k183_49 : pg.1 183 49 = [.iload 1, .ireturn] := rfl
theorem a183_49 {tb : Tab} {d : Nat} {K : Out → AM → Prop} {ls st : List AV} {m : AM} : At tb d 183 K 49 ls st m = wpB tb (pg.2.1 183) (Runs tb pg d) K (At tb d 183 K) [.iload 1, .ireturn] ls st m := At.eq k183_49
theorem w_183 (hR : RW S 2 r) (hA : AB r)  (hK : ∀ v, isMax (valM (fun _ => r) 1) (r 3) v → K (.inl (some (vi v))) (X S m)) : Runs tb pg (d + 1) 183 [vr 0] (X S m) K := by
  have hw := isW_2
  have b3 := hA.2.1.1
  have b4 := hA.2.1.2.1
  have b5 := hA.2.1.2.2.1
  have hL4 : (fun i : Int => ∀ (a : Int), (isMax (valM (fun _ => r) 1) i a) → At tb d 183 K 4 [vr 0, vi a, vi i] [] (X S m)) 0 := by
    refine loopZ (fun i : Int => ∀ (a : Int), (isMax (valM (fun _ => r) 1) i a) → At tb d 183 K 4 [vr 0, vi a, vi i] [] (X S m)) (r 3) (by omega) ?_ ?_
    · intro i h0 h1 h9 a ha
      have s3 : S 2 0 = r 3 := hR.1.1
      have s4 : S 2 4 = r 4 := hR.1.2.1
      have g1 := isMax_rg h0 ha
      have ff := AB_ff hA h0 h1
      have e1 : valM (fun _ => r) 1 i = fr r i 1 := rfl
      have e2 : valM (fun _ => r) 1 a = fr r a 1 := rfl
      have e3 := (hR.2.1 i h0 h1).2.1
      have e4 : a ≠ -1 → S (2 + 2) a = fr r a 1 := fun z => (hR.2.1 a (by omega) (by omega)).2.1
      have f4 : a ≠ -1 → 0 ≤ fr r a 1 ∧ fr r a 1 ≤ 99 := fun z => (AB_ff hA (f := a) (by omega) (by omega)).2.1
      rw [a183_4]
      repeat' (first | omega | with_reducible refine h9 _ ?_ | simp only [w_iconst, w_istore, w_fall, Int.reduceToNat, w_iload, w_aload, x_g903_0, x_g800_w0, w_ifc, cI, x_g802_w0, x_iald, w_ialoads, w_ialoadw, w_iinc, lgB, Nat.reduceSub, w_goto, w_ireturn, isA_w1, isA_w2, isA_w3, isA_w4, isA_w5, isA_w6, isA_w7, isA_w8, isA_w10, isA_w11, isA_w12, isA_w14, isA_w15, isA_w16, len_w1, len_w2, len_w3, len_w4, len_w5, len_w6, len_w7, len_w8, len_w10, len_w11, len_w12, len_w14, len_w15, len_w16, Int.cast_ofNat_Int, a183_0, a183_41, a183_43, a183_49, R32, List.getElem?_cons_zero, List.getElem?_cons_succ, List.set_cons_zero, List.set_cons_succ, List.cons_append, List.nil_append, List.replicate_succ, List.replicate_zero, List.take_succ_cons, List.take_zero, List.drop_succ_cons, List.drop_zero, List.reverse_cons, List.reverse_nil, List.length_cons, List.length_nil, Option.toList, true_and, and_true, eq_self, ↓reduceIte, not_true_eq_false, not_false_eq_true, true_or, or_true, hw, x_throw, hs_183] | (rw [s3]) | (rw [s4]) | (rw [e3]) | (have nn : a ≠ -1 := (by assumption); have f9 := f4 nn; rw [e4 nn]; clear f4) | with_reducible refine And.intro ?_ ?_ | with_reducible intro _)
      all_goals (try (first | omega | contradiction | (((with_reducible refine isMax_y h0 ha ?_) <;> first | omega | assumption | (rw [e1, e2]; omega)); done) | (((with_reducible refine isMax_n h0 ha ?_) <;> first | omega | assumption | (rw [e1, e2]; omega)); done) | (rw [e1, e2]; omega)))
    · intro a ha
      have s3 : S 2 0 = r 3 := hR.1.1
      have s4 : S 2 4 = r 4 := hR.1.2.1
      rw [a183_4]
      repeat' (first | omega | (exact hK _ ha) | simp only [w_iconst, w_istore, w_fall, Int.reduceToNat, w_iload, w_aload, x_g903_0, x_g800_w0, w_ifc, cI, x_g802_w0, x_iald, w_ialoads, w_ialoadw, w_iinc, lgB, Nat.reduceSub, w_goto, w_ireturn, isA_w1, isA_w2, isA_w3, isA_w4, isA_w5, isA_w6, isA_w7, isA_w8, isA_w10, isA_w11, isA_w12, isA_w14, isA_w15, isA_w16, len_w1, len_w2, len_w3, len_w4, len_w5, len_w6, len_w7, len_w8, len_w10, len_w11, len_w12, len_w14, len_w15, len_w16, Int.cast_ofNat_Int, a183_0, a183_41, a183_43, a183_49, R32, List.getElem?_cons_zero, List.getElem?_cons_succ, List.set_cons_zero, List.set_cons_succ, List.cons_append, List.nil_append, List.replicate_succ, List.replicate_zero, List.take_succ_cons, List.take_zero, List.drop_succ_cons, List.drop_zero, List.reverse_cons, List.reverse_nil, List.length_cons, List.length_nil, Option.toList, true_and, and_true, eq_self, ↓reduceIte, not_true_eq_false, not_false_eq_true, true_or, or_true, hw, x_throw, hs_183] | (rw [s3]) | (rw [s4]) | (rw [e3]) | (have nn : a ≠ -1 := (by assumption); have f9 := f4 nn; rw [e4 nn]; clear f4) | with_reducible refine And.intro ?_ ?_ | with_reducible intro _)
      all_goals (try (first | omega | contradiction | skip))
  refine Runs.of (al := [vr 0]) (n := 2) ⟨0, _, _, rfl, xo_0⟩ rfl rfl trivial ?_
  repeat' (first | omega | (exact hL4 _ isMax_0) | simp only [w_iconst, w_istore, w_fall, Int.reduceToNat, w_iload, w_aload, x_g903_0, x_g800_w0, w_ifc, cI, x_g802_w0, x_iald, w_ialoads, w_ialoadw, w_iinc, lgB, Nat.reduceSub, w_goto, w_ireturn, isA_w1, isA_w2, isA_w3, isA_w4, isA_w5, isA_w6, isA_w7, isA_w8, isA_w10, isA_w11, isA_w12, isA_w14, isA_w15, isA_w16, len_w1, len_w2, len_w3, len_w4, len_w5, len_w6, len_w7, len_w8, len_w10, len_w11, len_w12, len_w14, len_w15, len_w16, Int.cast_ofNat_Int, a183_0, a183_41, a183_43, a183_49, R32, List.getElem?_cons_zero, List.getElem?_cons_succ, List.set_cons_zero, List.set_cons_succ, List.cons_append, List.nil_append, List.replicate_succ, List.replicate_zero, List.take_succ_cons, List.take_zero, List.drop_succ_cons, List.drop_zero, List.reverse_cons, List.reverse_nil, List.length_cons, List.length_nil, Option.toList, true_and, and_true, eq_self, ↓reduceIte, not_true_eq_false, not_false_eq_true, true_or, or_true, hw, x_throw, hs_183] | with_reducible refine And.intro ?_ ?_ | with_reducible intro _)
  all_goals (try (first | omega | (exfalso; assumption) | skip))
theorem hs_184 {E : Nat} : pg.2.1 184 E = none := rfl
theorem k184_0 : pg.1 184 0 = [.bipush (-1), .istore 1, .bipush 0, .istore 2, .jsr 4] := rfl
theorem a184_0 {tb : Tab} {d : Nat} {K : Out → AM → Prop} {ls st : List AV} {m : AM} : At tb d 184 K 0 ls st m = wpB tb (pg.2.1 184) (Runs tb pg d) K (At tb d 184 K) [.bipush (-1), .istore 1, .bipush 0, .istore 2, .jsr 4] ls st m := At.eq k184_0
theorem k184_4 : pg.1 184 4 = [.iload 2, .aload 0, .getfield 903, .getfield 804, .if_icmp .ge 49, .iload 1, .bipush (-1), .if_icmp .eq 41, .aload 0, .getfield 903, .getfield 805, .iload 2, .iaload, .aload 0, .getfield 903, .getfield 805, .iload 1, .iaload, .if_icmp .le 43, .jsr 41] := rfl
theorem a184_4 {tb : Tab} {d : Nat} {K : Out → AM → Prop} {ls st : List AV} {m : AM} : At tb d 184 K 4 ls st m = wpB tb (pg.2.1 184) (Runs tb pg d) K (At tb d 184 K) [.iload 2, .aload 0, .getfield 903, .getfield 804, .if_icmp .ge 49, .iload 1, .bipush (-1), .if_icmp .eq 41, .aload 0, .getfield 903, .getfield 805, .iload 2, .iaload, .aload 0, .getfield 903, .getfield 805, .iload 1, .iaload, .if_icmp .le 43, .jsr 41] ls st m := At.eq k184_4
theorem k184_41 : pg.1 184 41 = [.iload 2, .istore 1, .jsr 43] := rfl
theorem a184_41 {tb : Tab} {d : Nat} {K : Out → AM → Prop} {ls st : List AV} {m : AM} : At tb d 184 K 41 ls st m = wpB tb (pg.2.1 184) (Runs tb pg d) K (At tb d 184 K) [.iload 2, .istore 1, .jsr 43] ls st m := At.eq k184_41
theorem k184_43 : pg.1 184 43 = [.iinc 2 1, .goto 4] := rfl
theorem a184_43 {tb : Tab} {d : Nat} {K : Out → AM → Prop} {ls st : List AV} {m : AM} : At tb d 184 K 43 ls st m = wpB tb (pg.2.1 184) (Runs tb pg d) K (At tb d 184 K) [.iinc 2 1, .goto 4] ls st m := At.eq k184_43
theorem k184_49 : pg.1 184 49 = [.iload 1, .ireturn] := rfl
theorem a184_49 {tb : Tab} {d : Nat} {K : Out → AM → Prop} {ls st : List AV} {m : AM} : At tb d 184 K 49 ls st m = wpB tb (pg.2.1 184) (Runs tb pg d) K (At tb d 184 K) [.iload 1, .ireturn] ls st m := At.eq k184_49
theorem w_184 (hR : RW S 2 r) (hA : AB r)  (hK : ∀ v, isMax (valM (fun _ => r) 2) (r 4) v → K (.inl (some (vi v))) (X S m)) : Runs tb pg (d + 1) 184 [vr 0] (X S m) K := by
  have hw := isW_2
  have b3 := hA.2.1.1
  have b4 := hA.2.1.2.1
  have b5 := hA.2.1.2.2.1
  have hL4 : (fun i : Int => ∀ (a : Int), (isMax (valM (fun _ => r) 2) i a) → At tb d 184 K 4 [vr 0, vi a, vi i] [] (X S m)) 0 := by
    refine loopZ (fun i : Int => ∀ (a : Int), (isMax (valM (fun _ => r) 2) i a) → At tb d 184 K 4 [vr 0, vi a, vi i] [] (X S m)) (r 4) (by omega) ?_ ?_
    · intro i h0 h1 h9 a ha
      have s3 : S 2 0 = r 3 := hR.1.1
      have s4 : S 2 4 = r 4 := hR.1.2.1
      have g1 := isMax_rg h0 ha
      have ff := AB_pp hA h0 h1
      have e1 : valM (fun _ => r) 2 i = pr r i 0 := rfl
      have e2 : valM (fun _ => r) 2 a = pr r a 0 := rfl
      have e3 := (hR.2.2.1 i h0 h1).1
      have e4 : a ≠ -1 → S (2 + 4) a = pr r a 0 := fun z => (hR.2.2.1 a (by omega) (by omega)).1
      have f4 : a ≠ -1 → 1 ≤ pr r a 0 ∧ pr r a 0 ≤ 6 := fun z => (AB_pp hA (p := a) (by omega) (by omega)).1
      rw [a184_4]
      repeat' (first | omega | with_reducible refine h9 _ ?_ | simp only [w_iconst, w_istore, w_fall, Int.reduceToNat, w_iload, w_aload, x_g903_0, x_g804_w0, w_ifc, cI, x_g805_w0, x_iald, w_ialoads, w_ialoadw, w_iinc, lgB, Nat.reduceSub, w_goto, w_ireturn, isA_w1, isA_w2, isA_w3, isA_w4, isA_w5, isA_w6, isA_w7, isA_w8, isA_w10, isA_w11, isA_w12, isA_w14, isA_w15, isA_w16, len_w1, len_w2, len_w3, len_w4, len_w5, len_w6, len_w7, len_w8, len_w10, len_w11, len_w12, len_w14, len_w15, len_w16, Int.cast_ofNat_Int, a184_0, a184_41, a184_43, a184_49, R32, List.getElem?_cons_zero, List.getElem?_cons_succ, List.set_cons_zero, List.set_cons_succ, List.cons_append, List.nil_append, List.replicate_succ, List.replicate_zero, List.take_succ_cons, List.take_zero, List.drop_succ_cons, List.drop_zero, List.reverse_cons, List.reverse_nil, List.length_cons, List.length_nil, Option.toList, true_and, and_true, eq_self, ↓reduceIte, not_true_eq_false, not_false_eq_true, true_or, or_true, hw, x_throw, hs_184] | (rw [s3]) | (rw [s4]) | (rw [e3]) | (have nn : a ≠ -1 := (by assumption); have f9 := f4 nn; rw [e4 nn]; clear f4) | with_reducible refine And.intro ?_ ?_ | with_reducible intro _)
      all_goals (try (first | omega | contradiction | (((with_reducible refine isMax_y h0 ha ?_) <;> first | omega | assumption | (rw [e1, e2]; omega)); done) | (((with_reducible refine isMax_n h0 ha ?_) <;> first | omega | assumption | (rw [e1, e2]; omega)); done) | (rw [e1, e2]; omega)))
    · intro a ha
      have s3 : S 2 0 = r 3 := hR.1.1
      have s4 : S 2 4 = r 4 := hR.1.2.1
      rw [a184_4]
      repeat' (first | omega | (exact hK _ ha) | simp only [w_iconst, w_istore, w_fall, Int.reduceToNat, w_iload, w_aload, x_g903_0, x_g804_w0, w_ifc, cI, x_g805_w0, x_iald, w_ialoads, w_ialoadw, w_iinc, lgB, Nat.reduceSub, w_goto, w_ireturn, isA_w1, isA_w2, isA_w3, isA_w4, isA_w5, isA_w6, isA_w7, isA_w8, isA_w10, isA_w11, isA_w12, isA_w14, isA_w15, isA_w16, len_w1, len_w2, len_w3, len_w4, len_w5, len_w6, len_w7, len_w8, len_w10, len_w11, len_w12, len_w14, len_w15, len_w16, Int.cast_ofNat_Int, a184_0, a184_41, a184_43, a184_49, R32, List.getElem?_cons_zero, List.getElem?_cons_succ, List.set_cons_zero, List.set_cons_succ, List.cons_append, List.nil_append, List.replicate_succ, List.replicate_zero, List.take_succ_cons, List.take_zero, List.drop_succ_cons, List.drop_zero, List.reverse_cons, List.reverse_nil, List.length_cons, List.length_nil, Option.toList, true_and, and_true, eq_self, ↓reduceIte, not_true_eq_false, not_false_eq_true, true_or, or_true, hw, x_throw, hs_184] | (rw [s3]) | (rw [s4]) | (rw [e3]) | (have nn : a ≠ -1 := (by assumption); have f9 := f4 nn; rw [e4 nn]; clear f4) | with_reducible refine And.intro ?_ ?_ | with_reducible intro _)
      all_goals (try (first | omega | contradiction | skip))
  refine Runs.of (al := [vr 0]) (n := 2) ⟨0, _, _, rfl, xo_0⟩ rfl rfl trivial ?_
  repeat' (first | omega | (exact hL4 _ isMax_0) | simp only [w_iconst, w_istore, w_fall, Int.reduceToNat, w_iload, w_aload, x_g903_0, x_g804_w0, w_ifc, cI, x_g805_w0, x_iald, w_ialoads, w_ialoadw, w_iinc, lgB, Nat.reduceSub, w_goto, w_ireturn, isA_w1, isA_w2, isA_w3, isA_w4, isA_w5, isA_w6, isA_w7, isA_w8, isA_w10, isA_w11, isA_w12, isA_w14, isA_w15, isA_w16, len_w1, len_w2, len_w3, len_w4, len_w5, len_w6, len_w7, len_w8, len_w10, len_w11, len_w12, len_w14, len_w15, len_w16, Int.cast_ofNat_Int, a184_0, a184_41, a184_43, a184_49, R32, List.getElem?_cons_zero, List.getElem?_cons_succ, List.set_cons_zero, List.set_cons_succ, List.cons_append, List.nil_append, List.replicate_succ, List.replicate_zero, List.take_succ_cons, List.take_zero, List.drop_succ_cons, List.drop_zero, List.reverse_cons, List.reverse_nil, List.length_cons, List.length_nil, Option.toList, true_and, and_true, eq_self, ↓reduceIte, not_true_eq_false, not_false_eq_true, true_or, or_true, hw, x_throw, hs_184] | with_reducible refine And.intro ?_ ?_ | with_reducible intro _)
  all_goals (try (first | omega | (exfalso; assumption) | skip))
theorem hs_181 {E : Nat} : pg.2.1 181 E = none := rfl
theorem k181_0 : pg.1 181 0 = [.iload 1, .lookupswitch 43 #[(0, 28), (1, 33), (2, 38)]] := rfl
theorem a181_0 {tb : Tab} {d : Nat} {K : Out → AM → Prop} {ls st : List AV} {m : AM} : At tb d 181 K 0 ls st m = wpB tb (pg.2.1 181) (Runs tb pg d) K (At tb d 181 K) [.iload 1, .lookupswitch 43 #[(0, 28), (1, 33), (2, 38)]] ls st m := At.eq k181_0
theorem k181_28 : pg.1 181 28 = [.aload 0, .invokeinterface 182 1, .ireturn] := rfl
theorem a181_28 {tb : Tab} {d : Nat} {K : Out → AM → Prop} {ls st : List AV} {m : AM} : At tb d 181 K 28 ls st m = wpB tb (pg.2.1 181) (Runs tb pg d) K (At tb d 181 K) [.aload 0, .invokeinterface 182 1, .ireturn] ls st m := At.eq k181_28
theorem k181_33 : pg.1 181 33 = [.aload 0, .invokeinterface 183 1, .ireturn] := rfl
theorem a181_33 {tb : Tab} {d : Nat} {K : Out → AM → Prop} {ls st : List AV} {m : AM} : At tb d 181 K 33 ls st m = wpB tb (pg.2.1 181) (Runs tb pg d) K (At tb d 181 K) [.aload 0, .invokeinterface 183 1, .ireturn] ls st m := At.eq k181_33
theorem k181_38 : pg.1 181 38 = [.aload 0, .invokeinterface 184 1, .ireturn] := rfl
theorem a181_38 {tb : Tab} {d : Nat} {K : Out → AM → Prop} {ls st : List AV} {m : AM} : At tb d 181 K 38 ls st m = wpB tb (pg.2.1 181) (Runs tb pg d) K (At tb d 181 K) [.aload 0, .invokeinterface 184 1, .ireturn] ls st m := At.eq k181_38
theorem k181_43 : pg.1 181 43 = [.invokedynamic 4] := rfl
theorem a181_43 {tb : Tab} {d : Nat} {K : Out → AM → Prop} {ls st : List AV} {m : AM} : At tb d 181 K 43 ls st m = wpB tb (pg.2.1 181) (Runs tb pg d) K (At tb d 181 K) [.invokedynamic 4] ls st m := At.eq k181_43
theorem w_181 {w : Int} (hR : RW S 2 r) (hA : AB r) (hv : R32 w) (hX : ¬ (0 ≤ w ∧ w ≤ 2) → K (.inr 4) (X S (mthrow m))) (hK : ∀ v, (0 ≤ w ∧ w ≤ 2) → isMax (valM (fun _ => r) w) (if w < 2 then r 3 else r 4) v → K (.inl (some (vi v))) (X S m)) : Runs tb pg (d + 4) 181 [vr 0, vi w] (X S m) K := by
  have hw := isW_2
  have b3 := hA.2.1.1
  have b4 := hA.2.1.2.1
  have b5 := hA.2.1.2.2.1
  have uhv := hv
  unfold R32 at uhv
  refine Runs.of (al := [vr 0, vi w]) (n := 0) ⟨0, _, _, rfl, xo_0⟩ rfl rfl trivial ?_
  repeat' (first | omega | (exact hK _ (by omega) (by rw [show w = 0 by omega]; exact x0)) | (exact hK _ (by omega) (by rw [show w = 1 by omega]; exact x1)) | (exact hK _ (by omega) (by rw [show w = 2 by omega]; exact x2)) | (exact hX (by omega)) | simp only [w_iload, w_switch, swB, Int.reduceToNat, w_aload, w_call, w_ireturn, w_throw, a181_0, a181_28, a181_33, a181_38, a181_43, R32, List.getElem?_cons_zero, List.getElem?_cons_succ, List.set_cons_zero, List.set_cons_succ, List.cons_append, List.nil_append, List.replicate_succ, List.replicate_zero, List.take_succ_cons, List.take_zero, List.drop_succ_cons, List.drop_zero, List.reverse_cons, List.reverse_nil, List.length_cons, List.length_nil, Option.toList, true_and, and_true, eq_self, ↓reduceIte, not_true_eq_false, not_false_eq_true, true_or, or_true, hw, x_throw, hs_181] | (with_reducible refine w_182 hR hA (fun v0 x0 => ?_)) | (with_reducible refine w_183 hR hA (fun v1 x1 => ?_)) | (with_reducible refine w_184 hR hA (fun v2 x2 => ?_)) | with_reducible refine And.intro ?_ ?_ | with_reducible intro _)
  all_goals (try (first | omega | (exfalso; assumption) | skip))
theorem hs_185 {E : Nat} : pg.2.1 185 E = none := rfl
theorem k185_0 : pg.1 185 0 = [.iload 1, .ifCond .eq 14, .aload 0, .getfield 903, .invokeinterface 114 1, .goto 21] := rfl
theorem a185_0 {tb : Tab} {d : Nat} {K : Out → AM → Prop} {ls st : List AV} {m : AM} : At tb d 185 K 0 ls st m = wpB tb (pg.2.1 185) (Runs tb pg d) K (At tb d 185 K) [.iload 1, .ifCond .eq 14, .aload 0, .getfield 903, .invokeinterface 114 1, .goto 21] ls st m := At.eq k185_0
theorem k185_14 : pg.1 185 14 = [.aload 0, .getfield 903, .invokeinterface 113 1, .jsr 21] := rfl
theorem a185_14 {tb : Tab} {d : Nat} {K : Out → AM → Prop} {ls st : List AV} {m : AM} : At tb d 185 K 14 ls st m = wpB tb (pg.2.1 185) (Runs tb pg d) K (At tb d 185 K) [.aload 0, .getfield 903, .invokeinterface 113 1, .jsr 21] ls st m := At.eq k185_14
theorem k185_21 : pg.1 185 21 = [.ireturn] := rfl
theorem a185_21 {tb : Tab} {d : Nat} {K : Out → AM → Prop} {ls st : List AV} {m : AM} : At tb d 185 K 21 ls st m = wpB tb (pg.2.1 185) (Runs tb pg d) K (At tb d 185 K) [.ireturn] ls st m := At.eq k185_21
theorem w_185 {w : Int} (hR : RW S 2 r) (hA : AB r) (hv : R32 w) (hK : ∀ v, (w = 0 → v = setZ (r 4) (fun p => pr r p 1 ≠ -1)) → (w ≠ 0 → v = setZ (r 4) (fun p => wholeM (pr r) p (pr r p 0))) → K (.inl (some (vi v))) (X S m)) : Runs tb pg (d + 3) 185 [vr 0, vi w] (X S m) K := by
  have hw := isW_2
  have b3 := hA.2.1.1
  have b4 := hA.2.1.2.1
  have b5 := hA.2.1.2.2.1
  have uhv := hv
  unfold R32 at uhv
  refine Runs.of (al := [vr 0, vi w]) (n := 0) ⟨0, _, _, rfl, xo_0⟩ rfl rfl trivial ?_
  repeat' (first | omega | (exact hK _ (fun _ => x1) (fun z => absurd (by assumption) z)) | (exact hK _ (fun z => absurd z (by assumption)) (fun _ => x2)) | simp only [w_iload, w_if, cI, Int.reduceToNat, w_aload, x_g903_0, w_call, w_goto, w_fall, w_ireturn, a185_0, a185_14, a185_21, R32, List.getElem?_cons_zero, List.getElem?_cons_succ, List.set_cons_zero, List.set_cons_succ, List.cons_append, List.nil_append, List.replicate_succ, List.replicate_zero, List.take_succ_cons, List.take_zero, List.drop_succ_cons, List.drop_zero, List.reverse_cons, List.reverse_nil, List.length_cons, List.length_nil, Option.toList, true_and, and_true, eq_self, ↓reduceIte, not_true_eq_false, not_false_eq_true, true_or, or_true, hw, x_throw, hs_185] | (with_reducible refine w_113 hw hR hA (fun v1 x1 => ?_)) | (with_reducible refine w_114 hw hR hA (fun v2 x2 => ?_)) | with_reducible refine And.intro ?_ ?_ | with_reducible intro _)
  all_goals (try (first | omega | (exfalso; assumption) | skip))
theorem hs_190 {E : Nat} : pg.2.1 190 E = none := rfl
theorem k190_0 : pg.1 190 0 = [.aload 0, .iload 1, .invokeinterface 143 2, .iload 2, .ifCond .eq 23, .aload 0, .getfield 903, .getfield 811, .iload 1, .invokeinterface 53 2, .goto 34] := rfl
theorem a190_0 {tb : Tab} {d : Nat} {K : Out → AM → Prop} {ls st : List AV} {m : AM} : At tb d 190 K 0 ls st m = wpB tb (pg.2.1 190) (Runs tb pg d) K (At tb d 190 K) [.aload 0, .iload 1, .invokeinterface 143 2, .iload 2, .ifCond .eq 23, .aload 0, .getfield 903, .getfield 811, .iload 1, .invokeinterface 53 2, .goto 34] ls st m := At.eq k190_0
theorem k190_23 : pg.1 190 23 = [.aload 0, .getfield 903, .getfield 811, .iload 1, .invokeinterface 52 2, .jsr 34] := rfl
theorem a190_23 {tb : Tab} {d : Nat} {K : Out → AM → Prop} {ls st : List AV} {m : AM} : At tb d 190 K 23 ls st m = wpB tb (pg.2.1 190) (Runs tb pg d) K (At tb d 190 K) [.aload 0, .getfield 903, .getfield 811, .iload 1, .invokeinterface 52 2, .jsr 34] ls st m := At.eq k190_23
theorem k190_34 : pg.1 190 34 = [.ireturn] := rfl
theorem a190_34 {tb : Tab} {d : Nat} {K : Out → AM → Prop} {ls st : List AV} {m : AM} : At tb d 190 K 34 ls st m = wpB tb (pg.2.1 190) (Runs tb pg d) K (At tb d 190 K) [.ireturn] ls st m := At.eq k190_34
theorem w_190 {p w : Int} (hR : RW S 2 r) (hA : AB r) (hp : R32 p) (hv : R32 w) (hX : ¬ (0 ≤ p ∧ p < r 4) → K (.inr 2) (X S (mthrow m))) (hK : ∀ v, (0 ≤ p ∧ p < r 4) → (w = 0 → v = sumZ (r 11) (fun k => if gr r k 1 = p then 1 else 0)) → (w ≠ 0 → (v = -1 ∧ ∀ k, 0 ≤ k → k < r 11 → gr r k 1 ≠ p) ∨ (∃ q, 0 ≤ q ∧ q < r 11 ∧ gr r q 1 = p ∧ v = gr r q 0 ∧ ∀ k, 0 ≤ k → k < q → gr r k 1 ≠ p)) → K (.inl (some (vi v))) (X S m)) : Runs tb pg (d + 3) 190 [vr 0, vi p, vi w] (X S m) K := by
  have hw := isW_2
  have b3 := hA.2.1.1
  have b4 := hA.2.1.2.1
  have b5 := hA.2.1.2.2.1
  have uhp := hp
  unfold R32 at uhp
  have uhv := hv
  unfold R32 at uhv
  refine Runs.of (al := [vr 0, vi p, vi w]) (n := 0) ⟨0, _, _, rfl, xo_0⟩ rfl rfl trivial ?_
  repeat' (first | omega | (exact hX z1) | (exact hK _ z1 (fun _ => x1) (fun z => absurd (by assumption) z)) | (exact hK _ z1 (fun z => absurd z (by assumption)) (fun _ => x2)) | simp only [w_aload, w_iload, w_call, w_if, cI, Int.reduceToNat, x_g903_0, x_g811_w0, w_goto, w_fall, w_ireturn, a190_0, a190_23, a190_34, R32, List.getElem?_cons_zero, List.getElem?_cons_succ, List.set_cons_zero, List.set_cons_succ, List.cons_append, List.nil_append, List.replicate_succ, List.replicate_zero, List.take_succ_cons, List.take_zero, List.drop_succ_cons, List.drop_zero, List.reverse_cons, List.reverse_nil, List.length_cons, List.length_nil, Option.toList, true_and, and_true, eq_self, ↓reduceIte, not_true_eq_false, not_false_eq_true, true_or, or_true, hw, x_throw, hs_190] | (with_reducible refine w_143 hR hA hp (fun z1 => ?_) (fun z1 => ?_)) | (with_reducible refine w_52 hw hR hA hp (fun v1 x1 => ?_)) | (with_reducible refine w_53 hw hR hA hp (fun v2 x2 => ?_)) | with_reducible refine And.intro ?_ ?_ | with_reducible intro _)
  all_goals (try (first | omega | (exfalso; assumption) | skip))
theorem hs_191 {E : Nat} : pg.2.1 191 E = none := rfl
theorem k191_0 : pg.1 191 0 = [.iload 2, .ifCond .lt 9, .iload 2, .bipush 4, .if_icmp .lt 19, .jsr 9] := rfl
theorem a191_0 {tb : Tab} {d : Nat} {K : Out → AM → Prop} {ls st : List AV} {m : AM} : At tb d 191 K 0 ls st m = wpB tb (pg.2.1 191) (Runs tb pg d) K (At tb d 191 K) [.iload 2, .ifCond .lt 9, .iload 2, .bipush 4, .if_icmp .lt 19, .jsr 9] ls st m := At.eq k191_0
theorem k191_9 : pg.1 191 9 = [.invokedynamic 4] := rfl
theorem a191_9 {tb : Tab} {d : Nat} {K : Out → AM → Prop} {ls st : List AV} {m : AM} : At tb d 191 K 9 ls st m = wpB tb (pg.2.1 191) (Runs tb pg d) K (At tb d 191 K) [.invokedynamic 4] ls st m := At.eq k191_9
theorem k191_19 : pg.1 191 19 = [.aload 0, .getfield 903, .getfield 811, .iload 1, .iload 2, .invokeinterface 51 3, .ireturn] := rfl
theorem a191_19 {tb : Tab} {d : Nat} {K : Out → AM → Prop} {ls st : List AV} {m : AM} : At tb d 191 K 19 ls st m = wpB tb (pg.2.1 191) (Runs tb pg d) K (At tb d 191 K) [.aload 0, .getfield 903, .getfield 811, .iload 1, .iload 2, .invokeinterface 51 3, .ireturn] ls st m := At.eq k191_19
theorem w_191 {k w : Int} (hR : RW S 2 r) (hA : AB r) (hk : R32 k) (hv : R32 w) (hX : ¬ (0 ≤ w ∧ w ≤ 3) → K (.inr 4) (X S (mthrow m))) (hK : ∀ v, (0 ≤ w ∧ w ≤ 3) → v = (if 0 ≤ k ∧ k < r 11 then gr r k w else -1) → K (.inl (some (vi v))) (X S m)) : Runs tb pg (d + 2) 191 [vr 0, vi k, vi w] (X S m) K := by
  have hw := isW_2
  have b3 := hA.2.1.1
  have b4 := hA.2.1.2.1
  have b5 := hA.2.1.2.2.1
  have uhk := hk
  unfold R32 at uhk
  have uhv := hv
  unfold R32 at uhv
  refine Runs.of (al := [vr 0, vi k, vi w]) (n := 0) ⟨0, _, _, rfl, xo_0⟩ rfl rfl trivial ?_
  repeat' (first | omega | (exact hX (by omega)) | (exact hK _ (by omega) x1) | simp only [w_iload, w_if, cI, Int.reduceToNat, w_iconst, w_ifc, w_fall, w_throw, w_aload, x_g903_0, x_g811_w0, w_call, w_ireturn, a191_0, a191_9, a191_19, R32, List.getElem?_cons_zero, List.getElem?_cons_succ, List.set_cons_zero, List.set_cons_succ, List.cons_append, List.nil_append, List.replicate_succ, List.replicate_zero, List.take_succ_cons, List.take_zero, List.drop_succ_cons, List.drop_zero, List.reverse_cons, List.reverse_nil, List.length_cons, List.length_nil, Option.toList, true_and, and_true, eq_self, ↓reduceIte, not_true_eq_false, not_false_eq_true, true_or, or_true, hw, x_throw, hs_191] | (with_reducible refine w_51 hw hR hA hk (by omega) (fun v1 x1 => ?_)) | with_reducible refine And.intro ?_ ?_ | with_reducible intro _)
  all_goals (try (first | omega | (exfalso; assumption) | skip))
theorem hs_192 {E : Nat} : pg.2.1 192 E = none := rfl
theorem k192_0 : pg.1 192 0 = [.aload 0, .getfield 903, .getfield 813, .istore 2, .aload 0, .getfield 903, .iload 1, .putfield 813, .iload 2, .ireturn] := rfl
theorem a192_0 {tb : Tab} {d : Nat} {K : Out → AM → Prop} {ls st : List AV} {m : AM} : At tb d 192 K 0 ls st m = wpB tb (pg.2.1 192) (Runs tb pg d) K (At tb d 192 K) [.aload 0, .getfield 903, .getfield 813, .istore 2, .aload 0, .getfield 903, .iload 1, .putfield 813, .iload 2, .ireturn] ls st m := At.eq k192_0
theorem w_192 {n : Int} (hR : RW S 2 r) (hA : AB r)  (hK : K (.inl (some (vi (r 12)))) (X (upS S 2 13 n) m)) : Runs tb pg (d + 1) 192 [vr 0, vi n] (X S m) K := by
  have hw := isW_2
  have b3 := hA.2.1.1
  have b4 := hA.2.1.2.1
  have b5 := hA.2.1.2.2.1
  have s13 : S 2 13 = r 12 := hR.1.2.2.1
  refine Runs.of (al := [vr 0, vi n]) (n := 1) ⟨0, _, _, rfl, xo_0⟩ rfl rfl trivial ?_
  repeat' (first | omega | with_reducible exact hK | simp only [w_aload, x_g903_0, x_g813_w0, w_istore, w_iload, x_p813_w0, w_ireturn, a192_0, R32, List.getElem?_cons_zero, List.getElem?_cons_succ, List.set_cons_zero, List.set_cons_succ, List.cons_append, List.nil_append, List.replicate_succ, List.replicate_zero, List.take_succ_cons, List.take_zero, List.drop_succ_cons, List.drop_zero, List.reverse_cons, List.reverse_nil, List.length_cons, List.length_nil, Option.toList, true_and, and_true, eq_self, ↓reduceIte, not_true_eq_false, not_false_eq_true, true_or, or_true, hw, x_throw, hs_192] | (rw [s13]) | with_reducible refine And.intro ?_ ?_ | with_reducible intro _)
  all_goals (try (first | omega | (exfalso; assumption) | skip))
end Snow3
