/-! ===== SNOWNAMES: what is there ===== -/
theorem isW_2 : isW 2 := by unfold isW; omega
theorem isW_19 : isW 19 := by unfold isW; omega
theorem isW_36 : isW 36 := by unfold isW; omega
theorem ynI {v : Int} {c : Prop} [Decidable c] (h : v = if c then 1 else 0) : (v = 1 ∧ c) ∨ (v = 0 ∧ ¬ c) := by
  by_cases z : c
  · rw [if_pos z] at h; exact Or.inl ⟨h, z⟩
  · rw [if_neg z] at h; exact Or.inr ⟨h, z⟩
theorem x_throw {tb : Tab} {hs : Nat → Option (Nat × Nat)} {C : Nat → List AV → AM → (Out → AM → Prop) → Prop} {Q : Out → AM → Prop} {J : Nat → List AV → List AV → AM → Prop} {is : List Instr} {ls : List AV} {S : Nat → Int → Int} {m : AM} {E : Nat} : wpB tb hs C Q J (.invokedynamic E :: is) ls [] (X S m) = Q (.inr E) (X S (mthrow m)) := rfl
theorem rd_let {P : Int → Int → Int} {p n k v : Int} (hn : 0 ≤ n) (h : rdL P p n k v) : ∃ q, isFst (fun i => plM P p i ∧ leftM P p i = k) n q ∧ v = if q = -1 then -1 else P p (8 + q) := by
  rcases h with ⟨i, i0, i1, i2, i3, i4⟩ | ⟨h1, h2⟩
  · refine ⟨i, Or.inr ⟨i0, i1, ⟨i2, i3⟩, fun j j0 j1 z => ?_⟩, by rw [if_neg (by omega)]; exact i4⟩
    have := leftM_lt j0 j1 z.1
    omega
  · exact ⟨-1, Or.inl ⟨rfl, fun i i0 i1 z => h1 i i0 i1 z.1 z.2⟩, by rw [if_pos rfl]; exact h2⟩
section Snow1
variable {tb : Tab} {d : Nat} {m : AM} {K : Out → AM → Prop} {S : Nat → Int → Int} {r : Int → Int}
theorem hs_142 {E : Nat} : pg.2.1 142 E = none := rfl
theorem k142_0 : pg.1 142 0 = [.aload 0, .getfield 903, .iload 1, .invokeinterface 107 2, .ifCond .ne 21, .invokedynamic 2] := rfl
theorem a142_0 {tb : Tab} {d : Nat} {K : Out → AM → Prop} {ls st : List AV} {m : AM} : At tb d 142 K 0 ls st m = wpB tb (pg.2.1 142) (Runs tb pg d) K (At tb d 142 K) [.aload 0, .getfield 903, .iload 1, .invokeinterface 107 2, .ifCond .ne 21, .invokedynamic 2] ls st m := At.eq k142_0
theorem k142_21 : pg.1 142 21 = [.return_] := rfl
theorem a142_21 {tb : Tab} {d : Nat} {K : Out → AM → Prop} {ls st : List AV} {m : AM} : At tb d 142 K 21 ls st m = wpB tb (pg.2.1 142) (Runs tb pg d) K (At tb d 142 K) [.return_] ls st m := At.eq k142_21
theorem w_142 {f : Int} (hR : RW S 2 r) (hA : AB r) (hf : R32 f) (hX : ¬ (0 ≤ f ∧ f < r 3) → K (.inr 2) (X S (mthrow m))) (hK : (0 ≤ f ∧ f < r 3) → K (.inl none) (X S m)) : Runs tb pg (d + 2) 142 [vr 0, vi f] (X S m) K := by
  have hw := isW_2
  have b3 := hA.2.1.1
  have b4 := hA.2.1.2.1
  have b5 := hA.2.1.2.2.1
  have uhf := hf
  unfold R32 at uhf
  refine Runs.of (al := [vr 0, vi f]) (n := 0) ⟨0, _, _, rfl, xo_0⟩ rfl rfl trivial ?_
  repeat' (first | omega | (exact hK (by omega)) | (exact hX (by omega)) | simp only [w_aload, x_g903_0, w_iload, w_call, w_if, cI, Int.reduceToNat, w_throw, w_return, a142_0, a142_21, R32, List.getElem?_cons_zero, List.getElem?_cons_succ, List.set_cons_zero, List.set_cons_succ, List.cons_append, List.nil_append, List.replicate_succ, List.replicate_zero, List.take_succ_cons, List.take_zero, List.drop_succ_cons, List.drop_zero, List.reverse_cons, List.reverse_nil, List.length_cons, List.length_nil, Option.toList, true_and, and_true, eq_self, ↓reduceIte, not_true_eq_false, not_false_eq_true, true_or, or_true, hw, x_throw, hs_142] | ((with_reducible refine w_107 hw hR hA hf (fun v1 x1 => ?_)); have gy1 := ynI x1; clear x1) | with_reducible refine And.intro ?_ ?_ | with_reducible intro _)
  all_goals (try (first | omega | (exfalso; assumption) | skip))
theorem hs_143 {E : Nat} : pg.2.1 143 E = none := rfl
theorem k143_0 : pg.1 143 0 = [.aload 0, .getfield 903, .iload 1, .invokeinterface 108 2, .ifCond .ne 21, .invokedynamic 2] := rfl
theorem a143_0 {tb : Tab} {d : Nat} {K : Out → AM → Prop} {ls st : List AV} {m : AM} : At tb d 143 K 0 ls st m = wpB tb (pg.2.1 143) (Runs tb pg d) K (At tb d 143 K) [.aload 0, .getfield 903, .iload 1, .invokeinterface 108 2, .ifCond .ne 21, .invokedynamic 2] ls st m := At.eq k143_0
theorem k143_21 : pg.1 143 21 = [.return_] := rfl
theorem a143_21 {tb : Tab} {d : Nat} {K : Out → AM → Prop} {ls st : List AV} {m : AM} : At tb d 143 K 21 ls st m = wpB tb (pg.2.1 143) (Runs tb pg d) K (At tb d 143 K) [.return_] ls st m := At.eq k143_21
theorem w_143 {p : Int} (hR : RW S 2 r) (hA : AB r) (hp : R32 p) (hX : ¬ (0 ≤ p ∧ p < r 4) → K (.inr 2) (X S (mthrow m))) (hK : (0 ≤ p ∧ p < r 4) → K (.inl none) (X S m)) : Runs tb pg (d + 2) 143 [vr 0, vi p] (X S m) K := by
  have hw := isW_2
  have b3 := hA.2.1.1
  have b4 := hA.2.1.2.1
  have b5 := hA.2.1.2.2.1
  have uhp := hp
  unfold R32 at uhp
  refine Runs.of (al := [vr 0, vi p]) (n := 0) ⟨0, _, _, rfl, xo_0⟩ rfl rfl trivial ?_
  repeat' (first | omega | (exact hK (by omega)) | (exact hX (by omega)) | simp only [w_aload, x_g903_0, w_iload, w_call, w_if, cI, Int.reduceToNat, w_throw, w_return, a143_0, a143_21, R32, List.getElem?_cons_zero, List.getElem?_cons_succ, List.set_cons_zero, List.set_cons_succ, List.cons_append, List.nil_append, List.replicate_succ, List.replicate_zero, List.take_succ_cons, List.take_zero, List.drop_succ_cons, List.drop_zero, List.reverse_cons, List.reverse_nil, List.length_cons, List.length_nil, Option.toList, true_and, and_true, eq_self, ↓reduceIte, not_true_eq_false, not_false_eq_true, true_or, or_true, hw, x_throw, hs_143] | ((with_reducible refine w_108 hw hR hA hp (fun v1 x1 => ?_)); have gy1 := ynI x1; clear x1) | with_reducible refine And.intro ?_ ?_ | with_reducible intro _)
  all_goals (try (first | omega | (exfalso; assumption) | skip))
theorem hs_144 {E : Nat} : pg.2.1 144 E = none := rfl
theorem k144_0 : pg.1 144 0 = [.iload 1, .ifCond .lt 18, .iload 1, .aload 0, .getfield 903, .getfield 810, .getfield 0, .if_icmp .lt 28, .jsr 18] := rfl
theorem a144_0 {tb : Tab} {d : Nat} {K : Out → AM → Prop} {ls st : List AV} {m : AM} : At tb d 144 K 0 ls st m = wpB tb (pg.2.1 144) (Runs tb pg d) K (At tb d 144 K) [.iload 1, .ifCond .lt 18, .iload 1, .aload 0, .getfield 903, .getfield 810, .getfield 0, .if_icmp .lt 28, .jsr 18] ls st m := At.eq k144_0
theorem k144_18 : pg.1 144 18 = [.invokedynamic 2] := rfl
theorem a144_18 {tb : Tab} {d : Nat} {K : Out → AM → Prop} {ls st : List AV} {m : AM} : At tb d 144 K 18 ls st m = wpB tb (pg.2.1 144) (Runs tb pg d) K (At tb d 144 K) [.invokedynamic 2] ls st m := At.eq k144_18
theorem k144_28 : pg.1 144 28 = [.return_] := rfl
theorem a144_28 {tb : Tab} {d : Nat} {K : Out → AM → Prop} {ls st : List AV} {m : AM} : At tb d 144 K 28 ls st m = wpB tb (pg.2.1 144) (Runs tb pg d) K (At tb d 144 K) [.return_] ls st m := At.eq k144_28
theorem w_144 {k : Int} (hR : RW S 2 r) (hA : AB r) (hk : R32 k) (hX : ¬ (0 ≤ k ∧ k < r 5) → K (.inr 2) (X S (mthrow m))) (hK : (0 ≤ k ∧ k < r 5) → K (.inl none) (X S m)) : Runs tb pg (d + 1) 144 [vr 0, vi k] (X S m) K := by
  have hw := isW_2
  have b3 := hA.2.1.1
  have b4 := hA.2.1.2.1
  have b5 := hA.2.1.2.2.1
  have uhk := hk
  unfold R32 at uhk
  refine Runs.of (al := [vr 0, vi k]) (n := 0) ⟨0, _, _, rfl, xo_0⟩ rfl rfl trivial ?_
  repeat' (first | omega | (exact hK (by omega)) | (exact hX (by omega)) | simp only [w_iload, w_if, cI, Int.reduceToNat, w_aload, x_g903_0, x_g810_w0, x_g0_w9, w_ifc, w_fall, w_throw, w_return, a144_0, a144_18, a144_28, R32, List.getElem?_cons_zero, List.getElem?_cons_succ, List.set_cons_zero, List.set_cons_succ, List.cons_append, List.nil_append, List.replicate_succ, List.replicate_zero, List.take_succ_cons, List.take_zero, List.drop_succ_cons, List.drop_zero, List.reverse_cons, List.reverse_nil, List.length_cons, List.length_nil, Option.toList, true_and, and_true, eq_self, ↓reduceIte, not_true_eq_false, not_false_eq_true, true_or, or_true, hw, x_throw, hs_144] | (rw [hR.2.2.2.1.1]) | with_reducible refine And.intro ?_ ?_ | with_reducible intro _)
  all_goals (try (first | omega | (exfalso; assumption) | skip))
theorem hs_145 {E : Nat} : pg.2.1 145 E = none := rfl
theorem k145_0 : pg.1 145 0 = [.iload 0, .iload 1, .if_icmp .lt 10, .iload 0, .iload 2, .if_icmp .le 20, .jsr 10] := rfl
theorem a145_0 {tb : Tab} {d : Nat} {K : Out → AM → Prop} {ls st : List AV} {m : AM} : At tb d 145 K 0 ls st m = wpB tb (pg.2.1 145) (Runs tb pg d) K (At tb d 145 K) [.iload 0, .iload 1, .if_icmp .lt 10, .iload 0, .iload 2, .if_icmp .le 20, .jsr 10] ls st m := At.eq k145_0
theorem k145_10 : pg.1 145 10 = [.invokedynamic 1] := rfl
theorem a145_10 {tb : Tab} {d : Nat} {K : Out → AM → Prop} {ls st : List AV} {m : AM} : At tb d 145 K 10 ls st m = wpB tb (pg.2.1 145) (Runs tb pg d) K (At tb d 145 K) [.invokedynamic 1] ls st m := At.eq k145_10
theorem k145_20 : pg.1 145 20 = [.return_] := rfl
theorem a145_20 {tb : Tab} {d : Nat} {K : Out → AM → Prop} {ls st : List AV} {m : AM} : At tb d 145 K 20 ls st m = wpB tb (pg.2.1 145) (Runs tb pg d) K (At tb d 145 K) [.return_] ls st m := At.eq k145_20
theorem w_145 {n a b : Int} (hn : R32 n) (ha : R32 a) (hb : R32 b) (hX : ¬ (a ≤ n ∧ n ≤ b) → K (.inr 1) (X S (mthrow m))) (hK : (a ≤ n ∧ n ≤ b) → K (.inl none) (X S m)) : Runs tb pg (d + 1) 145 [vi n, vi a, vi b] (X S m) K := by
  refine Runs.of (al := [vi n, vi a, vi b]) (n := 0) trivial rfl rfl trivial ?_
  have un := hn
  have ua := ha
  have ub := hb
  unfold R32 at un ua ub
  repeat' (first | omega | (exact hK (by omega)) | (exact hX (by omega)) | simp only [w_iload, w_ifc, cI, Int.reduceToNat, w_fall, w_throw, w_return, a145_0, a145_10, a145_20, R32, List.getElem?_cons_zero, List.getElem?_cons_succ, List.set_cons_zero, List.set_cons_succ, List.cons_append, List.nil_append, List.replicate_succ, List.replicate_zero, List.take_succ_cons, List.take_zero, List.drop_succ_cons, List.drop_zero, List.reverse_cons, List.reverse_nil, List.length_cons, List.length_nil, Option.toList, true_and, and_true, eq_self, ↓reduceIte, not_true_eq_false, not_false_eq_true, true_or, or_true, x_throw, hs_145] | with_reducible refine And.intro ?_ ?_ | with_reducible intro _)
  all_goals (try (first | omega | contradiction | skip))
theorem hs_155 {E : Nat} : pg.2.1 155 E = none := rfl
theorem k155_0 : pg.1 155 0 = [.iload 0, .iload 1, .if_icmp .ne 16, .invokedynamic 1] := rfl
theorem a155_0 {tb : Tab} {d : Nat} {K : Out → AM → Prop} {ls st : List AV} {m : AM} : At tb d 155 K 0 ls st m = wpB tb (pg.2.1 155) (Runs tb pg d) K (At tb d 155 K) [.iload 0, .iload 1, .if_icmp .ne 16, .invokedynamic 1] ls st m := At.eq k155_0
theorem k155_16 : pg.1 155 16 = [.return_] := rfl
theorem a155_16 {tb : Tab} {d : Nat} {K : Out → AM → Prop} {ls st : List AV} {m : AM} : At tb d 155 K 16 ls st m = wpB tb (pg.2.1 155) (Runs tb pg d) K (At tb d 155 K) [.return_] ls st m := At.eq k155_16
theorem w_155 {p q : Int} (hp : R32 p) (hq : R32 q) (hX : p = q → K (.inr 1) (X S (mthrow m))) (hK : p ≠ q → K (.inl none) (X S m)) : Runs tb pg (d + 1) 155 [vi p, vi q] (X S m) K := by
  refine Runs.of (al := [vi p, vi q]) (n := 0) trivial rfl rfl trivial ?_
  have un := hp
  have ua := hq
  unfold R32 at un ua
  repeat' (first | omega | (exact hK (by omega)) | (exact hX (by omega)) | simp only [w_iload, w_ifc, cI, Int.reduceToNat, w_throw, w_return, a155_0, a155_16, R32, List.getElem?_cons_zero, List.getElem?_cons_succ, List.set_cons_zero, List.set_cons_succ, List.cons_append, List.nil_append, List.replicate_succ, List.replicate_zero, List.take_succ_cons, List.take_zero, List.drop_succ_cons, List.drop_zero, List.reverse_cons, List.reverse_nil, List.length_cons, List.length_nil, Option.toList, true_and, and_true, eq_self, ↓reduceIte, not_true_eq_false, not_false_eq_true, true_or, or_true, x_throw, hs_155] | with_reducible refine And.intro ?_ ?_ | with_reducible intro _)
  all_goals (try (first | omega | contradiction | skip))
theorem hs_154 {E : Nat} : pg.2.1 154 E = none := rfl
theorem k154_0 : pg.1 154 0 = [.aload 0, .getfield 903, .getfield 807, .iload 1, .iaload, .bipush (-1), .if_icmp .ne 24, .invokedynamic 0] := rfl
theorem a154_0 {tb : Tab} {d : Nat} {K : Out → AM → Prop} {ls st : List AV} {m : AM} : At tb d 154 K 0 ls st m = wpB tb (pg.2.1 154) (Runs tb pg d) K (At tb d 154 K) [.aload 0, .getfield 903, .getfield 807, .iload 1, .iaload, .bipush (-1), .if_icmp .ne 24, .invokedynamic 0] ls st m := At.eq k154_0
theorem k154_24 : pg.1 154 24 = [.return_] := rfl
theorem a154_24 {tb : Tab} {d : Nat} {K : Out → AM → Prop} {ls st : List AV} {m : AM} : At tb d 154 K 24 ls st m = wpB tb (pg.2.1 154) (Runs tb pg d) K (At tb d 154 K) [.return_] ls st m := At.eq k154_24
theorem w_154 {p : Int} (hR : RW S 2 r) (hA : AB r) (hp : 0 ≤ p ∧ p < r 4) (hX : pr r p 1 = -1 → K (.inr 0) (X S (mthrow m))) (hK : pr r p 1 ≠ -1 → K (.inl none) (X S m)) : Runs tb pg (d + 1) 154 [vr 0, vi p] (X S m) K := by
  have hw := isW_2
  have b3 := hA.2.1.1
  have b4 := hA.2.1.2.1
  have b5 := hA.2.1.2.2.1
  have z4 := AB_pp hA hp.1 hp.2
  have on_p := (hR.2.2.1 p hp.1 hp.2).2.1
  refine Runs.of (al := [vr 0, vi p]) (n := 0) ⟨0, _, _, rfl, xo_0⟩ rfl rfl trivial ?_
  repeat' (first | omega | (exact hK (by omega)) | (exact hX (by omega)) | simp only [w_aload, x_g903_0, x_g807_w0, w_iload, x_iald, w_ialoads, w_ialoadw, w_iconst, w_ifc, cI, Int.reduceToNat, w_throw, w_return, isA_w1, isA_w2, isA_w3, isA_w4, isA_w5, isA_w6, isA_w7, isA_w8, isA_w10, isA_w11, isA_w12, isA_w14, isA_w15, isA_w16, len_w1, len_w2, len_w3, len_w4, len_w5, len_w6, len_w7, len_w8, len_w10, len_w11, len_w12, len_w14, len_w15, len_w16, Int.cast_ofNat_Int, a154_0, a154_24, R32, List.getElem?_cons_zero, List.getElem?_cons_succ, List.set_cons_zero, List.set_cons_succ, List.cons_append, List.nil_append, List.replicate_succ, List.replicate_zero, List.take_succ_cons, List.take_zero, List.drop_succ_cons, List.drop_zero, List.reverse_cons, List.reverse_nil, List.length_cons, List.length_nil, Option.toList, true_and, and_true, eq_self, ↓reduceIte, not_true_eq_false, not_false_eq_true, true_or, or_true, hw, x_throw, hs_154] | (rw [on_p]) | with_reducible refine And.intro ?_ ?_ | with_reducible intro _)
  all_goals (try (first | omega | (exfalso; assumption) | skip))
theorem hs_135 {E : Nat} : pg.2.1 135 E = none := rfl
theorem k135_0 : pg.1 135 0 = [.aload 0, .iload 1, .invokeinterface 142 2, .iload 2, .lookupswitch 88 #[(0, 40), (1, 50), (2, 60), (3, 70), (4, 79)]] := rfl
theorem a135_0 {tb : Tab} {d : Nat} {K : Out → AM → Prop} {ls st : List AV} {m : AM} : At tb d 135 K 0 ls st m = wpB tb (pg.2.1 135) (Runs tb pg d) K (At tb d 135 K) [.aload 0, .iload 1, .invokeinterface 142 2, .iload 2, .lookupswitch 88 #[(0, 40), (1, 50), (2, 60), (3, 70), (4, 79)]] ls st m := At.eq k135_0
theorem k135_40 : pg.1 135 40 = [.aload 0, .getfield 903, .getfield 801, .iload 1, .iaload, .ireturn] := rfl
theorem a135_40 {tb : Tab} {d : Nat} {K : Out → AM → Prop} {ls st : List AV} {m : AM} : At tb d 135 K 40 ls st m = wpB tb (pg.2.1 135) (Runs tb pg d) K (At tb d 135 K) [.aload 0, .getfield 903, .getfield 801, .iload 1, .iaload, .ireturn] ls st m := At.eq k135_40
theorem k135_50 : pg.1 135 50 = [.aload 0, .getfield 903, .getfield 802, .iload 1, .iaload, .ireturn] := rfl
theorem a135_50 {tb : Tab} {d : Nat} {K : Out → AM → Prop} {ls st : List AV} {m : AM} : At tb d 135 K 50 ls st m = wpB tb (pg.2.1 135) (Runs tb pg d) K (At tb d 135 K) [.aload 0, .getfield 903, .getfield 802, .iload 1, .iaload, .ireturn] ls st m := At.eq k135_50
theorem k135_60 : pg.1 135 60 = [.aload 0, .getfield 903, .getfield 803, .iload 1, .iaload, .ireturn] := rfl
theorem a135_60 {tb : Tab} {d : Nat} {K : Out → AM → Prop} {ls st : List AV} {m : AM} : At tb d 135 K 60 ls st m = wpB tb (pg.2.1 135) (Runs tb pg d) K (At tb d 135 K) [.aload 0, .getfield 903, .getfield 803, .iload 1, .iaload, .ireturn] ls st m := At.eq k135_60
theorem k135_70 : pg.1 135 70 = [.aload 0, .getfield 903, .iload 1, .invokeinterface 109 2, .ireturn] := rfl
theorem a135_70 {tb : Tab} {d : Nat} {K : Out → AM → Prop} {ls st : List AV} {m : AM} : At tb d 135 K 70 ls st m = wpB tb (pg.2.1 135) (Runs tb pg d) K (At tb d 135 K) [.aload 0, .getfield 903, .iload 1, .invokeinterface 109 2, .ireturn] ls st m := At.eq k135_70
theorem k135_79 : pg.1 135 79 = [.aload 0, .getfield 903, .iload 1, .invokeinterface 112 2, .ireturn] := rfl
theorem a135_79 {tb : Tab} {d : Nat} {K : Out → AM → Prop} {ls st : List AV} {m : AM} : At tb d 135 K 79 ls st m = wpB tb (pg.2.1 135) (Runs tb pg d) K (At tb d 135 K) [.aload 0, .getfield 903, .iload 1, .invokeinterface 112 2, .ireturn] ls st m := At.eq k135_79
theorem k135_88 : pg.1 135 88 = [.invokedynamic 4] := rfl
theorem a135_88 {tb : Tab} {d : Nat} {K : Out → AM → Prop} {ls st : List AV} {m : AM} : At tb d 135 K 88 ls st m = wpB tb (pg.2.1 135) (Runs tb pg d) K (At tb d 135 K) [.invokedynamic 4] ls st m := At.eq k135_88
theorem w_135 {f w : Int} (hR : RW S 2 r) (hA : AB r) (hf : R32 f) (hv : R32 w) (hX1 : ¬ (0 ≤ f ∧ f < r 3) → K (.inr 2) (X S (mthrow m))) (hX2 : (0 ≤ f ∧ f < r 3) → ¬ (0 ≤ w ∧ w ≤ 4) → K (.inr 4) (X S (mthrow m))) (hK : ∀ v, (0 ≤ f ∧ f < r 3) → (0 ≤ w ∧ w ≤ 4) → v = fieldV (pr r) (fr r) (r 4) f w → K (.inl (some (vi v))) (X S m)) : Runs tb pg (d + 3) 135 [vr 0, vi f, vi w] (X S m) K := by
  have hw := isW_2
  have b3 := hA.2.1.1
  have b4 := hA.2.1.2.1
  have b5 := hA.2.1.2.2.1
  have uhf := hf
  unfold R32 at uhf
  have uhv := hv
  unfold R32 at uhv
  refine Runs.of (al := [vr 0, vi f, vi w]) (n := 0) ⟨0, _, _, rfl, xo_0⟩ rfl rfl trivial ?_
  repeat' (first | omega | (exact hX1 z) | (exact hX2 z (by omega)) | simp only [w_aload, w_iload, w_call, w_switch, swB, Int.reduceToNat, x_g903_0, x_g801_w0, x_iald, w_ialoads, w_ialoadw, w_ireturn, x_g802_w0, x_g803_w0, w_throw, isA_w1, isA_w2, isA_w3, isA_w4, isA_w5, isA_w6, isA_w7, isA_w8, isA_w10, isA_w11, isA_w12, isA_w14, isA_w15, isA_w16, len_w1, len_w2, len_w3, len_w4, len_w5, len_w6, len_w7, len_w8, len_w10, len_w11, len_w12, len_w14, len_w15, len_w16, Int.cast_ofNat_Int, a135_0, a135_40, a135_50, a135_60, a135_70, a135_79, a135_88, R32, List.getElem?_cons_zero, List.getElem?_cons_succ, List.set_cons_zero, List.set_cons_succ, List.cons_append, List.nil_append, List.replicate_succ, List.replicate_zero, List.take_succ_cons, List.take_zero, List.drop_succ_cons, List.drop_zero, List.reverse_cons, List.reverse_nil, List.length_cons, List.length_nil, Option.toList, true_and, and_true, eq_self, ↓reduceIte, not_true_eq_false, not_false_eq_true, true_or, or_true, hw, x_throw, hs_135] | (with_reducible refine w_142 hR hA hf (fun z => ?_) (fun z => ?_)) | (exact hK _ z (by omega) (by rw [show w = 0 by omega]; unfold fieldV; first | rfl | (simp; exact (hR.2.1 f z.1 z.2).1) | (rw [if_pos (by decide)]; exact (hR.2.1 f z.1 z.2).1))) | (exact hK _ z (by omega) (by rw [show w = 1 by omega]; unfold fieldV; first | rfl | (simp; exact (hR.2.1 f z.1 z.2).2.1) | (rw [if_pos (by decide)]; exact (hR.2.1 f z.1 z.2).2.1))) | (exact hK _ z (by omega) (by rw [show w = 2 by omega]; unfold fieldV; first | rfl | (simp; exact (hR.2.1 f z.1 z.2).2.2) | (rw [if_pos (by decide)]; exact (hR.2.1 f z.1 z.2).2.2))) | (with_reducible refine w_109 hw hR hA hf (fun v1 x1 => ?_)) | (with_reducible refine w_112 hw hR hA hf (fun v2 x2 => ?_)) | (exact hK _ z (by omega) (by rw [show w = 3 by omega, x1]; rfl)) | (exact hK _ z (by omega) (by rw [show w = 4 by omega, x2]; rfl)) | with_reducible refine And.intro ?_ ?_ | with_reducible intro _)
  all_goals (try (first | omega | (exfalso; assumption) | skip))
theorem hs_139 {E : Nat} : pg.2.1 139 E = none := rfl
theorem k139_0 : pg.1 139 0 = [.aload 0, .iload 1, .invokeinterface 144 2, .iload 2, .lookupswitch 71 #[(0, 32), (1, 45), (2, 58)]] := rfl
theorem a139_0 {tb : Tab} {d : Nat} {K : Out → AM → Prop} {ls st : List AV} {m : AM} : At tb d 139 K 0 ls st m = wpB tb (pg.2.1 139) (Runs tb pg d) K (At tb d 139 K) [.aload 0, .iload 1, .invokeinterface 144 2, .iload 2, .lookupswitch 71 #[(0, 32), (1, 45), (2, 58)]] ls st m := At.eq k139_0
theorem k139_32 : pg.1 139 32 = [.aload 0, .getfield 903, .getfield 810, .getfield 1, .iload 1, .iaload, .ireturn] := rfl
theorem a139_32 {tb : Tab} {d : Nat} {K : Out → AM → Prop} {ls st : List AV} {m : AM} : At tb d 139 K 32 ls st m = wpB tb (pg.2.1 139) (Runs tb pg d) K (At tb d 139 K) [.aload 0, .getfield 903, .getfield 810, .getfield 1, .iload 1, .iaload, .ireturn] ls st m := At.eq k139_32
theorem k139_45 : pg.1 139 45 = [.aload 0, .getfield 903, .getfield 810, .getfield 2, .iload 1, .iaload, .ireturn] := rfl
theorem a139_45 {tb : Tab} {d : Nat} {K : Out → AM → Prop} {ls st : List AV} {m : AM} : At tb d 139 K 45 ls st m = wpB tb (pg.2.1 139) (Runs tb pg d) K (At tb d 139 K) [.aload 0, .getfield 903, .getfield 810, .getfield 2, .iload 1, .iaload, .ireturn] ls st m := At.eq k139_45
theorem k139_58 : pg.1 139 58 = [.aload 0, .getfield 903, .getfield 810, .getfield 3, .iload 1, .iaload, .ireturn] := rfl
theorem a139_58 {tb : Tab} {d : Nat} {K : Out → AM → Prop} {ls st : List AV} {m : AM} : At tb d 139 K 58 ls st m = wpB tb (pg.2.1 139) (Runs tb pg d) K (At tb d 139 K) [.aload 0, .getfield 903, .getfield 810, .getfield 3, .iload 1, .iaload, .ireturn] ls st m := At.eq k139_58
theorem k139_71 : pg.1 139 71 = [.invokedynamic 4] := rfl
theorem a139_71 {tb : Tab} {d : Nat} {K : Out → AM → Prop} {ls st : List AV} {m : AM} : At tb d 139 K 71 ls st m = wpB tb (pg.2.1 139) (Runs tb pg d) K (At tb d 139 K) [.invokedynamic 4] ls st m := At.eq k139_71
theorem w_139 {k w : Int} (hR : RW S 2 r) (hA : AB r) (hk : R32 k) (hv : R32 w) (hX1 : ¬ (0 ≤ k ∧ k < r 5) → K (.inr 2) (X S (mthrow m))) (hX2 : (0 ≤ k ∧ k < r 5) → ¬ (0 ≤ w ∧ w ≤ 2) → K (.inr 4) (X S (mthrow m))) (hK : (0 ≤ k ∧ k < r 5) → (0 ≤ w ∧ w ≤ 2) → K (.inl (some (vi (dr r k w)))) (X S m)) : Runs tb pg (d + 2) 139 [vr 0, vi k, vi w] (X S m) K := by
  have hw := isW_2
  have b3 := hA.2.1.1
  have b4 := hA.2.1.2.1
  have b5 := hA.2.1.2.2.1
  have uhk := hk
  unfold R32 at uhk
  have uhv := hv
  unfold R32 at uhv
  refine Runs.of (al := [vr 0, vi k, vi w]) (n := 0) ⟨0, _, _, rfl, xo_0⟩ rfl rfl trivial ?_
  repeat' (first | omega | (exact hX1 z) | (exact hX2 z (by omega)) | simp only [w_aload, w_iload, w_call, w_switch, swB, Int.reduceToNat, x_g903_0, x_g810_w0, x_g1_w9, x_iald, w_ialoads, w_ialoadw, w_ireturn, x_g2_w9, x_g3_w9, w_throw, isA_w1, isA_w2, isA_w3, isA_w4, isA_w5, isA_w6, isA_w7, isA_w8, isA_w10, isA_w11, isA_w12, isA_w14, isA_w15, isA_w16, len_w1, len_w2, len_w3, len_w4, len_w5, len_w6, len_w7, len_w8, len_w10, len_w11, len_w12, len_w14, len_w15, len_w16, Int.cast_ofNat_Int, a139_0, a139_32, a139_45, a139_58, a139_71, R32, List.getElem?_cons_zero, List.getElem?_cons_succ, List.set_cons_zero, List.set_cons_succ, List.cons_append, List.nil_append, List.replicate_succ, List.replicate_zero, List.take_succ_cons, List.take_zero, List.drop_succ_cons, List.drop_zero, List.reverse_cons, List.reverse_nil, List.length_cons, List.length_nil, Option.toList, true_and, and_true, eq_self, ↓reduceIte, not_true_eq_false, not_false_eq_true, true_or, or_true, hw, x_throw, hs_139] | (with_reducible refine w_144 hR hA hk (fun z => ?_) (fun z => ?_)) | (have e := hR.2.2.2.1.2 k z.1 z.2; have h := hK z (by omega); first | (rw [show w = 0 by omega] at h; rw [e.1]; exact h) | (rw [show w = 1 by omega] at h; rw [e.2.1]; exact h) | (rw [show w = 2 by omega] at h; rw [e.2.2]; exact h)) | with_reducible refine And.intro ?_ ?_ | with_reducible intro _)
  all_goals (try (first | omega | (exfalso; assumption) | skip))
theorem hs_138 {E : Nat} : pg.2.1 138 E = none := rfl
theorem k138_0 : pg.1 138 0 = [.aload 0, .iload 1, .invokeinterface 143 2, .iload 3, .ifCond .lt 14, .iload 3, .bipush 3, .if_icmp .le 24, .jsr 14] := rfl
theorem a138_0 {tb : Tab} {d : Nat} {K : Out → AM → Prop} {ls st : List AV} {m : AM} : At tb d 138 K 0 ls st m = wpB tb (pg.2.1 138) (Runs tb pg d) K (At tb d 138 K) [.aload 0, .iload 1, .invokeinterface 143 2, .iload 3, .ifCond .lt 14, .iload 3, .bipush 3, .if_icmp .le 24, .jsr 14] ls st m := At.eq k138_0
theorem k138_14 : pg.1 138 14 = [.invokedynamic 4] := rfl
theorem a138_14 {tb : Tab} {d : Nat} {K : Out → AM → Prop} {ls st : List AV} {m : AM} : At tb d 138 K 14 ls st m = wpB tb (pg.2.1 138) (Runs tb pg d) K (At tb d 138 K) [.invokedynamic 4] ls st m := At.eq k138_14
theorem k138_24 : pg.1 138 24 = [.iload 2, .ifCond .lt 58, .iload 2, .aload 0, .getfield 903, .getfield 805, .iload 1, .iaload, .if_icmp .ge 58, .iload 3, .ifCond .le 60, .aload 0, .getfield 903, .getfield 807, .iload 1, .iaload, .bipush (-1), .if_icmp .ne 60, .jsr 58] := rfl
theorem a138_24 {tb : Tab} {d : Nat} {K : Out → AM → Prop} {ls st : List AV} {m : AM} : At tb d 138 K 24 ls st m = wpB tb (pg.2.1 138) (Runs tb pg d) K (At tb d 138 K) [.iload 2, .ifCond .lt 58, .iload 2, .aload 0, .getfield 903, .getfield 805, .iload 1, .iaload, .if_icmp .ge 58, .iload 3, .ifCond .le 60, .aload 0, .getfield 903, .getfield 807, .iload 1, .iaload, .bipush (-1), .if_icmp .ne 60, .jsr 58] ls st m := At.eq k138_24
theorem k138_58 : pg.1 138 58 = [.bipush (-1), .ireturn] := rfl
theorem a138_58 {tb : Tab} {d : Nat} {K : Out → AM → Prop} {ls st : List AV} {m : AM} : At tb d 138 K 58 ls st m = wpB tb (pg.2.1 138) (Runs tb pg d) K (At tb d 138 K) [.bipush (-1), .ireturn] ls st m := At.eq k138_58
theorem k138_60 : pg.1 138 60 = [.iload 3, .lookupswitch 133 #[(0, 88), (1, 103), (2, 118)]] := rfl
theorem a138_60 {tb : Tab} {d : Nat} {K : Out → AM → Prop} {ls st : List AV} {m : AM} : At tb d 138 K 60 ls st m = wpB tb (pg.2.1 138) (Runs tb pg d) K (At tb d 138 K) [.iload 3, .lookupswitch 133 #[(0, 88), (1, 103), (2, 118)]] ls st m := At.eq k138_60
theorem k138_88 : pg.1 138 88 = [.aload 0, .getfield 903, .getfield 806, .bipush 6, .iload 1, .imul, .iload 2, .iadd, .iaload, .ireturn] := rfl
theorem a138_88 {tb : Tab} {d : Nat} {K : Out → AM → Prop} {ls st : List AV} {m : AM} : At tb d 138 K 88 ls st m = wpB tb (pg.2.1 138) (Runs tb pg d) K (At tb d 138 K) [.aload 0, .getfield 903, .getfield 806, .bipush 6, .iload 1, .imul, .iload 2, .iadd, .iaload, .ireturn] ls st m := At.eq k138_88
theorem k138_103 : pg.1 138 103 = [.aload 0, .getfield 903, .getfield 808, .bipush 6, .iload 1, .imul, .iload 2, .iadd, .iaload, .ireturn] := rfl
theorem a138_103 {tb : Tab} {d : Nat} {K : Out → AM → Prop} {ls st : List AV} {m : AM} : At tb d 138 K 103 ls st m = wpB tb (pg.2.1 138) (Runs tb pg d) K (At tb d 138 K) [.aload 0, .getfield 903, .getfield 808, .bipush 6, .iload 1, .imul, .iload 2, .iadd, .iaload, .ireturn] ls st m := At.eq k138_103
theorem k138_118 : pg.1 138 118 = [.aload 0, .getfield 903, .getfield 809, .bipush 6, .iload 1, .imul, .iload 2, .iadd, .iaload, .ireturn] := rfl
theorem a138_118 {tb : Tab} {d : Nat} {K : Out → AM → Prop} {ls st : List AV} {m : AM} : At tb d 138 K 118 ls st m = wpB tb (pg.2.1 138) (Runs tb pg d) K (At tb d 138 K) [.aload 0, .getfield 903, .getfield 809, .bipush 6, .iload 1, .imul, .iload 2, .iadd, .iaload, .ireturn] ls st m := At.eq k138_118
theorem k138_133 : pg.1 138 133 = [.aload 0, .getfield 903, .iload 1, .iload 2, .invokeinterface 119 3, .ireturn] := rfl
theorem a138_133 {tb : Tab} {d : Nat} {K : Out → AM → Prop} {ls st : List AV} {m : AM} : At tb d 138 K 133 ls st m = wpB tb (pg.2.1 138) (Runs tb pg d) K (At tb d 138 K) [.aload 0, .getfield 903, .iload 1, .iload 2, .invokeinterface 119 3, .ireturn] ls st m := At.eq k138_133
theorem w_138 {p k w : Int} (hR : RW S 2 r) (hA : AB r) (hp : R32 p) (hk : R32 k) (hv : R32 w) (hX1 : ¬ (0 ≤ p ∧ p < r 4) → K (.inr 2) (X S (mthrow m))) (hX2 : (0 ≤ p ∧ p < r 4) → ¬ (0 ≤ w ∧ w ≤ 3) → K (.inr 4) (X S (mthrow m))) (hK : ∀ v, (0 ≤ p ∧ p < r 4) → (0 ≤ w ∧ w ≤ 3) → letV (pr r) p k w v → K (.inl (some (vi v))) (X S m)) : Runs tb pg (d + 3) 138 [vr 0, vi p, vi k, vi w] (X S m) K := by
  have hw := isW_2
  have b3 := hA.2.1.1
  have b4 := hA.2.1.2.1
  have b5 := hA.2.1.2.2.1
  have uhp := hp
  unfold R32 at uhp
  have uhk := hk
  unfold R32 at uhk
  have uhv := hv
  unfold R32 at uhv
  refine Runs.of (al := [vr 0, vi p, vi k, vi w]) (n := 0) ⟨0, _, _, rfl, xo_0⟩ rfl rfl trivial ?_
  repeat' (first | omega | (exact hX1 z1) | (exact hX2 z1 (by omega)) | (exact hK _ z1 (by omega) (Or.inl ⟨by omega, rfl⟩)) | (exact hK _ z1 (by omega) (Or.inr ⟨by omega, Or.inr (Or.inl ⟨by omega, by omega, rfl⟩)⟩)) | (exact hK _ z1 (by omega) (Or.inr ⟨by omega, Or.inl ⟨by omega, e5 k (by omega) (by omega)⟩⟩)) | (exact hK _ z1 (by omega) (Or.inr ⟨by omega, Or.inr (Or.inr ⟨by omega, by omega, Or.inl ⟨by omega, (e78 (by omega) k (by omega) (by omega)).1⟩⟩)⟩)) | (exact hK _ z1 (by omega) (Or.inr ⟨by omega, Or.inr (Or.inr ⟨by omega, by omega, Or.inr (Or.inl ⟨by omega, (e78 (by omega) k (by omega) (by omega)).2⟩)⟩)⟩)) | (exact hK _ z1 (by omega) (Or.inr ⟨by omega, Or.inr (Or.inr ⟨by omega, by omega, Or.inr (Or.inr ⟨by omega, rd_let (by omega) x9⟩)⟩)⟩)) | simp only [w_aload, w_iload, w_call, w_if, cI, Int.reduceToNat, w_iconst, w_ifc, w_fall, w_throw, x_g903_0, x_g805_w0, x_iald, w_ialoads, w_ialoadw, x_g807_w0, w_ireturn, w_switch, swB, x_g806_w0, w_imul, w_iadd, x_g808_w0, x_g809_w0, isA_w1, isA_w2, isA_w3, isA_w4, isA_w5, isA_w6, isA_w7, isA_w8, isA_w10, isA_w11, isA_w12, isA_w14, isA_w15, isA_w16, len_w1, len_w2, len_w3, len_w4, len_w5, len_w6, len_w7, len_w8, len_w10, len_w11, len_w12, len_w14, len_w15, len_w16, Int.cast_ofNat_Int, a138_0, a138_14, a138_24, a138_58, a138_60, a138_88, a138_103, a138_118, a138_133, R32, List.getElem?_cons_zero, List.getElem?_cons_succ, List.set_cons_zero, List.set_cons_succ, List.cons_append, List.nil_append, List.replicate_succ, List.replicate_zero, List.take_succ_cons, List.take_zero, List.drop_succ_cons, List.drop_zero, List.reverse_cons, List.reverse_nil, List.length_cons, List.length_nil, Option.toList, true_and, and_true, eq_self, ↓reduceIte, not_true_eq_false, not_false_eq_true, true_or, or_true, hw, x_throw, hs_138] | ((with_reducible refine w_143 hR hA hp (fun z1 => ?_) (fun z1 => ?_)); rotate_left; have zz := AB_pp hA z1.1 z1.2; have e4 := (hR.2.2.1 p z1.1 z1.2).1; have e6 := (hR.2.2.1 p z1.1 z1.2).2.1; have e5 := (hR.2.2.1 p z1.1 z1.2).2.2.1; have e78 := (hR.2.2.1 p z1.1 z1.2).2.2.2) | (rw [e4]) | (rw [e6]) | (have on : pr r p 1 ≠ -1 := (by omega); (with_reducible refine w_119 hw hR hA z1 on hk (fun v9 x9 _ _ => ?_))) | with_reducible refine And.intro ?_ ?_ | with_reducible intro _)
  all_goals (try (first | omega | (exfalso; assumption) | skip))
theorem hs_140 {E : Nat} : pg.2.1 140 E = none := rfl
theorem k140_0 : pg.1 140 0 = [.aload 0, .iload 1, .invokeinterface 143 2, .aload 0, .iload 2, .invokeinterface 142 2, .aload 0, .getfield 903, .iload 1, .iload 2, .invokeinterface 124 3, .ireturn] := rfl
theorem a140_0 {tb : Tab} {d : Nat} {K : Out → AM → Prop} {ls st : List AV} {m : AM} : At tb d 140 K 0 ls st m = wpB tb (pg.2.1 140) (Runs tb pg d) K (At tb d 140 K) [.aload 0, .iload 1, .invokeinterface 143 2, .aload 0, .iload 2, .invokeinterface 142 2, .aload 0, .getfield 903, .iload 1, .iload 2, .invokeinterface 124 3, .ireturn] ls st m := At.eq k140_0
theorem w_140 {p f : Int} (hR : RW S 2 r) (hA : AB r) (hp : R32 p) (hf : R32 f) (hl : LWo m (S 2 15) (lawD r)) (hX : ¬ ((0 ≤ p ∧ p < r 4) ∧ (0 ≤ f ∧ f < r 3)) → K (.inr 2) (X S (mthrow m))) (hK : ∀ T m1 v, (0 ≤ p ∧ p < r 4) → (0 ≤ f ∧ f < r 3) → v = mltR evL r p f → FT S T 2 → MS m m1 → K (.inl (some (vi v))) (X T m1)) : Runs tb pg (d + 4) 140 [vr 0, vi p, vi f] (X S m) K := by
  have hw := isW_2
  have b3 := hA.2.1.1
  have b4 := hA.2.1.2.1
  have b5 := hA.2.1.2.2.1
  have uhp := hp
  unfold R32 at uhp
  have uhf := hf
  unfold R32 at uhf
  refine Runs.of (al := [vr 0, vi p, vi f]) (n := 0) ⟨0, _, _, rfl, xo_0⟩ rfl rfl trivial ?_
  repeat' (first | omega | (exact hX (fun y => z1 y.1)) | (exact hX (fun y => z y.2)) | (exact hK _ _ _ z1 z x9 y9 u9) | simp only [w_aload, w_iload, w_call, x_g903_0, w_ireturn, a140_0, R32, List.getElem?_cons_zero, List.getElem?_cons_succ, List.set_cons_zero, List.set_cons_succ, List.cons_append, List.nil_append, List.replicate_succ, List.replicate_zero, List.take_succ_cons, List.take_zero, List.drop_succ_cons, List.drop_zero, List.reverse_cons, List.reverse_nil, List.length_cons, List.length_nil, Option.toList, true_and, and_true, eq_self, ↓reduceIte, not_true_eq_false, not_false_eq_true, true_or, or_true, hw, x_throw, hs_140] | (with_reducible refine w_143 hR hA hp (fun z1 => ?_) (fun z1 => ?_)) | (with_reducible refine w_142 hR hA hf (fun z => ?_) (fun z => ?_)) | (with_reducible refine w_124 hw hR hA z1 z hl (fun T9 m9 v9 x9 y9 u9 => ?_)) | with_reducible refine And.intro ?_ ?_ | with_reducible intro _)
  all_goals (try (first | omega | (exfalso; assumption) | skip))
theorem hs_141 {E : Nat} : pg.2.1 141 E = none := rfl
theorem k141_0 : pg.1 141 0 = [.aload 0, .iload 1, .invokeinterface 143 2, .aload 0, .iload 2, .invokeinterface 142 2, .aload 0, .getfield 903, .iload 1, .iload 2, .invokeinterface 125 3, .ireturn] := rfl
theorem a141_0 {tb : Tab} {d : Nat} {K : Out → AM → Prop} {ls st : List AV} {m : AM} : At tb d 141 K 0 ls st m = wpB tb (pg.2.1 141) (Runs tb pg d) K (At tb d 141 K) [.aload 0, .iload 1, .invokeinterface 143 2, .aload 0, .iload 2, .invokeinterface 142 2, .aload 0, .getfield 903, .iload 1, .iload 2, .invokeinterface 125 3, .ireturn] ls st m := At.eq k141_0
theorem w_141 {p f : Int} (hR : RW S 2 r) (hA : AB r) (hp : R32 p) (hf : R32 f) (hl : LWo m (S 2 15) (lawD r)) (hX : ¬ ((0 ≤ p ∧ p < r 4) ∧ (0 ≤ f ∧ f < r 3)) → K (.inr 2) (X S (mthrow m))) (hK : ∀ T m1 v, (0 ≤ p ∧ p < r 4) → (0 ≤ f ∧ f < r 3) → v = dptR evL r p f → FT S T 2 → MS m m1 → K (.inl (some (vi v))) (X T m1)) : Runs tb pg (d + 4) 141 [vr 0, vi p, vi f] (X S m) K := by
  have hw := isW_2
  have b3 := hA.2.1.1
  have b4 := hA.2.1.2.1
  have b5 := hA.2.1.2.2.1
  have uhp := hp
  unfold R32 at uhp
  have uhf := hf
  unfold R32 at uhf
  refine Runs.of (al := [vr 0, vi p, vi f]) (n := 0) ⟨0, _, _, rfl, xo_0⟩ rfl rfl trivial ?_
  repeat' (first | omega | (exact hX (fun y => z1 y.1)) | (exact hX (fun y => z y.2)) | (exact hK _ _ _ z1 z x9 y9 u9) | simp only [w_aload, w_iload, w_call, x_g903_0, w_ireturn, a141_0, R32, List.getElem?_cons_zero, List.getElem?_cons_succ, List.set_cons_zero, List.set_cons_succ, List.cons_append, List.nil_append, List.replicate_succ, List.replicate_zero, List.take_succ_cons, List.take_zero, List.drop_succ_cons, List.drop_zero, List.reverse_cons, List.reverse_nil, List.length_cons, List.length_nil, Option.toList, true_and, and_true, eq_self, ↓reduceIte, not_true_eq_false, not_false_eq_true, true_or, or_true, hw, x_throw, hs_141] | (with_reducible refine w_143 hR hA hp (fun z1 => ?_) (fun z1 => ?_)) | (with_reducible refine w_142 hR hA hf (fun z => ?_) (fun z => ?_)) | (with_reducible refine w_125 hw hR hA z1 z hl (fun T9 m9 v9 x9 y9 u9 => ?_)) | with_reducible refine And.intro ?_ ?_ | with_reducible intro _)
  all_goals (try (first | omega | (exfalso; assumption) | skip))
end Snow1
