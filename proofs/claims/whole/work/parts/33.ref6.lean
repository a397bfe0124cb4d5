/-! ===== THE REFERENCE, calls that only read, on ===== -/
theorem xorI_R (x y : Int) : -2147483648 ≤ xorI x y ∧ xorI x y < 2147483648 := I32_R _
theorem nimM_R (P : Int → Int → Int) (n : Int) : -2147483648 ≤ nimM P n ∧ nimM P n < 2147483648 := by
  unfold nimM xorZ
  rcases n.toNat with _ | k
  · show -2147483648 ≤ (0 : Int) ∧ (0 : Int) < 2147483648
    decide
  · exact xorI_R _ _
/-- whom those of a set owe, as a set -/
noncomputable def dbF (D : Int → Int → Int) (n s : Int) : Int := setZ 8 fun j => ∃ k, 0 ≤ k ∧ k < n ∧ bitB s (D k 0) ∧ D k 1 = j
theorem dbF_of {D : Int → Int → Int} {s n a : Int} (h : isDb D s n a) : a = dbF D n s := by
  have h8 := setZ_lt (n := 8) (c := fun j => ∃ k, 0 ≤ k ∧ k < n ∧ bitB s (D k 0) ∧ D k 1 = j) (by decide)
  have e8 : pw 8 = 256 := by decide
  refine set_ext h.1.1 (by have := h.1.2; omega) h8.1 (by unfold dbF; omega) fun j j0 j1 => ?_
  unfold dbF
  rw [bit_set (by decide) j0 j1]
  exact h.2 j j0 j1
noncomputable def itD (D : Int → Int → Int) (n s : Int) : Nat → Int
  | 0 => s
  | k + 1 => dbF D n (itD D n s k)
noncomputable def itZ (D : Int → Int → Int) (n s k : Int) : Int := itD D n s k.toNat
theorem itZ_s {D : Int → Int → Int} {n s k : Int} (h : 0 ≤ k) : itZ D n s (k + 1) = dbF D n (itZ D n s k) := by
  unfold itZ
  rw [show (k + 1).toNat = k.toNat + 1 by omega]
  rfl
theorem itZ_0 {D : Int → Int → Int} {n s : Int} : itZ D n s 0 = s := rfl
/-- a way of k debts from p back to p -/
def wayM (D : Int → Int → Int) (n p k : Int) : Prop := bitB (itZ D n (shlI 1 p) k) p
/-- the least k of a way from one below a (up to six), or from a up to below k -/
def isRing (c : Int → Int → Prop) (a b r : Int) : Prop := (r = -1 ∧ ∀ p k, 0 ≤ p → 0 < k → ((p < a ∧ k ≤ 6) ∨ (p = a ∧ k < b)) → ¬ c p k) ∨ ((0 < r ∧ r ≤ 6 ∧ ∃ p, 0 ≤ p ∧ ((p < a) ∨ (p = a ∧ r < b)) ∧ c p r) ∧ ∀ p k, 0 ≤ p → 0 < k → ((p < a ∧ k ≤ 6) ∨ (p = a ∧ k < b)) → c p k → r ≤ k)
theorem isRing_0 {c : Int → Int → Prop} : isRing c 0 1 (-1) := Or.inl ⟨rfl, fun p k h0 h1 h2 => by omega⟩
theorem isRing_next {c : Int → Int → Prop} {a r : Int} (h : isRing c a 7 r) : isRing c (a + 1) 1 r := by
  rcases h with ⟨h1, h2⟩ | ⟨⟨h1, h2, p, h3, h4, h5⟩, h6⟩
  · exact Or.inl ⟨h1, fun p k p0 k0 z => h2 p k p0 k0 (by omega)⟩
  · exact Or.inr ⟨⟨h1, h2, p, h3, by omega, h5⟩, fun p k p0 k0 z => h6 p k p0 k0 (by omega)⟩
theorem isRing_n {c : Int → Int → Prop} {a b r : Int} (h : isRing c a b r) (z : ¬ c a b ∨ (r ≠ -1 ∧ r ≤ b)) : isRing c a (b + 1) r := by
  rcases h with ⟨h1, h2⟩ | ⟨⟨h1, h2, p, h3, h4, h5⟩, h6⟩
  · refine Or.inl ⟨h1, fun p k p0 k0 y => ?_⟩
    by_cases e : p = a ∧ k = b
    · rcases z with z | z
      · rw [e.1, e.2]; exact z
      · omega
    · exact h2 p k p0 k0 (by omega)
  · refine Or.inr ⟨⟨h1, h2, p, h3, by omega, h5⟩, fun p k p0 k0 y w => ?_⟩
    by_cases e : p = a ∧ k = b
    · rcases z with z | z
      · rw [e.1, e.2] at w; exact absurd w z
      · omega
    · exact h6 p k p0 k0 (by omega) w
theorem isRing_y {c : Int → Int → Prop} {a b r : Int} (ha : 0 ≤ a) (hb : 0 < b ∧ b ≤ 6) (h : isRing c a b r) (hc : c a b) (z : r = -1 ∨ b < r) : isRing c a (b + 1) b := by
  refine Or.inr ⟨⟨hb.1, hb.2, a, ha, by omega, hc⟩, fun p k p0 k0 y w => ?_⟩
  by_cases e : p = a ∧ k = b
  · omega
  · rcases h with ⟨h1, h2⟩ | ⟨_, h6⟩
    · exact absurd w (h2 p k p0 k0 (by omega))
    · have := h6 p k p0 k0 (by omega) w
      omega
theorem isRing_rg {c : Int → Int → Prop} {a b r : Int} (h : isRing c a b r) : -1 ≤ r ∧ r ≤ 6 := by
  rcases h with ⟨h1, h2⟩ | ⟨⟨h1, h2, _⟩, h6⟩ <;> omega
section Ref6
variable {tb : Tab} {d : Nat} {m : AM} {K : Out → AM → Prop} {S : Nat → Int → Int}
theorem k320_0 : pg.1 320 0 = [.aload 0, .bipush 0, .putfield 1000, .aload 0, .invokeinterface 319 1, .ifCond .eq 16, .bipush 1, .goto 17] := rfl
theorem a320_0 {tb : Tab} {d : Nat} {K : Out → AM → Prop} {ls st : List AV} {m : AM} : At tb d 320 K 0 ls st m = wpB tb (pg.2.1 320) (Runs tb pg d) K (At tb d 320 K) [.aload 0, .bipush 0, .putfield 1000, .aload 0, .invokeinterface 319 1, .ifCond .eq 16, .bipush 1, .goto 17] ls st m := At.eq k320_0
theorem k320_16 : pg.1 320 16 = [.bipush 0, .jsr 17] := rfl
theorem a320_16 {tb : Tab} {d : Nat} {K : Out → AM → Prop} {ls st : List AV} {m : AM} : At tb d 320 K 16 ls st m = wpB tb (pg.2.1 320) (Runs tb pg d) K (At tb d 320 K) [.bipush 0, .jsr 17] ls st m := At.eq k320_16
theorem k320_17 : pg.1 320 17 = [.freturn] := rfl
theorem a320_17 {tb : Tab} {d : Nat} {K : Out → AM → Prop} {ls st : List AV} {m : AM} : At tb d 320 K 17 ls st m = wpB tb (pg.2.1 320) (Runs tb pg d) K (At tb d 320 K) [.freturn] ls st m := At.eq k320_17
theorem q_320 (hB : BR S) (hG : GR S)  (hK : ∀ r, yn r (nimM (oR S) (S 301 4) ≠ 0) → K (.inl (some (vi r))) (X (upS S 300 0 0) m)) : Runs tb pg (d + 5) 320 [vr 300] (X S m) K := by
  refine Runs.of (al := [vr 300]) (n := 0) ⟨300, _, _, rfl, xo_300⟩ rfl rfl trivial ?_
  have u := nimM_R (oR S) (S 301 4)
  repeat' (first | refine hK _ ?_ | simp only [w_aload, w_iconst, x_p1000_300, w_call, w_if, cI, Int.reduceToNat, w_goto, w_fall, w_zreturn, a320_0, a320_16, a320_17, R32, List.getElem?_cons_zero, List.getElem?_cons_succ, List.set_cons_zero, List.set_cons_succ, List.cons_append, List.nil_append, List.replicate_succ, List.replicate_zero, List.take_succ_cons, List.take_zero, List.drop_succ_cons, List.drop_zero, List.reverse_cons, List.reverse_nil, List.length_cons, List.length_nil, Option.toList, true_and, and_true, eq_self, ↓reduceIte, not_true_eq_false, not_false_eq_true, upS_at, up300, up300b, oR3, fR3, dR3, lgR3, valM3, Int.reduceEq, Nat.reduceEqDiff, and_self, and_true, and_false, false_and, if_true, if_false] | refine q_319 hB hG (fun _ _ => ?_) | refine q_319 (BR3 hB) (GR3 hG) (fun _ _ => ?_) | with_reducible refine And.intro ?_ ?_ | with_reducible intro _)
  all_goals (try (first | omega | contradiction | ((try clear hK); (try clear hK0); (try clear hB); (try clear h9); (try clear h8); (try clear h7); (try simp only [oR3, fR3, dR3, lgR3, valM3, up300, up300b] at *); first | omega | (subst_vars; grind [yn]))))
theorem k316_0 : pg.1 316 0 = [.aload 0, .bipush 0, .putfield 1000, .bipush (-1), .istore 1, .bipush 0, .istore 2, .jsr 9] := rfl
theorem a316_0 {tb : Tab} {d : Nat} {K : Out → AM → Prop} {ls st : List AV} {m : AM} : At tb d 316 K 0 ls st m = wpB tb (pg.2.1 316) (Runs tb pg d) K (At tb d 316 K) [.aload 0, .bipush 0, .putfield 1000, .bipush (-1), .istore 1, .bipush 0, .istore 2, .jsr 9] ls st m := At.eq k316_0
theorem k316_9 : pg.1 316 9 = [.iload 2, .aload 0, .getfield 1001, .bipush 4, .iaload, .if_icmp .ge 73, .bipush 1, .iload 2, .ishl, .istore 3, .bipush 1, .istore 4, .jsr 26] := rfl
theorem a316_9 {tb : Tab} {d : Nat} {K : Out → AM → Prop} {ls st : List AV} {m : AM} : At tb d 316 K 9 ls st m = wpB tb (pg.2.1 316) (Runs tb pg d) K (At tb d 316 K) [.iload 2, .aload 0, .getfield 1001, .bipush 4, .iaload, .if_icmp .ge 73, .bipush 1, .iload 2, .ishl, .istore 3, .bipush 1, .istore 4, .jsr 26] ls st m := At.eq k316_9
theorem k316_26 : pg.1 316 26 = [.iload 4, .bipush 6, .if_icmp .gt 67, .aload 0, .iload 3, .invokeinterface 315 2, .istore 3, .iload 3, .iload 2, .invokeinterface 203 2, .ifCond .eq 61, .iload 1, .bipush (-1), .if_icmp .eq 58, .iload 4, .iload 1, .if_icmp .ge 61, .jsr 58] := rfl
theorem a316_26 {tb : Tab} {d : Nat} {K : Out → AM → Prop} {ls st : List AV} {m : AM} : At tb d 316 K 26 ls st m = wpB tb (pg.2.1 316) (Runs tb pg d) K (At tb d 316 K) [.iload 4, .bipush 6, .if_icmp .gt 67, .aload 0, .iload 3, .invokeinterface 315 2, .istore 3, .iload 3, .iload 2, .invokeinterface 203 2, .ifCond .eq 61, .iload 1, .bipush (-1), .if_icmp .eq 58, .iload 4, .iload 1, .if_icmp .ge 61, .jsr 58] ls st m := At.eq k316_26
theorem k316_58 : pg.1 316 58 = [.iload 4, .istore 1, .jsr 61] := rfl
theorem a316_58 {tb : Tab} {d : Nat} {K : Out → AM → Prop} {ls st : List AV} {m : AM} : At tb d 316 K 58 ls st m = wpB tb (pg.2.1 316) (Runs tb pg d) K (At tb d 316 K) [.iload 4, .istore 1, .jsr 61] ls st m := At.eq k316_58
theorem k316_61 : pg.1 316 61 = [.iinc 4 1, .goto 26] := rfl
theorem a316_61 {tb : Tab} {d : Nat} {K : Out → AM → Prop} {ls st : List AV} {m : AM} : At tb d 316 K 61 ls st m = wpB tb (pg.2.1 316) (Runs tb pg d) K (At tb d 316 K) [.iinc 4 1, .goto 26] ls st m := At.eq k316_61
theorem k316_67 : pg.1 316 67 = [.iinc 2 1, .goto 9] := rfl
theorem a316_67 {tb : Tab} {d : Nat} {K : Out → AM → Prop} {ls st : List AV} {m : AM} : At tb d 316 K 67 ls st m = wpB tb (pg.2.1 316) (Runs tb pg d) K (At tb d 316 K) [.iinc 2 1, .goto 9] ls st m := At.eq k316_67
theorem k316_73 : pg.1 316 73 = [.iload 1, .ireturn] := rfl
theorem a316_73 {tb : Tab} {d : Nat} {K : Out → AM → Prop} {ls st : List AV} {m : AM} : At tb d 316 K 73 ls st m = wpB tb (pg.2.1 316) (Runs tb pg d) K (At tb d 316 K) [.iload 1, .ireturn] ls st m := At.eq k316_73
theorem q_316 (hB : BR S) (hD : DR S)  (hK : ∀ r, isRing (wayM (dR S) (S 301 5)) (S 301 4) 1 r → K (.inl (some (vi r))) (X (upS S 300 0 0) m)) : Runs tb pg (d + 3) 316 [vr 300] (X S m) K := by
  have b4 := hB.2.2.1
  have hL9 : (fun i : Int => ∀ (z3 : AV) (z4 : AV) (a : Int), (isRing (wayM (dR S) (S 301 5)) i 1 a) → At tb (d + 2) 316 K 9 [vr 300, vi a, vi i, z3, z4] [] (X (upS S 300 0 0) m)) 0 := by
    refine loopZ (fun i : Int => ∀ (z3 : AV) (z4 : AV) (a : Int), (isRing (wayM (dR S) (S 301 5)) i 1 a) → At tb (d + 2) 316 K 9 [vr 300, vi a, vi i, z3, z4] [] (X (upS S 300 0 0) m)) (S 301 4) (by omega) ?_ ?_
    · intro i h0 h1 h9 z3 z4 a ha
      have hL26 : (fun j : Int => ∀ (n : Int) (s : Int) (b : Int), n = j + 1 → s = itZ (dR S) (S 301 5) (shlI 1 i) j → (isRing (wayM (dR S) (S 301 5)) i (j + 1) b) → At tb (d + 2) 316 K 26 [vr 300, vi b, vi i, vi s, vi n] [] (X (upS S 300 0 0) m)) 0 := by
        refine loopZ (fun j : Int => ∀ (n : Int) (s : Int) (b : Int), n = j + 1 → s = itZ (dR S) (S 301 5) (shlI 1 i) j → (isRing (wayM (dR S) (S 301 5)) i (j + 1) b) → At tb (d + 2) 316 K 26 [vr 300, vi b, vi i, vi s, vi n] [] (X (upS S 300 0 0) m)) (6) (by omega) ?_ ?_
        · intro j j0 j1 h8 n s b hn hs hb
          have g1 := isRing_rg hb
          subst hn
          have q1 := itZ_s (D := dR S) (n := S 301 5) (s := shlI 1 i) j0
          rw [a316_26]
          repeat' (first | refine h8 _ _ _ ?_ ?_ ?_ | simp only [w_aload, w_iconst, x_p1000_300, w_istore, w_fall, Int.reduceToNat, w_iload, x_g1001_300, x_iald, w_ialoads, w_ialoadw, w_ifc, cI, w_ishl, w_call, w_if, w_iinc, lgB, Nat.reduceSub, w_goto, w_ireturn, isA_301, isA_302, isA_303, isA_304, isA_305, isA_306, isA_307, isA_308, isA_309, isA_310, isA_311, isA_312, isA_313, isA_314, isA_315, len_301, len_302, len_303, len_304, len_305, len_306, len_307, len_308, len_309, len_310, len_311, len_312, len_313, len_314, len_315, Int.cast_ofNat_Int, a316_0, a316_58, a316_61, a316_67, a316_73, R32, List.getElem?_cons_zero, List.getElem?_cons_succ, List.set_cons_zero, List.set_cons_succ, List.cons_append, List.nil_append, List.replicate_succ, List.replicate_zero, List.take_succ_cons, List.take_zero, List.drop_succ_cons, List.drop_zero, List.reverse_cons, List.reverse_nil, List.length_cons, List.length_nil, Option.toList, true_and, and_true, eq_self, ↓reduceIte, not_true_eq_false, not_false_eq_true, upS_at, up300, up300b, oR3, fR3, dR3, lgR3, valM3, Int.reduceEq, Nat.reduceEqDiff, and_self, and_true, and_false, false_and, if_true, if_false] | refine q_203 (fun q9 => ?_) (fun q9 => ?_) | refine q_315 hB hD (fun _ _ => ?_) | refine q_315 (BR3 hB) (DR3 hD) (fun _ _ => ?_) | with_reducible refine And.intro ?_ ?_ | with_reducible intro _)
          all_goals (try (first | omega | contradiction | ((try clear hK); (try clear hK0); (try clear hB); (try clear h9); (try clear h8); (try clear h7); (try simp only [oR3, fR3, dR3, lgR3, valM3, up300, up300b] at *); first | omega | (have q2 := dbF_of (by assumption : isDb (dR S) s (S 301 5) _); first | omega | (rw [q1, ← hs]; exact q2)) | (have q2 := dbF_of (by assumption : isDb (dR S) s (S 301 5) _); have q3 : wayM (dR S) (S 301 5) i (j + 1) ↔ bitB (dbF (dR S) (S 301 5) s) i := (by unfold wayM; rw [q1, ← hs]); ((with_reducible refine isRing_y h0 (by omega) hb (q3.mpr (by rw [← q2]; assumption)) ?_) <;> omega)) | (have q2 := dbF_of (by assumption : isDb (dR S) s (S 301 5) _); have q3 : wayM (dR S) (S 301 5) i (j + 1) ↔ bitB (dbF (dR S) (S 301 5) s) i := (by unfold wayM; rw [q1, ← hs]); ((with_reducible refine isRing_n hb ?_) <;> first | omega | (rw [q3, ← q2]; exact Or.inl (by assumption)))))))
        · intro n s b hn hs hb
          rw [a316_26]
          repeat' (first | refine h9 _ _ _ ?_ | simp only [w_aload, w_iconst, x_p1000_300, w_istore, w_fall, Int.reduceToNat, w_iload, x_g1001_300, x_iald, w_ialoads, w_ialoadw, w_ifc, cI, w_ishl, w_call, w_if, w_iinc, lgB, Nat.reduceSub, w_goto, w_ireturn, isA_301, isA_302, isA_303, isA_304, isA_305, isA_306, isA_307, isA_308, isA_309, isA_310, isA_311, isA_312, isA_313, isA_314, isA_315, len_301, len_302, len_303, len_304, len_305, len_306, len_307, len_308, len_309, len_310, len_311, len_312, len_313, len_314, len_315, Int.cast_ofNat_Int, a316_0, a316_58, a316_61, a316_67, a316_73, R32, List.getElem?_cons_zero, List.getElem?_cons_succ, List.set_cons_zero, List.set_cons_succ, List.cons_append, List.nil_append, List.replicate_succ, List.replicate_zero, List.take_succ_cons, List.take_zero, List.drop_succ_cons, List.drop_zero, List.reverse_cons, List.reverse_nil, List.length_cons, List.length_nil, Option.toList, true_and, and_true, eq_self, ↓reduceIte, not_true_eq_false, not_false_eq_true, upS_at, up300, up300b, oR3, fR3, dR3, lgR3, valM3, Int.reduceEq, Nat.reduceEqDiff, and_self, and_true, and_false, false_and, if_true, if_false] | refine q_203 (fun q9 => ?_) (fun q9 => ?_) | refine q_315 hB hD (fun _ _ => ?_) | refine q_315 (BR3 hB) (DR3 hD) (fun _ _ => ?_) | with_reducible refine And.intro ?_ ?_ | with_reducible intro _)
          all_goals (try (first | omega | contradiction | ((try clear hK); (try clear hK0); (try clear hB); (try clear h9); (try clear h8); (try clear h7); (try simp only [oR3, fR3, dR3, lgR3, valM3, up300, up300b] at *); first | omega | exact isRing_next hb)))
      rw [a316_9]
      repeat' (first | refine h9 _ _ _ ?_ | refine hL26 _ _ _ ?_ ?_ ?_ | simp only [w_aload, w_iconst, x_p1000_300, w_istore, w_fall, Int.reduceToNat, w_iload, x_g1001_300, x_iald, w_ialoads, w_ialoadw, w_ifc, cI, w_ishl, w_call, w_if, w_iinc, lgB, Nat.reduceSub, w_goto, w_ireturn, isA_301, isA_302, isA_303, isA_304, isA_305, isA_306, isA_307, isA_308, isA_309, isA_310, isA_311, isA_312, isA_313, isA_314, isA_315, len_301, len_302, len_303, len_304, len_305, len_306, len_307, len_308, len_309, len_310, len_311, len_312, len_313, len_314, len_315, Int.cast_ofNat_Int, a316_0, a316_58, a316_61, a316_67, a316_73, R32, List.getElem?_cons_zero, List.getElem?_cons_succ, List.set_cons_zero, List.set_cons_succ, List.cons_append, List.nil_append, List.replicate_succ, List.replicate_zero, List.take_succ_cons, List.take_zero, List.drop_succ_cons, List.drop_zero, List.reverse_cons, List.reverse_nil, List.length_cons, List.length_nil, Option.toList, true_and, and_true, eq_self, ↓reduceIte, not_true_eq_false, not_false_eq_true, upS_at, up300, up300b, oR3, fR3, dR3, lgR3, valM3, Int.reduceEq, Nat.reduceEqDiff, and_self, and_true, and_false, false_and, if_true, if_false] | refine q_203 (fun q9 => ?_) (fun q9 => ?_) | refine q_315 hB hD (fun _ _ => ?_) | refine q_315 (BR3 hB) (DR3 hD) (fun _ _ => ?_) | with_reducible refine And.intro ?_ ?_ | with_reducible intro _)
      all_goals (try (first | omega | contradiction | ((try clear hK); (try clear hK0); (try clear hB); (try clear h9); (try clear h8); (try clear h7); (try simp only [oR3, fR3, dR3, lgR3, valM3, up300, up300b] at *); first | omega | first | rfl | exact ha | omega)))
    · intro z3 z4 a ha
      rw [a316_9]
      repeat' (first | refine hK _ ?_ | simp only [w_aload, w_iconst, x_p1000_300, w_istore, w_fall, Int.reduceToNat, w_iload, x_g1001_300, x_iald, w_ialoads, w_ialoadw, w_ifc, cI, w_ishl, w_call, w_if, w_iinc, lgB, Nat.reduceSub, w_goto, w_ireturn, isA_301, isA_302, isA_303, isA_304, isA_305, isA_306, isA_307, isA_308, isA_309, isA_310, isA_311, isA_312, isA_313, isA_314, isA_315, len_301, len_302, len_303, len_304, len_305, len_306, len_307, len_308, len_309, len_310, len_311, len_312, len_313, len_314, len_315, Int.cast_ofNat_Int, a316_0, a316_58, a316_61, a316_67, a316_73, R32, List.getElem?_cons_zero, List.getElem?_cons_succ, List.set_cons_zero, List.set_cons_succ, List.cons_append, List.nil_append, List.replicate_succ, List.replicate_zero, List.take_succ_cons, List.take_zero, List.drop_succ_cons, List.drop_zero, List.reverse_cons, List.reverse_nil, List.length_cons, List.length_nil, Option.toList, true_and, and_true, eq_self, ↓reduceIte, not_true_eq_false, not_false_eq_true, upS_at, up300, up300b, oR3, fR3, dR3, lgR3, valM3, Int.reduceEq, Nat.reduceEqDiff, and_self, and_true, and_false, false_and, if_true, if_false] | refine q_203 (fun q9 => ?_) (fun q9 => ?_) | refine q_315 hB hD (fun _ _ => ?_) | refine q_315 (BR3 hB) (DR3 hD) (fun _ _ => ?_) | with_reducible refine And.intro ?_ ?_ | with_reducible intro _)
      all_goals (try (first | omega | contradiction | ((try clear hK); (try clear hK0); (try clear hB); (try clear h9); (try clear h8); (try clear h7); (try simp only [oR3, fR3, dR3, lgR3, valM3, up300, up300b] at *); first | omega | grind)))
  refine Runs.of (al := [vr 300]) (n := 4) ⟨300, _, _, rfl, xo_300⟩ rfl rfl trivial ?_
  repeat' (first | refine hL9 _ _ _ ?_ | simp only [w_aload, w_iconst, x_p1000_300, w_istore, w_fall, Int.reduceToNat, w_iload, x_g1001_300, x_iald, w_ialoads, w_ialoadw, w_ifc, cI, w_ishl, w_call, w_if, w_iinc, lgB, Nat.reduceSub, w_goto, w_ireturn, isA_301, isA_302, isA_303, isA_304, isA_305, isA_306, isA_307, isA_308, isA_309, isA_310, isA_311, isA_312, isA_313, isA_314, isA_315, len_301, len_302, len_303, len_304, len_305, len_306, len_307, len_308, len_309, len_310, len_311, len_312, len_313, len_314, len_315, Int.cast_ofNat_Int, a316_0, a316_58, a316_61, a316_67, a316_73, R32, List.getElem?_cons_zero, List.getElem?_cons_succ, List.set_cons_zero, List.set_cons_succ, List.cons_append, List.nil_append, List.replicate_succ, List.replicate_zero, List.take_succ_cons, List.take_zero, List.drop_succ_cons, List.drop_zero, List.reverse_cons, List.reverse_nil, List.length_cons, List.length_nil, Option.toList, true_and, and_true, eq_self, ↓reduceIte, not_true_eq_false, not_false_eq_true, upS_at, up300, up300b, oR3, fR3, dR3, lgR3, valM3, Int.reduceEq, Nat.reduceEqDiff, and_self, and_true, and_false, false_and, if_true, if_false] | refine q_203 (fun q9 => ?_) (fun q9 => ?_) | refine q_315 hB hD (fun _ _ => ?_) | refine q_315 (BR3 hB) (DR3 hD) (fun _ _ => ?_) | with_reducible refine And.intro ?_ ?_ | with_reducible intro _)
  all_goals (try (first | omega | contradiction | ((try clear hK); (try clear hK0); (try clear hB); (try clear h9); (try clear h8); (try clear h7); (try simp only [oR3, fR3, dR3, lgR3, valM3, up300, up300b] at *); first | omega | exact isRing_0)))
theorem and_R : True := trivial
/-- those of a start whom no debt names -/
def clrM (D : Int → Int → Int) (a : Int) : Nat → Int
  | 0 => a
  | k + 1 => andI (clrM D a k) (xorI (orI (shlI 1 (D k 0)) (shlI 1 (D k 1))) (-1))
theorem clrM_s {D : Int → Int → Int} {a k : Int} (h : 0 ≤ k) : clrM D a (k + 1).toNat = andI (clrM D a k.toNat) (xorI (orI (shlI 1 (D k 0)) (shlI 1 (D k 1))) (-1)) := by
  rw [show (k + 1).toNat = k.toNat + 1 by omega]
  show andI (clrM D a k.toNat) (xorI (orI (shlI 1 (D (k.toNat : Int) 0)) (shlI 1 (D (k.toNat : Int) 1))) (-1)) = _
  rw [Int.toNat_of_nonneg h]
theorem k318_0 : pg.1 318 0 = [.aload 0, .bipush 0, .putfield 1000, .bipush 1, .aload 0, .getfield 1001, .bipush 4, .iaload, .ishl, .bipush 1, .isub, .istore 1, .bipush 0, .istore 2, .jsr 18] := rfl
theorem a318_0 {tb : Tab} {d : Nat} {K : Out → AM → Prop} {ls st : List AV} {m : AM} : At tb d 318 K 0 ls st m = wpB tb (pg.2.1 318) (Runs tb pg d) K (At tb d 318 K) [.aload 0, .bipush 0, .putfield 1000, .bipush 1, .aload 0, .getfield 1001, .bipush 4, .iaload, .ishl, .bipush 1, .isub, .istore 1, .bipush 0, .istore 2, .jsr 18] ls st m := At.eq k318_0
theorem k318_18 : pg.1 318 18 = [.iload 2, .aload 0, .getfield 1001, .bipush 5, .iaload, .if_icmp .ge 56, .iload 1, .bipush 1, .aload 0, .iload 2, .bipush 0, .invokeinterface 208 3, .ishl, .bipush 1, .aload 0, .iload 2, .bipush 1, .invokeinterface 208 3, .ishl, .ior, .bipush (-1), .ixor, .iand, .istore 1, .iinc 2 1, .goto 18] := rfl
theorem a318_18 {tb : Tab} {d : Nat} {K : Out → AM → Prop} {ls st : List AV} {m : AM} : At tb d 318 K 18 ls st m = wpB tb (pg.2.1 318) (Runs tb pg d) K (At tb d 318 K) [.iload 2, .aload 0, .getfield 1001, .bipush 5, .iaload, .if_icmp .ge 56, .iload 1, .bipush 1, .aload 0, .iload 2, .bipush 0, .invokeinterface 208 3, .ishl, .bipush 1, .aload 0, .iload 2, .bipush 1, .invokeinterface 208 3, .ishl, .ior, .bipush (-1), .ixor, .iand, .istore 1, .iinc 2 1, .goto 18] ls st m := At.eq k318_18
theorem k318_56 : pg.1 318 56 = [.iload 1, .ireturn] := rfl
theorem a318_56 {tb : Tab} {d : Nat} {K : Out → AM → Prop} {ls st : List AV} {m : AM} : At tb d 318 K 56 ls st m = wpB tb (pg.2.1 318) (Runs tb pg d) K (At tb d 318 K) [.iload 1, .ireturn] ls st m := At.eq k318_56
theorem q_318 (hB : BR S)  (hK : ∀ r, r = clrM (dR S) (shlI 1 (S 301 4) - 1) (S 301 5).toNat → K (.inl (some (vi r))) (X (upS S 300 0 0) m)) : Runs tb pg (d + 2) 318 [vr 300] (X S m) K := by
  have b5 := hB.2.2.2.1
  have hL18 : (fun i : Int => ∀ (a : Int), a = clrM (dR S) (shlI 1 (S 301 4) - 1) i.toNat → At tb (d + 1) 318 K 18 [vr 300, vi a, vi i] [] (X (upS S 300 0 0) m)) 0 := by
    refine loopZ (fun i : Int => ∀ (a : Int), a = clrM (dR S) (shlI 1 (S 301 4) - 1) i.toNat → At tb (d + 1) 318 K 18 [vr 300, vi a, vi i] [] (X (upS S 300 0 0) m)) (S 301 5) (by omega) ?_ ?_
    · intro i h0 h1 h9 a ha
      rw [a318_18]
      repeat' (first | refine h9 _ ?_ | simp only [w_aload, w_iconst, x_p1000_300, x_g1001_300, x_iald, w_ialoads, w_ialoadw, w_ishl, w_isub, w_istore, w_fall, Int.reduceToNat, w_iload, w_ifc, cI, w_call, w_ior, w_ixor, w_iand, w_iinc, lgB, Nat.reduceSub, w_goto, w_ireturn, isA_301, isA_302, isA_303, isA_304, isA_305, isA_306, isA_307, isA_308, isA_309, isA_310, isA_311, isA_312, isA_313, isA_314, isA_315, len_301, len_302, len_303, len_304, len_305, len_306, len_307, len_308, len_309, len_310, len_311, len_312, len_313, len_314, len_315, Int.cast_ofNat_Int, a318_0, a318_56, R32, List.getElem?_cons_zero, List.getElem?_cons_succ, List.set_cons_zero, List.set_cons_succ, List.cons_append, List.nil_append, List.replicate_succ, List.replicate_zero, List.take_succ_cons, List.take_zero, List.drop_succ_cons, List.drop_zero, List.reverse_cons, List.reverse_nil, List.length_cons, List.length_nil, Option.toList, true_and, and_true, eq_self, ↓reduceIte, not_true_eq_false, not_false_eq_true, upS_at, up300, up300b, oR3, fR3, dR3, lgR3, valM3, Int.reduceEq, Nat.reduceEqDiff, and_self, and_true, and_false, false_and, if_true, if_false] | refine q_208 hB ?_ ?_ ?_ | refine q_208 (BR3 hB) ?_ ?_ ?_ | with_reducible refine And.intro ?_ ?_ | with_reducible intro _)
      all_goals (try (first | omega | contradiction | ((try clear hK); (try clear hK0); (try clear hB); (try clear h9); (try clear h8); (try clear h7); (try simp only [oR3, fR3, dR3, lgR3, valM3, up300, up300b] at *); first | omega | (rw [clrM_s h0]; grind))))
    · intro a ha
      rw [a318_18]
      repeat' (first | refine hK _ ?_ | simp only [w_aload, w_iconst, x_p1000_300, x_g1001_300, x_iald, w_ialoads, w_ialoadw, w_ishl, w_isub, w_istore, w_fall, Int.reduceToNat, w_iload, w_ifc, cI, w_call, w_ior, w_ixor, w_iand, w_iinc, lgB, Nat.reduceSub, w_goto, w_ireturn, isA_301, isA_302, isA_303, isA_304, isA_305, isA_306, isA_307, isA_308, isA_309, isA_310, isA_311, isA_312, isA_313, isA_314, isA_315, len_301, len_302, len_303, len_304, len_305, len_306, len_307, len_308, len_309, len_310, len_311, len_312, len_313, len_314, len_315, Int.cast_ofNat_Int, a318_0, a318_56, R32, List.getElem?_cons_zero, List.getElem?_cons_succ, List.set_cons_zero, List.set_cons_succ, List.cons_append, List.nil_append, List.replicate_succ, List.replicate_zero, List.take_succ_cons, List.take_zero, List.drop_succ_cons, List.drop_zero, List.reverse_cons, List.reverse_nil, List.length_cons, List.length_nil, Option.toList, true_and, and_true, eq_self, ↓reduceIte, not_true_eq_false, not_false_eq_true, upS_at, up300, up300b, oR3, fR3, dR3, lgR3, valM3, Int.reduceEq, Nat.reduceEqDiff, and_self, and_true, and_false, false_and, if_true, if_false] | refine q_208 hB ?_ ?_ ?_ | refine q_208 (BR3 hB) ?_ ?_ ?_ | with_reducible refine And.intro ?_ ?_ | with_reducible intro _)
      all_goals (try (first | omega | contradiction | ((try clear hK); (try clear hK0); (try clear hB); (try clear h9); (try clear h8); (try clear h7); (try simp only [oR3, fR3, dR3, lgR3, valM3, up300, up300b] at *); first | omega | grind)))
  refine Runs.of (al := [vr 300]) (n := 2) ⟨300, _, _, rfl, xo_300⟩ rfl rfl trivial ?_
  repeat' (first | refine hL18 _ ?_ | simp only [w_aload, w_iconst, x_p1000_300, x_g1001_300, x_iald, w_ialoads, w_ialoadw, w_ishl, w_isub, w_istore, w_fall, Int.reduceToNat, w_iload, w_ifc, cI, w_call, w_ior, w_ixor, w_iand, w_iinc, lgB, Nat.reduceSub, w_goto, w_ireturn, isA_301, isA_302, isA_303, isA_304, isA_305, isA_306, isA_307, isA_308, isA_309, isA_310, isA_311, isA_312, isA_313, isA_314, isA_315, len_301, len_302, len_303, len_304, len_305, len_306, len_307, len_308, len_309, len_310, len_311, len_312, len_313, len_314, len_315, Int.cast_ofNat_Int, a318_0, a318_56, R32, List.getElem?_cons_zero, List.getElem?_cons_succ, List.set_cons_zero, List.set_cons_succ, List.cons_append, List.nil_append, List.replicate_succ, List.replicate_zero, List.take_succ_cons, List.take_zero, List.drop_succ_cons, List.drop_zero, List.reverse_cons, List.reverse_nil, List.length_cons, List.length_nil, Option.toList, true_and, and_true, eq_self, ↓reduceIte, not_true_eq_false, not_false_eq_true, upS_at, up300, up300b, oR3, fR3, dR3, lgR3, valM3, Int.reduceEq, Nat.reduceEqDiff, and_self, and_true, and_false, false_and, if_true, if_false] | refine q_208 hB ?_ ?_ ?_ | refine q_208 (BR3 hB) ?_ ?_ ?_ | with_reducible refine And.intro ?_ ?_ | with_reducible intro _)
  all_goals (try (first | omega | contradiction | ((try clear hK); (try clear hK0); (try clear hB); (try clear h9); (try clear h8); (try clear h7); (try simp only [oR3, fR3, dR3, lgR3, valM3, up300, up300b] at *); first | omega | rfl)))
end Ref6
