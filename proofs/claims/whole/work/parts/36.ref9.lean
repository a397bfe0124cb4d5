/-! ===== THE REFERENCE: together, odds, share, settle ===== -/
theorem upS_upS {S : Nat → Int → Int} {a : Nat} {i u v : Int} : upS (upS S a i v) a i u = upS S a i u := by
  refine funext fun b => funext fun j => ?_
  rw [upS_at, upS_at, upS_at]
  split <;> rfl
theorem yn_1 {r : Int} {c : Prop} (h : yn r c) (z : ¬ r = 0) : c := by
  rcases h with h | h
  · exact h.2
  · exact absurd h.1 z
theorem yn_0 {r : Int} {c : Prop} (h : yn r c) (z : r = 0) : ¬ c := by
  rcases h with h | h
  · omega
  · exact h.2
theorem lenT_y {P : Int → Int → Int} {a b r : Int} (h : yn r (holdsM P a b 6)) (z : ¬ r = 0) : lenT P a b (P a 0) := Or.inl ⟨yn_1 h z, rfl⟩
theorem lenT_n {P : Int → Int → Int} {a b r s : Int} (h : yn r (holdsM P a b 6)) (z : r = 0) (hs : isOv P a b (mnM P a b + 1) s) (h0 : 0 ≤ s) (ha : 0 ≤ P a 0) (hb : 0 ≤ P b 0) : lenT P a b (P a 0 + P b 0 - s) := by
  refine Or.inr ⟨yn_0 h z, s, hs, h0, ?_, ?_, rfl⟩
  · rcases hs.1 with q | ⟨q1, q2, _⟩
    · omega
    · unfold mnM at q2
      split at q2 <;> omega
  · rcases hs.1 with q | ⟨q1, q2, _⟩
    · omega
    · unfold mnM at q2
      split at q2 <;> omega
theorem selA_1 {P : Int → Int → Int} {p o r s1 s2 : Int} (h1 : isOv P o p (mnM P o p + 1) s1) (h2 : isOv P p o (mnM P p o + 1) s2) (h : yn r (holdsM P p o 6)) (z : ¬ r = 0) : selA P p o p := ⟨s1, s2, h1, h2, Or.inl ⟨yn_1 h z, rfl⟩⟩
theorem selA_2 {P : Int → Int → Int} {p o r q s1 s2 : Int} (h1 : isOv P o p (mnM P o p + 1) s1) (h2 : isOv P p o (mnM P p o + 1) s2) (h : yn r (holdsM P p o 6)) (z : r = 0) (g : yn q (holdsM P o p 6)) (y : ¬ q = 0) : selA P p o o := ⟨s1, s2, h1, h2, Or.inr (Or.inl ⟨yn_0 h z, yn_1 g y, rfl⟩)⟩
theorem selA_3 {P : Int → Int → Int} {p o r q s1 s2 : Int} (h1 : isOv P o p (mnM P o p + 1) s1) (h2 : isOv P p o (mnM P p o + 1) s2) (h : yn r (holdsM P p o 6)) (z : r = 0) (g : yn q (holdsM P o p 6)) (y : q = 0) (w : ¬ s1 ≤ s2) : selA P p o o := ⟨s1, s2, h1, h2, Or.inr (Or.inr ⟨yn_0 h z, yn_0 g y, Or.inl ⟨by omega, rfl⟩⟩)⟩
theorem selA_4 {P : Int → Int → Int} {p o r q s1 s2 : Int} (h1 : isOv P o p (mnM P o p + 1) s1) (h2 : isOv P p o (mnM P p o + 1) s2) (h : yn r (holdsM P p o 6)) (z : r = 0) (g : yn q (holdsM P o p 6)) (y : q = 0) (w : s1 ≤ s2) : selA P p o p := ⟨s1, s2, h1, h2, Or.inr (Or.inr ⟨yn_0 h z, yn_0 g y, Or.inr ⟨w, rfl⟩⟩)⟩
section Ref9
variable {tb : Tab} {d : Nat} {m : AM} {K : Out → AM → Prop} {S : Nat → Int → Int}
theorem k312_0 : pg.1 312 0 = [.aload 0, .iload 1, .iload 2, .invokeinterface 304 3, .aload 0, .getfield 1000, .ifCond .le 15, .bipush 0, .ireturn] := rfl
theorem a312_0 {tb : Tab} {d : Nat} {K : Out → AM → Prop} {ls st : List AV} {m : AM} : At tb d 312 K 0 ls st m = wpB tb (pg.2.1 312) (Runs tb pg d) K (At tb d 312 K) [.aload 0, .iload 1, .iload 2, .invokeinterface 304 3, .aload 0, .getfield 1000, .ifCond .le 15, .bipush 0, .ireturn] ls st m := At.eq k312_0
theorem k312_15 : pg.1 312 15 = [.aload 0, .iload 1, .iload 2, .if_icmp .ne 25, .bipush 2, .goto 26] := rfl
theorem a312_15 {tb : Tab} {d : Nat} {K : Out → AM → Prop} {ls st : List AV} {m : AM} : At tb d 312 K 15 ls st m = wpB tb (pg.2.1 312) (Runs tb pg d) K (At tb d 312 K) [.aload 0, .iload 1, .iload 2, .if_icmp .ne 25, .bipush 2, .goto 26] ls st m := At.eq k312_15
theorem k312_25 : pg.1 312 25 = [.bipush 0, .jsr 26] := rfl
theorem a312_25 {tb : Tab} {d : Nat} {K : Out → AM → Prop} {ls st : List AV} {m : AM} : At tb d 312 K 25 ls st m = wpB tb (pg.2.1 312) (Runs tb pg d) K (At tb d 312 K) [.bipush 0, .jsr 26] ls st m := At.eq k312_25
theorem k312_26 : pg.1 312 26 = [.putfield 1000, .aload 0, .getfield 1000, .ifCond .le 38, .bipush 0, .ireturn] := rfl
theorem a312_26 {tb : Tab} {d : Nat} {K : Out → AM → Prop} {ls st : List AV} {m : AM} : At tb d 312 K 26 ls st m = wpB tb (pg.2.1 312) (Runs tb pg d) K (At tb d 312 K) [.putfield 1000, .aload 0, .getfield 1000, .ifCond .le 38, .bipush 0, .ireturn] ls st m := At.eq k312_26
theorem k312_38 : pg.1 312 38 = [.aload 0, .iload 2, .iload 1, .invokeinterface 311 3, .aload 0, .iload 1, .iload 2, .invokeinterface 311 3, .if_icmp .le 57, .iload 2, .goto 58] := rfl
theorem a312_38 {tb : Tab} {d : Nat} {K : Out → AM → Prop} {ls st : List AV} {m : AM} : At tb d 312 K 38 ls st m = wpB tb (pg.2.1 312) (Runs tb pg d) K (At tb d 312 K) [.aload 0, .iload 2, .iload 1, .invokeinterface 311 3, .aload 0, .iload 1, .iload 2, .invokeinterface 311 3, .if_icmp .le 57, .iload 2, .goto 58] ls st m := At.eq k312_38
theorem k312_57 : pg.1 312 57 = [.iload 1, .jsr 58] := rfl
theorem a312_57 {tb : Tab} {d : Nat} {K : Out → AM → Prop} {ls st : List AV} {m : AM} : At tb d 312 K 57 ls st m = wpB tb (pg.2.1 312) (Runs tb pg d) K (At tb d 312 K) [.iload 1, .jsr 58] ls st m := At.eq k312_57
theorem k312_58 : pg.1 312 58 = [.istore 4, .aload 0, .iload 2, .iload 1, .invokeinterface 310 3, .ifCond .eq 72, .iload 2, .istore 4, .jsr 72] := rfl
theorem a312_58 {tb : Tab} {d : Nat} {K : Out → AM → Prop} {ls st : List AV} {m : AM} : At tb d 312 K 58 ls st m = wpB tb (pg.2.1 312) (Runs tb pg d) K (At tb d 312 K) [.istore 4, .aload 0, .iload 2, .iload 1, .invokeinterface 310 3, .ifCond .eq 72, .iload 2, .istore 4, .jsr 72] ls st m := At.eq k312_58
theorem k312_72 : pg.1 312 72 = [.aload 0, .iload 1, .iload 2, .invokeinterface 310 3, .ifCond .eq 84, .iload 1, .istore 4, .jsr 84] := rfl
theorem a312_72 {tb : Tab} {d : Nat} {K : Out → AM → Prop} {ls st : List AV} {m : AM} : At tb d 312 K 72 ls st m = wpB tb (pg.2.1 312) (Runs tb pg d) K (At tb d 312 K) [.aload 0, .iload 1, .iload 2, .invokeinterface 310 3, .ifCond .eq 84, .iload 1, .istore 4, .jsr 84] ls st m := At.eq k312_72
theorem k312_84 : pg.1 312 84 = [.iload 4, .iload 1, .if_icmp .ne 94, .iload 2, .goto 95] := rfl
theorem a312_84 {tb : Tab} {d : Nat} {K : Out → AM → Prop} {ls st : List AV} {m : AM} : At tb d 312 K 84 ls st m = wpB tb (pg.2.1 312) (Runs tb pg d) K (At tb d 312 K) [.iload 4, .iload 1, .if_icmp .ne 94, .iload 2, .goto 95] ls st m := At.eq k312_84
theorem k312_94 : pg.1 312 94 = [.iload 1, .jsr 95] := rfl
theorem a312_94 {tb : Tab} {d : Nat} {K : Out → AM → Prop} {ls st : List AV} {m : AM} : At tb d 312 K 94 ls st m = wpB tb (pg.2.1 312) (Runs tb pg d) K (At tb d 312 K) [.iload 1, .jsr 95] ls st m := At.eq k312_94
theorem k312_95 : pg.1 312 95 = [.istore 5, .aload 0, .iload 4, .bipush 0, .invokeinterface 206 3, .istore 6, .aload 0, .iload 4, .iload 5, .invokeinterface 310 3, .ifCond .eq 122, .iload 6, .goto 141] := rfl
theorem a312_95 {tb : Tab} {d : Nat} {K : Out → AM → Prop} {ls st : List AV} {m : AM} : At tb d 312 K 95 ls st m = wpB tb (pg.2.1 312) (Runs tb pg d) K (At tb d 312 K) [.istore 5, .aload 0, .iload 4, .bipush 0, .invokeinterface 206 3, .istore 6, .aload 0, .iload 4, .iload 5, .invokeinterface 310 3, .ifCond .eq 122, .iload 6, .goto 141] ls st m := At.eq k312_95
theorem k312_122 : pg.1 312 122 = [.iload 6, .aload 0, .iload 5, .bipush 0, .invokeinterface 206 3, .iadd, .aload 0, .iload 4, .iload 5, .invokeinterface 311 3, .isub, .jsr 141] := rfl
theorem a312_122 {tb : Tab} {d : Nat} {K : Out → AM → Prop} {ls st : List AV} {m : AM} : At tb d 312 K 122 ls st m = wpB tb (pg.2.1 312) (Runs tb pg d) K (At tb d 312 K) [.iload 6, .aload 0, .iload 5, .bipush 0, .invokeinterface 206 3, .iadd, .aload 0, .iload 4, .iload 5, .invokeinterface 311 3, .isub, .jsr 141] ls st m := At.eq k312_122
theorem k312_141 : pg.1 312 141 = [.istore 7, .iload 3, .bipush (-1), .if_icmp .ne 151, .iload 7, .ireturn] := rfl
theorem a312_141 {tb : Tab} {d : Nat} {K : Out → AM → Prop} {ls st : List AV} {m : AM} : At tb d 312 K 141 ls st m = wpB tb (pg.2.1 312) (Runs tb pg d) K (At tb d 312 K) [.istore 7, .iload 3, .bipush (-1), .if_icmp .ne 151, .iload 7, .ireturn] ls st m := At.eq k312_141
theorem k312_151 : pg.1 312 151 = [.iload 3, .bipush 0, .iload 7, .bipush 1, .isub, .invokeinterface 200 3, .ifCond .ne 165, .bipush (-1), .ireturn] := rfl
theorem a312_151 {tb : Tab} {d : Nat} {K : Out → AM → Prop} {ls st : List AV} {m : AM} : At tb d 312 K 151 ls st m = wpB tb (pg.2.1 312) (Runs tb pg d) K (At tb d 312 K) [.iload 3, .bipush 0, .iload 7, .bipush 1, .isub, .invokeinterface 200 3, .ifCond .ne 165, .bipush (-1), .ireturn] ls st m := At.eq k312_151
theorem k312_165 : pg.1 312 165 = [.iload 3, .iload 6, .if_icmp .ge 183, .aload 0, .iload 4, .bipush 2, .iload 3, .iadd, .invokeinterface 206 3, .goto 203] := rfl
theorem a312_165 {tb : Tab} {d : Nat} {K : Out → AM → Prop} {ls st : List AV} {m : AM} : At tb d 312 K 165 ls st m = wpB tb (pg.2.1 312) (Runs tb pg d) K (At tb d 312 K) [.iload 3, .iload 6, .if_icmp .ge 183, .aload 0, .iload 4, .bipush 2, .iload 3, .iadd, .invokeinterface 206 3, .goto 203] ls st m := At.eq k312_165
theorem k312_183 : pg.1 312 183 = [.aload 0, .iload 5, .bipush 2, .iload 3, .iadd, .iload 7, .isub, .aload 0, .iload 5, .bipush 0, .invokeinterface 206 3, .iadd, .invokeinterface 206 3, .jsr 203] := rfl
theorem a312_183 {tb : Tab} {d : Nat} {K : Out → AM → Prop} {ls st : List AV} {m : AM} : At tb d 312 K 183 ls st m = wpB tb (pg.2.1 312) (Runs tb pg d) K (At tb d 312 K) [.aload 0, .iload 5, .bipush 2, .iload 3, .iadd, .iload 7, .isub, .aload 0, .iload 5, .bipush 0, .invokeinterface 206 3, .iadd, .invokeinterface 206 3, .jsr 203] ls st m := At.eq k312_183
theorem k312_203 : pg.1 312 203 = [.ireturn] := rfl
theorem a312_203 {tb : Tab} {d : Nat} {K : Out → AM → Prop} {ls st : List AV} {m : AM} : At tb d 312 K 203 ls st m = wpB tb (pg.2.1 312) (Runs tb pg d) K (At tb d 312 K) [.ireturn] ls st m := At.eq k312_203
set_option maxHeartbeats 1000000 in
theorem q_312 {p o k : Int} (hB : BR S) (hp : R32 p) (ho : R32 o) (hk : R32 k) (hK1 : ¬ ((0 ≤ p ∧ p < S 301 4) ∧ (0 ≤ o ∧ o < S 301 4)) → K (.inl (some (vi 0))) (X (upS S 300 0 1) m)) (hK2 : (0 ≤ p ∧ p < S 301 4) → (0 ≤ o ∧ o < S 301 4) → p = o → K (.inl (some (vi 0))) (X (upS S 300 0 2) m)) (hK : ∀ r a b n, (0 ≤ p ∧ p < S 301 4) → (0 ≤ o ∧ o < S 301 4) → p ≠ o → ((a = p ∧ b = o) ∨ (a = o ∧ b = p)) → selA (oR S) p o a → lenT (oR S) a b n → togV (oR S) a b n k r → K (.inl (some (vi r))) (X (upS S 300 0 0) m)) : Runs tb pg (d + 4) 312 [vr 300, vi p, vi o, vi k] (X S m) K := by
  unfold R32 at hp ho hk
  have b4 := hB.2.2.1
  have b9 : ∀ p, 0 ≤ p → p < S 301 4 → (0 ≤ oR S p 0 ∧ oR S p 0 ≤ 6) := fun p a b => (hB.2.2.2.2.1 p a (by omega)).1
  have hE : ∀ a b n, (0 ≤ p ∧ p < S 301 4) → (0 ≤ o ∧ o < S 301 4) → p ≠ o → ((a = p ∧ b = o) ∨ (a = o ∧ b = p)) → selA (oR S) p o a → lenT (oR S) a b n → At tb (d + 3) 312 K 141 [vr 300, vi p, vi o, vi k, vi a, vi b, vi (oR S a 0), vu] [vi n] (X (upS S 300 0 0) m) := by
    intro a b n h1 h2 h3 h4 h5 h6
    have hab : (0 ≤ a ∧ a < S 301 4) ∧ (0 ≤ b ∧ b < S 301 4) := by omega
    have ba := b9 a hab.1.1 hab.1.2
    have bb := b9 b hab.2.1 hab.2.2
    have h7 : (0 ≤ n ∧ n ≤ 12) ∧ (n = oR S a 0 ∨ (oR S b 0 - n + oR S a 0 ≥ 0 ∧ n ≥ oR S a 0)) := by
      rcases h6 with ⟨_, z⟩ | ⟨_, s, _, z⟩ <;> omega
    rw [a312_141]
    repeat' (first | refine hK _ _ _ _ h1 h2 h3 h4 h5 h6 ?_ | simp only [w_aload, w_iload, w_call, x_g1000_300, w_if, cI, Int.reduceToNat, w_iconst, w_ireturn, w_ifc, w_goto, w_fall, x_p1000_300, w_istore, w_iadd, w_isub, a312_0, a312_15, a312_25, a312_26, a312_38, a312_57, a312_58, a312_72, a312_84, a312_94, a312_95, a312_122, a312_141, a312_151, a312_165, a312_183, a312_203, R32, List.getElem?_cons_zero, List.getElem?_cons_succ, List.set_cons_zero, List.set_cons_succ, List.cons_append, List.nil_append, List.replicate_succ, List.replicate_zero, List.take_succ_cons, List.take_zero, List.drop_succ_cons, List.drop_zero, List.reverse_cons, List.reverse_nil, List.length_cons, List.length_nil, Option.toList, true_and, and_true, eq_self, ↓reduceIte, not_true_eq_false, not_false_eq_true, true_or, or_true, upS_upS, upS_at, up300, up300b, oR3, fR3, dR3, lgR3, valM3, Int.reduceEq, Nat.reduceEqDiff, and_self, and_true, and_false, false_and, if_true, if_false] | refine q_200 ?_ ?_ ?_ ?_ | refine q_206 hB ?_ ?_ ?_ | refine q_206 (BR3 hB) ?_ ?_ ?_ | refine q_304 hB ?_ ?_ (fun _ => ?_) (fun _ _ => ?_) | refine q_304 (BR3 hB) ?_ ?_ (fun _ => ?_) (fun _ _ => ?_) | refine q_310 hB ?_ ?_ ?_ | refine q_310 (BR3 hB) ?_ ?_ ?_ | refine q_311 hB ?_ ?_ (fun _ _ _ _ => ?_) | refine q_311 (BR3 hB) ?_ ?_ (fun _ _ _ _ => ?_) | with_reducible refine And.intro ?_ ?_ | with_reducible intro _)
    all_goals (try (first | omega | contradiction | ((try clear hK); (try clear hK0); (try clear hB); (try clear h9); (try clear h8); (try clear h7); (try simp only [oR3, fR3, dR3, lgR3, valM3, up300, up300b] at *); first | omega | grind [togV])))
  have hD : ∀ a, (0 ≤ p ∧ p < S 301 4) → (0 ≤ o ∧ o < S 301 4) → p ≠ o → (a = p ∨ a = o) → selA (oR S) p o a → At tb (d + 3) 312 K 84 [vr 300, vi p, vi o, vi k, vi a, vu, vu, vu] [] (X (upS S 300 0 0) m) := by
    intro a h1 h2 h3 h4 h5
    have hab : 0 ≤ a ∧ a < S 301 4 := by omega
    have ba := b9 a hab.1 hab.2
    have bp := b9 p h1.1 h1.2
    have bo := b9 o h2.1 h2.2
    rw [a312_84]
    repeat' (first | refine hE _ _ _ h1 h2 h3 ?_ h5 ?_ | simp only [w_aload, w_iload, w_call, x_g1000_300, w_if, cI, Int.reduceToNat, w_iconst, w_ireturn, w_ifc, w_goto, w_fall, x_p1000_300, w_istore, w_iadd, w_isub, a312_0, a312_15, a312_25, a312_26, a312_38, a312_57, a312_58, a312_72, a312_84, a312_94, a312_95, a312_122, a312_151, a312_165, a312_183, a312_203, R32, List.getElem?_cons_zero, List.getElem?_cons_succ, List.set_cons_zero, List.set_cons_succ, List.cons_append, List.nil_append, List.replicate_succ, List.replicate_zero, List.take_succ_cons, List.take_zero, List.drop_succ_cons, List.drop_zero, List.reverse_cons, List.reverse_nil, List.length_cons, List.length_nil, Option.toList, true_and, and_true, eq_self, ↓reduceIte, not_true_eq_false, not_false_eq_true, true_or, or_true, upS_upS, upS_at, up300, up300b, oR3, fR3, dR3, lgR3, valM3, Int.reduceEq, Nat.reduceEqDiff, and_self, and_true, and_false, false_and, if_true, if_false] | refine q_200 ?_ ?_ ?_ ?_ | refine q_206 hB ?_ ?_ ?_ | refine q_206 (BR3 hB) ?_ ?_ ?_ | refine q_304 hB ?_ ?_ (fun _ => ?_) (fun _ _ => ?_) | refine q_304 (BR3 hB) ?_ ?_ (fun _ => ?_) (fun _ _ => ?_) | refine q_310 hB ?_ ?_ ?_ | refine q_310 (BR3 hB) ?_ ?_ ?_ | refine q_311 hB ?_ ?_ (fun _ _ _ _ => ?_) | refine q_311 (BR3 hB) ?_ ?_ (fun _ _ _ _ => ?_) | with_reducible refine And.intro ?_ ?_ | with_reducible intro _)
    all_goals (try (first | omega | contradiction | ((try clear hK); (try clear hK0); (try clear hB); (try clear h9); (try clear h8); (try clear h7); (try simp only [oR3, fR3, dR3, lgR3, valM3, up300, up300b] at *); first | omega | exact lenT_y (by assumption) (by assumption) | exact lenT_n (by assumption) (by assumption) (by assumption) (by omega) (by omega) (by omega) | (clear hE b9; simp only [yn] at *; omega))))
  refine Runs.of (al := [vr 300, vi p, vi o, vi k]) (n := 4) ⟨300, _, _, rfl, xo_300⟩ rfl rfl trivial ?_
  repeat' (first | refine hD _ ?_ ?_ ?_ ?_ ?_ | refine hK1 ?_ | refine hK2 ?_ ?_ ?_ | simp only [w_aload, w_iload, w_call, x_g1000_300, w_if, cI, Int.reduceToNat, w_iconst, w_ireturn, w_ifc, w_goto, w_fall, x_p1000_300, w_istore, w_iadd, w_isub, a312_0, a312_15, a312_25, a312_26, a312_38, a312_57, a312_58, a312_72, a312_94, a312_95, a312_122, a312_141, a312_151, a312_165, a312_183, a312_203, R32, List.getElem?_cons_zero, List.getElem?_cons_succ, List.set_cons_zero, List.set_cons_succ, List.cons_append, List.nil_append, List.replicate_succ, List.replicate_zero, List.take_succ_cons, List.take_zero, List.drop_succ_cons, List.drop_zero, List.reverse_cons, List.reverse_nil, List.length_cons, List.length_nil, Option.toList, true_and, and_true, eq_self, ↓reduceIte, not_true_eq_false, not_false_eq_true, true_or, or_true, upS_upS, upS_at, up300, up300b, oR3, fR3, dR3, lgR3, valM3, Int.reduceEq, Nat.reduceEqDiff, and_self, and_true, and_false, false_and, if_true, if_false] | refine q_200 ?_ ?_ ?_ ?_ | refine q_206 hB ?_ ?_ ?_ | refine q_206 (BR3 hB) ?_ ?_ ?_ | refine q_304 hB ?_ ?_ (fun _ => ?_) (fun _ _ => ?_) | refine q_304 (BR3 hB) ?_ ?_ (fun _ => ?_) (fun _ _ => ?_) | refine q_310 hB ?_ ?_ ?_ | refine q_310 (BR3 hB) ?_ ?_ ?_ | refine q_311 hB ?_ ?_ (fun _ _ _ _ => ?_) | refine q_311 (BR3 hB) ?_ ?_ (fun _ _ _ _ => ?_) | with_reducible refine And.intro ?_ ?_ | with_reducible intro _)
  all_goals (try (first | omega | contradiction | ((try clear hK); (try clear hK0); (try clear hB); (try clear h9); (try clear h8); (try clear h7); (try simp only [oR3, fR3, dR3, lgR3, valM3, up300, up300b] at *); first | omega | exact selA_1 (by assumption) (by assumption) (by assumption) (by assumption) | exact selA_2 (by assumption) (by assumption) (by assumption) (by assumption) (by assumption) (by assumption) | exact selA_3 (by assumption) (by assumption) (by assumption) (by assumption) (by assumption) (by assumption) (by assumption) | exact selA_4 (by assumption) (by assumption) (by assumption) (by assumption) (by assumption) (by assumption) (by assumption) | (clear hD hE b9; simp only [yn] at *; omega))))
end Ref9
