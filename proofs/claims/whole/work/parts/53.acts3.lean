/-! ===== THE REFERENCE: the last acts ===== -/
def payP (r : Int → Int) (k i : Int) : Int → Int := fun j => if j = 5 then r 5 - 1 else if 151 + 3 * k ≤ j ∧ j < 151 + i then r (j + 3) else r j
theorem payP_0 {r : Int → Int} {k : Int} : payP r k (3 * k) = putR r 5 (r 5 - 1) := by
  funext j
  unfold payP putR
  by_cases e : j = 5
  · rw [if_pos e, if_pos e]
  · rw [if_neg e, if_neg e, if_neg (by omega)]
theorem payP_s {r : Int → Int} {k i : Int} (h : 3 * k ≤ i) (k0 : 0 ≤ k) : putR (payP r k i) (151 + i) (payP r k i (151 + i + 3)) = payP r k (i + 1) := by
  funext j
  unfold putR payP
  grind
/-- a remembered row laid back -/
def undS (S : Nat → Int → Int) (i : Int) : Nat → Int → Int := fun b => if b = 301 then (fun j => if 0 ≤ j ∧ j < i then S 304 (415 * (S 300 6 - 1) + j) else S 301 j) else if b = 300 then (fun j => if j = 6 then S 300 6 - 1 else S 300 j) else S b
def imgS (S : Nat → Int → Int) (i : Int) : Nat → Int → Int := fun b => if b = 302 then (fun j => if 0 ≤ j ∧ j < i then S 301 j else S 302 j) else S b
section Ref26
variable {tb : Tab} {d : Nat} {m : AM} {K : Out → AM → Prop} {S : Nat → Int → Int} {ev : LawD → Int → (Int → Int) → Int} {good : LawD → Prop}
theorem k287_0 : pg.1 287 0 = [.aload 0, .aload 0, .iload 1, .invokeinterface 210 2, .ifCond .ne 13, .bipush 1, .goto 28] := rfl
theorem a287_0 {tb : Tab} {d : Nat} {K : Out → AM → Prop} {ls st : List AV} {m : AM} : At tb d 287 K 0 ls st m = wpB tb (pg.2.1 287) (Runs tb pg d) K (At tb d 287 K) [.aload 0, .aload 0, .iload 1, .invokeinterface 210 2, .ifCond .ne 13, .bipush 1, .goto 28] ls st m := At.eq k287_0
theorem k287_13 : pg.1 287 13 = [.iload 2, .bipush 1, .bipush 9, .invokeinterface 200 3, .ifCond .ne 27, .bipush 2, .goto 28] := rfl
theorem a287_13 {tb : Tab} {d : Nat} {K : Out → AM → Prop} {ls st : List AV} {m : AM} : At tb d 287 K 13 ls st m = wpB tb (pg.2.1 287) (Runs tb pg d) K (At tb d 287 K) [.iload 2, .bipush 1, .bipush 9, .invokeinterface 200 3, .ifCond .ne 27, .bipush 2, .goto 28] ls st m := At.eq k287_13
theorem k287_27 : pg.1 287 27 = [.bipush 0, .jsr 28] := rfl
theorem a287_27 {tb : Tab} {d : Nat} {K : Out → AM → Prop} {ls st : List AV} {m : AM} : At tb d 287 K 27 ls st m = wpB tb (pg.2.1 287) (Runs tb pg d) K (At tb d 287 K) [.bipush 0, .jsr 28] ls st m := At.eq k287_27
theorem k287_28 : pg.1 287 28 = [.putfield 1000, .aload 0, .getfield 1000, .ifCond .le 40, .bipush 0, .ireturn] := rfl
theorem a287_28 {tb : Tab} {d : Nat} {K : Out → AM → Prop} {ls st : List AV} {m : AM} : At tb d 287 K 28 ls st m = wpB tb (pg.2.1 287) (Runs tb pg d) K (At tb d 287 K) [.putfield 1000, .aload 0, .getfield 1000, .ifCond .le 40, .bipush 0, .ireturn] ls st m := At.eq k287_28
theorem k287_40 : pg.1 287 40 = [.aload 0, .aload 0, .iload 1, .invokeinterface 211 2, .ifCond .ne 53, .bipush 3, .goto 54] := rfl
theorem a287_40 {tb : Tab} {d : Nat} {K : Out → AM → Prop} {ls st : List AV} {m : AM} : At tb d 287 K 40 ls st m = wpB tb (pg.2.1 287) (Runs tb pg d) K (At tb d 287 K) [.aload 0, .aload 0, .iload 1, .invokeinterface 211 2, .ifCond .ne 53, .bipush 3, .goto 54] ls st m := At.eq k287_40
theorem k287_53 : pg.1 287 53 = [.bipush 0, .jsr 54] := rfl
theorem a287_53 {tb : Tab} {d : Nat} {K : Out → AM → Prop} {ls st : List AV} {m : AM} : At tb d 287 K 53 ls st m = wpB tb (pg.2.1 287) (Runs tb pg d) K (At tb d 287 K) [.bipush 0, .jsr 54] ls st m := At.eq k287_53
theorem k287_54 : pg.1 287 54 = [.putfield 1000, .aload 0, .getfield 1000, .ifCond .le 66, .bipush 0, .ireturn] := rfl
theorem a287_54 {tb : Tab} {d : Nat} {K : Out → AM → Prop} {ls st : List AV} {m : AM} : At tb d 287 K 54 ls st m = wpB tb (pg.2.1 287) (Runs tb pg d) K (At tb d 287 K) [.putfield 1000, .aload 0, .getfield 1000, .ifCond .le 66, .bipush 0, .ireturn] ls st m := At.eq k287_54
theorem k287_66 : pg.1 287 66 = [.aload 0, .invokeinterface 282 1, .bipush 0, .istore 3, .bipush 0, .istore 4, .jsr 75] := rfl
theorem a287_66 {tb : Tab} {d : Nat} {K : Out → AM → Prop} {ls st : List AV} {m : AM} : At tb d 287 K 66 ls st m = wpB tb (pg.2.1 287) (Runs tb pg d) K (At tb d 287 K) [.aload 0, .invokeinterface 282 1, .bipush 0, .istore 3, .bipush 0, .istore 4, .jsr 75] ls st m := At.eq k287_66
theorem k287_75 : pg.1 287 75 = [.iload 4, .aload 0, .iload 1, .bipush 0, .invokeinterface 206 3, .if_icmp .ge 147, .aload 0, .iload 1, .bipush 14, .iload 4, .iadd, .invokeinterface 206 3, .ifCond .le 126, .aload 0, .iload 1, .bipush 14, .iload 4, .iadd, .bipush 9, .aload 0, .iload 1, .bipush 14, .iload 4, .iadd, .invokeinterface 206 3, .iload 2, .iadd, .invokeinterface 201 2, .invokeinterface 207 4, .jsr 126] := rfl
theorem a287_75 {tb : Tab} {d : Nat} {K : Out → AM → Prop} {ls st : List AV} {m : AM} : At tb d 287 K 75 ls st m = wpB tb (pg.2.1 287) (Runs tb pg d) K (At tb d 287 K) [.iload 4, .aload 0, .iload 1, .bipush 0, .invokeinterface 206 3, .if_icmp .ge 147, .aload 0, .iload 1, .bipush 14, .iload 4, .iadd, .invokeinterface 206 3, .ifCond .le 126, .aload 0, .iload 1, .bipush 14, .iload 4, .iadd, .bipush 9, .aload 0, .iload 1, .bipush 14, .iload 4, .iadd, .invokeinterface 206 3, .iload 2, .iadd, .invokeinterface 201 2, .invokeinterface 207 4, .jsr 126] ls st m := At.eq k287_75
theorem k287_126 : pg.1 287 126 = [.iload 3, .aload 0, .iload 1, .bipush 14, .iload 4, .iadd, .invokeinterface 206 3, .invokeinterface 202 2, .istore 3, .iinc 4 1, .goto 75] := rfl
theorem a287_126 {tb : Tab} {d : Nat} {K : Out → AM → Prop} {ls st : List AV} {m : AM} : At tb d 287 K 126 ls st m = wpB tb (pg.2.1 287) (Runs tb pg d) K (At tb d 287 K) [.iload 3, .aload 0, .iload 1, .bipush 14, .iload 4, .iadd, .invokeinterface 206 3, .invokeinterface 202 2, .istore 3, .iinc 4 1, .goto 75] ls st m := At.eq k287_126
theorem k287_147 : pg.1 287 147 = [.iload 3, .ireturn] := rfl
theorem a287_147 {tb : Tab} {d : Nat} {K : Out → AM → Prop} {ls st : List AV} {m : AM} : At tb d 287 K 147 ls st m = wpB tb (pg.2.1 287) (Runs tb pg d) K (At tb d 287 K) [.iload 3, .ireturn] ls st m := At.eq k287_147
theorem q_287 {p n : Int} (hA : AB (S 301)) (h6 : 0 ≤ S 300 6 ∧ S 300 6 ≤ 12) (hp : R32 p) (hn : R32 n) (hK1 : ¬ (0 ≤ p ∧ p < S 301 4) → K (.inl (some (vi 0))) (X (upS S 300 0 1) m)) (hK2 : (0 ≤ p ∧ p < S 301 4) → ¬ (1 ≤ n ∧ n ≤ 9) → K (.inl (some (vi 0))) (X (upS S 300 0 2) m)) (hK3 : (0 ≤ p ∧ p < S 301 4) → (1 ≤ n ∧ n ≤ 9) → oR S p 1 = -1 → K (.inl (some (vi 0))) (X (upS S 300 0 3) m)) (hK : ∀ r, (0 ≤ p ∧ p < S 301 4) → (1 ≤ n ∧ n ≤ 9) → oR S p 1 ≠ -1 → r = trM (fun k => S 301 (45 + 20 * p + k)) n (pr (S 301) p 0).toNat → K (.inl (some (vi r))) (X (sR (rmS (upS S 300 0 0)) (trP (S 301) p n (pr (S 301) p 0))) m)) : Runs tb pg (d + 3) 287 [vr 300, vi p, vi n] (X S m) K := by
  have hB := AB_B hA
  have b4 := hB.2.2.1
  unfold R32 at hp hn
  have hL : (0 ≤ p ∧ p < S 301 4) → (1 ≤ n ∧ n ≤ 9) → oR S p 1 ≠ -1 → At tb (d + 2) 287 K 75 [vr 300, vi p, vi n, vi 0, vi 0] [] (X (rmS (upS S 300 0 0)) m) := by
    intro hp9 hn9 ho9
    have a := hA.2.2.1 p hp9.1 (by omega)
    have hL75 : (fun i : Int => ∀ (T : Nat → Int → Int) (x : Int), T = sR (rmS (upS S 300 0 0)) (trP (S 301) p n i) → x = trM (fun k => S 301 (45 + 20 * p + k)) n i.toNat → (0 ≤ x ∧ x ≤ 9) → At tb (d + 2) 287 K 75 [vr 300, vi p, vi n, vi x, vi i] [] (X T m)) 0 := by
      refine loopZ (fun i : Int => ∀ (T : Nat → Int → Int) (x : Int), T = sR (rmS (upS S 300 0 0)) (trP (S 301) p n i) → x = trM (fun k => S 301 (45 + 20 * p + k)) n i.toNat → (0 ≤ x ∧ x ≤ 9) → At tb (d + 2) 287 K 75 [vr 300, vi p, vi n, vi x, vi i] [] (X T m)) (pr (S 301) p 0) (by omega) ?_ ?_
      · intro i h0 h1 h9 T x hT hx hq
        subst hT
        have s := trP_AB (n := n) (i := i) hp9.1 (show p < 6 by omega) (by omega) (by omega) hA
        have s2 := trP_AB (n := n) (i := i + 1) hp9.1 (show p < 6 by omega) (by omega) (by omega) hA
        have hB := ABs (S := rmS (upS S 300 0 0)) s
        have c0 : oR (sR (rmS (upS S 300 0 0)) (trP (S 301) p n i)) p 0 = pr (S 301) p 0 := by rw [oRs, trP_p (by omega) (by omega) (by omega), if_neg (by omega)]
        have c1 : oR (sR (rmS (upS S 300 0 0)) (trP (S 301) p n i)) p (14 + i) = pr (S 301) p (14 + i) := by rw [oRs, trP_p (by omega) (by omega) (by omega), if_neg (by omega)]
        have c2 : pr (S 301) p (14 + i) = S 301 (45 + 20 * p + i) := by unfold pr; exact congrArg _ (by omega)
        have c3 := (a.2.2 i h0 (by omega)).1
        have c4 := trM_s (x := fun k => S 301 (45 + 20 * p + k)) (n := n) h0
        have c5 := trV_rg (n := n) (by omega) c3
        have c6 : trP (S 301) p n (i + 1) (31 + 20 * p + (14 + i)) = trV n (S 301 (45 + 20 * p + i)) := by unfold trP; rw [if_pos (by omega)]; exact congrArg (trV n) (congrArg (S 301) (by omega))
        have c7 : oR (sR (rmS (upS S 300 0 0)) (trP (S 301) p n (i + 1))) p (14 + i) = trV n (pr (S 301) p (14 + i)) := by rw [oRs, trP_p (by omega) (by omega) (by omega), if_pos (by omega)]
        have y0 : ¬ 0 < pr (S 301) p (14 + i) → trP (S 301) p n i = trP (S 301) p n (i + 1) := fun z => trP_n h0 (by rw [← c2]; exact z)
        have y1 : 0 < pr (S 301) p (14 + i) → ∀ v, v = (if 9 < pr (S 301) p (14 + i) + n then 9 else pr (S 301) p (14 + i) + n) → putR (trP (S 301) p n i) (31 + 20 * p + (14 + i)) v = trP (S 301) p n (i + 1) := fun z v hv => trP_s h0 (by rw [← c2, hv]; unfold trV; rw [if_pos z])
        rw [c2] at c1 c3 c5 c7 y0 y1
        have hBy : 0 < S 301 (45 + 20 * p + i) → ∀ v, v = (if 9 < oR (sR (rmS (upS S 300 0 0)) (trP (S 301) p n i)) p (14 + i) + n then 9 else oR (sR (rmS (upS S 300 0 0)) (trP (S 301) p n i)) p (14 + i) + n) → BR (sR (rmS (upS S 300 0 0)) (putR (trP (S 301) p n i) (31 + 20 * p + (14 + i)) v)) := fun z v hv => by rw [y1 z v (by rw [← c1]; exact hv)]; exact ABs s2
        have hOy : 0 < S 301 (45 + 20 * p + i) → ∀ v, v = (if 9 < oR (sR (rmS (upS S 300 0 0)) (trP (S 301) p n i)) p (14 + i) + n then 9 else oR (sR (rmS (upS S 300 0 0)) (trP (S 301) p n i)) p (14 + i) + n) → oR (sR (rmS (upS S 300 0 0)) (putR (trP (S 301) p n i) (31 + 20 * p + (14 + i)) v)) p (14 + i) = trV n (S 301 (45 + 20 * p + i)) := fun z v hv => by rw [y1 z v (by rw [← c1]; exact hv)]; exact c7

        rw [a287_75]
        repeat' (first | refine h9 _ _ ?_ ?_ ?_ | simp only [w_aload, w_iload, w_call, w_if, cI, Int.reduceToNat, w_iconst, w_goto, w_fall, x_p1000_300, x_g1000_300, w_ireturn, w_istore, w_ifc, w_iadd, w_iinc, lgB, Nat.reduceSub, a287_0, a287_13, a287_27, a287_28, a287_40, a287_53, a287_54, a287_66, a287_126, a287_147, R32, List.getElem?_cons_zero, List.getElem?_cons_succ, List.set_cons_zero, List.set_cons_succ, List.cons_append, List.nil_append, List.replicate_succ, List.replicate_zero, List.take_succ_cons, List.take_zero, List.drop_succ_cons, List.drop_zero, List.reverse_cons, List.reverse_nil, List.length_cons, List.length_nil, Option.toList, true_and, and_true, eq_self, ↓reduceIte, not_true_eq_false, not_false_eq_true, true_or, or_true, upS_upS, upS_at, up300, up300b, oR3, fR3, dR3, lgR3, valM3, Int.reduceEq, Nat.reduceEqDiff, and_self, and_true, and_false, false_and, if_true, if_false, upS_301, sR_sR, sR_r, sR_0, rm_1, rm_0, up_6] | refine q_206 hB ?_ ?_ ?_ | refine q_206 (hBy ?_ _ (by assumption)) ?_ ?_ (fun _ _ => ?_) | refine q_206 (BR3 hB) ?_ ?_ ?_ | refine q_201 ?_ ?_ ?_ | refine q_202 ?_ ?_ ?_ | refine q_207 ?_ ?_ ?_ | with_reducible refine And.intro ?_ ?_ | with_reducible intro _)
        all_goals (try (first | omega | contradiction | ((try clear hK); (try clear hK0); (try clear hB); (try clear h9); (try clear h8); (try clear h7); (try simp only [oR3, fR3, dR3, lgR3, valM3, up300, up300b] at *); first | done | omega | (exact congrArg (sR _) (y0 (by omega))) | (exact congrArg (sR _) (y1 (by omega) _ (by rw [← c1]; assumption))) | (have c8 := hOy (by omega) _ (by assumption); rw [c4, ← hx]; grind) | (rw [c4, ← hx]; clear hOy hBy; grind [trV]) | (have c8 := hOy (by omega) _ (by assumption); grind) | (clear hOy hBy; grind [trV]))))
      · intro T x hT hx hq
        subst hT
        have s := trP_AB (n := n) (i := pr (S 301) p 0) hp9.1 (show p < 6 by omega) (by omega) (by omega) hA
        have hB := ABs (S := rmS (upS S 300 0 0)) s
        have c0 : oR (sR (rmS (upS S 300 0 0)) (trP (S 301) p n (pr (S 301) p 0))) p 0 = pr (S 301) p 0 := by rw [oRs, trP_p (by omega) (by omega) (by omega), if_neg (by omega)]
        rw [a287_75]
        repeat' (first | refine hK _ ?_ ?_ ?_ ?_ | simp only [w_aload, w_iload, w_call, w_if, cI, Int.reduceToNat, w_iconst, w_goto, w_fall, x_p1000_300, x_g1000_300, w_ireturn, w_istore, w_ifc, w_iadd, w_iinc, lgB, Nat.reduceSub, a287_0, a287_13, a287_27, a287_28, a287_40, a287_53, a287_54, a287_66, a287_126, a287_147, R32, List.getElem?_cons_zero, List.getElem?_cons_succ, List.set_cons_zero, List.set_cons_succ, List.cons_append, List.nil_append, List.replicate_succ, List.replicate_zero, List.take_succ_cons, List.take_zero, List.drop_succ_cons, List.drop_zero, List.reverse_cons, List.reverse_nil, List.length_cons, List.length_nil, Option.toList, true_and, and_true, eq_self, ↓reduceIte, not_true_eq_false, not_false_eq_true, true_or, or_true, upS_upS, upS_at, up300, up300b, oR3, fR3, dR3, lgR3, valM3, Int.reduceEq, Nat.reduceEqDiff, and_self, and_true, and_false, false_and, if_true, if_false, upS_301, sR_sR, sR_r, sR_0, rm_1, rm_0, up_6] | refine q_206 hB ?_ ?_ ?_ | refine q_206 (hBy ?_ _ (by assumption)) ?_ ?_ (fun _ _ => ?_) | refine q_206 (BR3 hB) ?_ ?_ ?_ | refine q_201 ?_ ?_ ?_ | refine q_202 ?_ ?_ ?_ | refine q_207 ?_ ?_ ?_ | with_reducible refine And.intro ?_ ?_ | with_reducible intro _)
        all_goals (try (first | omega | contradiction | ((try clear hK); (try clear hK0); (try clear hB); (try clear h9); (try clear h8); (try clear h7); (try simp only [oR3, fR3, dR3, lgR3, valM3, up300, up300b] at *); first | done | omega | grind)))
    exact hL75 _ _ (by rw [trP_0]; exact sR_id.symm) rfl (by decide)
  refine Runs.of (al := [vr 300, vi p, vi n]) (n := 2) ⟨300, _, _, rfl, xo_300⟩ rfl rfl trivial ?_
  repeat' (first | refine hL ?_ ?_ ?_ | refine hK1 ?_ | refine hK2 ?_ ?_ | refine hK3 ?_ ?_ ?_ | simp only [w_aload, w_iload, w_call, w_if, cI, Int.reduceToNat, w_iconst, w_goto, w_fall, x_p1000_300, x_g1000_300, w_ireturn, w_istore, w_ifc, w_iadd, w_iinc, lgB, Nat.reduceSub, a287_0, a287_13, a287_27, a287_28, a287_40, a287_53, a287_54, a287_66, a287_126, a287_147, R32, List.getElem?_cons_zero, List.getElem?_cons_succ, List.set_cons_zero, List.set_cons_succ, List.cons_append, List.nil_append, List.replicate_succ, List.replicate_zero, List.take_succ_cons, List.take_zero, List.drop_succ_cons, List.drop_zero, List.reverse_cons, List.reverse_nil, List.length_cons, List.length_nil, Option.toList, true_and, and_true, eq_self, ↓reduceIte, not_true_eq_false, not_false_eq_true, true_or, or_true, upS_upS, upS_at, up300, up300b, oR3, fR3, dR3, lgR3, valM3, Int.reduceEq, Nat.reduceEqDiff, and_self, and_true, and_false, false_and, if_true, if_false, upS_301, sR_sR, sR_r, sR_0, rm_1, rm_0, up_6] | refine q_200 ?_ ?_ ?_ ?_ | refine q_201 ?_ ?_ ?_ | refine q_202 ?_ ?_ ?_ | refine q_206 hB ?_ ?_ ?_ | refine q_206 (BR3 hB) ?_ ?_ ?_ | refine q_207 ?_ ?_ ?_ | refine q_210 hB ?_ ?_ | refine q_210 (BR3 hB) ?_ ?_ | refine q_211 hB ?_ ?_ | refine q_211 (BR3 hB) ?_ ?_ | refine q_282 (by simpa only [up_6] using h6) ?_ | with_reducible refine And.intro ?_ ?_ | with_reducible intro _)
  all_goals (try (first | omega | contradiction | ((try clear hK); (try clear hK0); (try clear hB); (try clear h9); (try clear h8); (try clear h7); (try simp only [oR3, fR3, dR3, lgR3, valM3, up300, up300b] at *); first | done | omega | grind)))
end Ref26
