/-! ===== THE REFERENCE: what sinks, what falls ===== -/
def snkV (n b x : Int) : Int := if b = 0 then (if x - n < 0 then 0 else x - n) else 0
def sinkP (r : Int → Int) (p n b i : Int) : Int → Int := fun j => if 45 + 20 * p ≤ j ∧ j < 45 + 20 * p + i then snkV n b (r j) else r j
theorem sinkP_p {r : Int → Int} {p n b i q w : Int} (i1 : i ≤ 6) (w0 : 0 ≤ w) (w1 : w < 20) : pr (sinkP r p n b i) q w = if q = p ∧ 14 ≤ w ∧ w < 14 + i then snkV n b (pr r q w) else pr r q w := by
  unfold pr sinkP
  by_cases e : q = p ∧ 14 ≤ w ∧ w < 14 + i
  · rw [if_pos e, if_pos (by omega)]
  · rw [if_neg e, if_neg (by omega)]
theorem sinkP_o {r : Int → Int} {p n b i j : Int} (h0 : 0 ≤ p) (h1 : p < 6) (i1 : i ≤ 6) (hj : j < 31 ∨ 151 ≤ j) : sinkP r p n b i j = r j := by
  unfold sinkP
  rw [if_neg (by omega)]
theorem snkV_rg {n b x : Int} (hn : 0 ≤ n) (hx : 0 ≤ x ∧ x ≤ 9) : 0 ≤ snkV n b x ∧ snkV n b x ≤ 9 := by
  unfold snkV
  split
  · split <;> omega
  · omega
theorem sinkP_AB {r : Int → Int} {p n b i : Int} (h0 : 0 ≤ p) (h1 : p < 6) (i1 : i ≤ 6) (hn : 0 ≤ n) (h : AB r) : AB (sinkP r p n b i) := by
  refine AB_p h (fun j hj => sinkP_o h0 h1 i1 hj) (fun j j0 j1 => ?_) (fun q q0 q1 => ?_) (fun q q0 q1 => ?_)
  · have a := h.1 j (by omega)
    unfold sinkP
    split
    · next e =>
      have a2 := (h.2.2.1 p h0 h1).2.2 (j - 45 - 20 * p) (by omega) (by omega)
      have e2 : pr r p (14 + (j - 45 - 20 * p)) = r j := by unfold pr; exact congrArg r (by omega)
      rw [e2] at a2
      have := snkV_rg (b := b) hn a2.1
      omega
    · exact a
  · have := h.2.2.1 q q0 q1
    rw [sinkP_p i1 (by omega) (by omega), sinkP_p i1 (by omega) (by omega), if_neg (by omega), if_neg (by omega)]
    refine ⟨this.1, this.2.1, fun k k0 k1 => ?_⟩
    have := this.2.2 k k0 k1
    rw [sinkP_p i1 (by omega) (by omega), sinkP_p i1 (by omega) (by omega), if_neg (show ¬ (q = p ∧ 14 ≤ 2 + k ∧ 2 + k < 14 + i) by omega)]
    refine ⟨?_, this.2⟩
    split
    · exact snkV_rg hn this.1
    · exact this.1
  · rw [sinkP_o h0 h1 i1 (by omega)] at q1
    have := h.2.2.2.2.2 q q0 q1
    have b := h.2.1.1
    rw [sinkP_p i1 (by omega) (by omega), sinkP_p i1 (by omega) (by omega), sinkP_o h0 h1 i1 (by omega), if_neg (by omega), if_neg (by omega)]
    exact this
theorem sinkP_0 {r : Int → Int} {p n b : Int} : sinkP r p n b 0 = r := by
  funext j
  unfold sinkP
  rw [if_neg (by omega)]
def sinkR (r : Int → Int) (p n b : Int) : Int → Int := if 0 < leftM (pr (sinkP r p n b (pr r p 0))) p (pr r p 0) then sinkP r p n b (pr r p 0) else leavesR (logsR (sinkP r p n b (pr r p 0)) p 2 (pr r p 1)) p
theorem sinkR_AB {r : Int → Int} {p n b : Int} (h0 : 0 ≤ p) (h1 : p < 6) (hn : 0 ≤ n) (h : AB r) : AB (sinkR r p n b) := by
  have a := h.2.2.1 p h0 h1
  have s := sinkP_AB (b := b) (i := pr r p 0) h0 h1 a.1.2 hn h
  unfold sinkR
  split
  · exact s
  · exact leavesR_AB h0 h1 (logsR_AB (by omega) (by omega) (by omega) s)
theorem sinkR_y {r : Int → Int} {p n b : Int} (h : 0 < leftM (pr (sinkP r p n b (pr r p 0))) p (pr r p 0)) : sinkR r p n b = sinkP r p n b (pr r p 0) := if_pos h
theorem sinkR_n {r : Int → Int} {p n b : Int} (h : ¬ 0 < leftM (pr (sinkP r p n b (pr r p 0))) p (pr r p 0)) : sinkR r p n b = leavesR (logsR (sinkP r p n b (pr r p 0)) p 2 (pr r p 1)) p := if_neg h
theorem sinkP_s {r : Int → Int} {p n b i v : Int} (h : 0 ≤ i) (hv : v = snkV n b (r (45 + 20 * p + i))) : putR (sinkP r p n b i) (31 + 20 * p + (14 + i)) v = sinkP r p n b (i + 1) := by
  funext j
  unfold putR sinkP
  by_cases e : j = 45 + 20 * p + i
  · rw [if_pos (by omega), if_pos (by omega), hv, e]
  · rw [if_neg (by omega)]
    by_cases e2 : 45 + 20 * p ≤ j ∧ j < 45 + 20 * p + i
    · rw [if_pos e2, if_pos (by omega)]
    · rw [if_neg e2, if_neg (by omega)]
theorem oRs {S : Nat → Int → Int} {r : Int → Int} : oR (sR S r) = pr r := rfl
theorem fRs {S : Nat → Int → Int} {r : Int → Int} : fR (sR S r) = fr r := rfl
theorem ABs {S : Nat → Int → Int} {r : Int → Int} (h : AB r) : BR (sR S r) := AB_B h
section Ref17
variable {tb : Tab} {d : Nat} {m : AM} {K : Out → AM → Prop} {S : Nat → Int → Int}
theorem k256_0 : pg.1 256 0 = [.bipush 0, .istore 4, .jsr 3] := rfl
theorem a256_0 {tb : Tab} {d : Nat} {K : Out → AM → Prop} {ls st : List AV} {m : AM} : At tb d 256 K 0 ls st m = wpB tb (pg.2.1 256) (Runs tb pg d) K (At tb d 256 K) [.bipush 0, .istore 4, .jsr 3] ls st m := At.eq k256_0
theorem k256_3 : pg.1 256 3 = [.iload 4, .aload 0, .iload 1, .bipush 0, .invokeinterface 206 3, .if_icmp .ge 54, .aload 0, .iload 1, .bipush 14, .iload 4, .iadd, .iload 3, .ifCond .eq 29, .bipush 0, .goto 45] := rfl
theorem a256_3 {tb : Tab} {d : Nat} {K : Out → AM → Prop} {ls st : List AV} {m : AM} : At tb d 256 K 3 ls st m = wpB tb (pg.2.1 256) (Runs tb pg d) K (At tb d 256 K) [.iload 4, .aload 0, .iload 1, .bipush 0, .invokeinterface 206 3, .if_icmp .ge 54, .aload 0, .iload 1, .bipush 14, .iload 4, .iadd, .iload 3, .ifCond .eq 29, .bipush 0, .goto 45] ls st m := At.eq k256_3
theorem k256_29 : pg.1 256 29 = [.bipush 0, .aload 0, .iload 1, .bipush 14, .iload 4, .iadd, .invokeinterface 206 3, .iload 2, .isub, .invokeinterface 202 2, .jsr 45] := rfl
theorem a256_29 {tb : Tab} {d : Nat} {K : Out → AM → Prop} {ls st : List AV} {m : AM} : At tb d 256 K 29 ls st m = wpB tb (pg.2.1 256) (Runs tb pg d) K (At tb d 256 K) [.bipush 0, .aload 0, .iload 1, .bipush 14, .iload 4, .iadd, .invokeinterface 206 3, .iload 2, .isub, .invokeinterface 202 2, .jsr 45] ls st m := At.eq k256_29
theorem k256_45 : pg.1 256 45 = [.invokeinterface 207 4, .iinc 4 1, .goto 3] := rfl
theorem a256_45 {tb : Tab} {d : Nat} {K : Out → AM → Prop} {ls st : List AV} {m : AM} : At tb d 256 K 45 ls st m = wpB tb (pg.2.1 256) (Runs tb pg d) K (At tb d 256 K) [.invokeinterface 207 4, .iinc 4 1, .goto 3] ls st m := At.eq k256_45
theorem k256_54 : pg.1 256 54 = [.aload 0, .iload 1, .invokeinterface 213 2, .ifCond .le 63, .return_] := rfl
theorem a256_54 {tb : Tab} {d : Nat} {K : Out → AM → Prop} {ls st : List AV} {m : AM} : At tb d 256 K 54 ls st m = wpB tb (pg.2.1 256) (Runs tb pg d) K (At tb d 256 K) [.aload 0, .iload 1, .invokeinterface 213 2, .ifCond .le 63, .return_] ls st m := At.eq k256_54
theorem k256_63 : pg.1 256 63 = [.aload 0, .iload 1, .bipush 2, .aload 0, .iload 1, .bipush 1, .invokeinterface 206 3, .invokeinterface 253 4, .aload 0, .iload 1, .invokeinterface 255 2, .return_] := rfl
theorem a256_63 {tb : Tab} {d : Nat} {K : Out → AM → Prop} {ls st : List AV} {m : AM} : At tb d 256 K 63 ls st m = wpB tb (pg.2.1 256) (Runs tb pg d) K (At tb d 256 K) [.aload 0, .iload 1, .bipush 2, .aload 0, .iload 1, .bipush 1, .invokeinterface 206 3, .invokeinterface 253 4, .aload 0, .iload 1, .invokeinterface 255 2, .return_] ls st m := At.eq k256_63
theorem q_256a {p n b : Int} (hA : AB (S 301)) (hp : 0 ≤ p ∧ p < 6) (hn : 0 ≤ n ∧ n ≤ 100000) (hb : R32 b) (hK : ∀ T, T = sR S (sinkR (S 301) p n b) → K (.inl none) (X T m)) : Runs tb pg (d + 4) 256 [vr 300, vi p, vi n, vi b] (X S m) K := by
  have hB := AB_B hA
  unfold R32 at hb
  have a := hA.2.2.1 p hp.1 hp.2
  have hE : At tb (d + 3) 256 K 54 [vr 300, vi p, vi n, vi b, vi (pr (S 301) p 0)] [] (X (sR S (sinkP (S 301) p n b (pr (S 301) p 0))) m) := by
    have s := sinkP_AB (b := b) (i := pr (S 301) p 0) hp.1 hp.2 a.1.2 hn.1 hA
    have hB := ABs (S := S) s
    have c0 : pr (sinkP (S 301) p n b (pr (S 301) p 0)) p 0 = pr (S 301) p 0 := by rw [sinkP_p a.1.2 (by omega) (by omega), if_neg (by omega)]
    have c1 : pr (sinkP (S 301) p n b (pr (S 301) p 0)) p 1 = pr (S 301) p 1 := by rw [sinkP_p a.1.2 (by omega) (by omega), if_neg (by omega)]
    have c2 := leftM_le (P := pr (sinkP (S 301) p n b (pr (S 301) p 0))) (p := p) (n := pr (S 301) p 0) a.1.1
    rw [a256_54]
    repeat' (first | refine hK _ ?_ | simp only [w_iconst, w_istore, w_fall, Int.reduceToNat, w_iload, w_aload, w_call, w_ifc, cI, w_iadd, w_if, w_goto, w_isub, w_iinc, lgB, Nat.reduceSub, w_return, a256_0, a256_29, a256_45, a256_54, a256_63, R32, List.getElem?_cons_zero, List.getElem?_cons_succ, List.set_cons_zero, List.set_cons_succ, List.cons_append, List.nil_append, List.replicate_succ, List.replicate_zero, List.take_succ_cons, List.take_zero, List.drop_succ_cons, List.drop_zero, List.reverse_cons, List.reverse_nil, List.length_cons, List.length_nil, Option.toList, true_and, and_true, eq_self, ↓reduceIte, not_true_eq_false, not_false_eq_true, true_or, or_true, upS_upS, upS_at, up300, up300b, oR3, fR3, dR3, lgR3, valM3, Int.reduceEq, Nat.reduceEqDiff, and_self, and_true, and_false, false_and, if_true, if_false, upS_301, sR_sR, sR_r, sR_0, sR_4, sR_5] | refine q_206 hB ?_ ?_ ?_ | refine q_206 (BR3 hB) ?_ ?_ ?_ | refine q_213 hB ?_ ?_ | refine q_213 (BR3 hB) ?_ ?_ | refine q_253 (S := sR S _) s ?_ ?_ ?_ ?_ | refine q_255 ?_ ?_ | with_reducible refine And.intro ?_ ?_ | with_reducible intro _)
    all_goals (try (first | omega | contradiction | ((try clear hK); (try clear hK0); (try clear hB); (try clear h9); (try clear h8); (try clear h7); (try simp only [oR3, fR3, dR3, lgR3, valM3, up300, up300b] at *); first | done | omega | (simp only [oRs, c0, c1] at *; first | done | omega | exact congrArg (sR S) (sinkR_y (by omega)).symm | exact congrArg (sR S) (sinkR_n (by omega)).symm | grind))))
  have hL3 : (fun i : Int => ∀ (T : Nat → Int → Int), T = sR S (sinkP (S 301) p n b i) → At tb (d + 3) 256 K 3 [vr 300, vi p, vi n, vi b, vi i] [] (X T m)) 0 := by
    refine loopZ (fun i : Int => ∀ (T : Nat → Int → Int), T = sR S (sinkP (S 301) p n b i) → At tb (d + 3) 256 K 3 [vr 300, vi p, vi n, vi b, vi i] [] (X T m)) (pr (S 301) p 0) (by omega) ?_ ?_
    · intro i h0 h1 h9 T hT
      subst hT
      have s := sinkP_AB (b := b) (i := i) hp.1 hp.2 (by omega) hn.1 hA
      have hB := ABs (S := S) s
      have c0 : oR (sR S (sinkP (S 301) p n b i)) p 0 = pr (S 301) p 0 := by rw [oRs, sinkP_p (by omega) (by omega) (by omega), if_neg (by omega)]
      have c1 : oR (sR S (sinkP (S 301) p n b i)) p (14 + i) = pr (S 301) p (14 + i) := by rw [oRs, sinkP_p (by omega) (by omega) (by omega), if_neg (by omega)]
      have c2 : pr (S 301) p (14 + i) = S 301 (45 + 20 * p + i) := by unfold pr; exact congrArg _ (by omega)
      rw [a256_3]
      repeat' (first | refine h9 _ ?_ | simp only [w_iconst, w_istore, w_fall, Int.reduceToNat, w_iload, w_aload, w_call, w_ifc, cI, w_iadd, w_if, w_goto, w_isub, w_iinc, lgB, Nat.reduceSub, w_return, a256_0, a256_29, a256_45, a256_63, R32, List.getElem?_cons_zero, List.getElem?_cons_succ, List.set_cons_zero, List.set_cons_succ, List.cons_append, List.nil_append, List.replicate_succ, List.replicate_zero, List.take_succ_cons, List.take_zero, List.drop_succ_cons, List.drop_zero, List.reverse_cons, List.reverse_nil, List.length_cons, List.length_nil, Option.toList, true_and, and_true, eq_self, ↓reduceIte, not_true_eq_false, not_false_eq_true, true_or, or_true, upS_upS, upS_at, up300, up300b, oR3, fR3, dR3, lgR3, valM3, Int.reduceEq, Nat.reduceEqDiff, and_self, and_true, and_false, false_and, if_true, if_false, upS_301, sR_sR, sR_r, sR_0, sR_4, sR_5] | refine q_202 ?_ ?_ ?_ | refine q_206 hB ?_ ?_ ?_ | refine q_206 (BR3 hB) ?_ ?_ ?_ | refine q_207 ?_ ?_ ?_ | refine q_213 hB ?_ ?_ | refine q_213 (BR3 hB) ?_ ?_ | with_reducible refine And.intro ?_ ?_ | with_reducible intro _)
      all_goals (try (first | omega | contradiction | ((try clear hK); (try clear hK0); (try clear hB); (try clear h9); (try clear h8); (try clear h7); (try simp only [oR3, fR3, dR3, lgR3, valM3, up300, up300b] at *); first | done | omega | (refine congrArg (sR S) (sinkP_s h0 ?_); simp only [snkV, ← c2, ← c1]; grind) | grind)))
    · intro T hT
      subst hT
      have s := sinkP_AB (b := b) (i := pr (S 301) p 0) hp.1 hp.2 (by omega) hn.1 hA
      have hB := ABs (S := S) s
      have c0 : oR (sR S (sinkP (S 301) p n b (pr (S 301) p 0))) p 0 = pr (S 301) p 0 := by rw [oRs, sinkP_p (by omega) (by omega) (by omega), if_neg (by omega)]
      rw [a256_3]
      repeat' (first | exact hE | simp only [w_iconst, w_istore, w_fall, Int.reduceToNat, w_iload, w_aload, w_call, w_ifc, cI, w_iadd, w_if, w_goto, w_isub, w_iinc, lgB, Nat.reduceSub, w_return, a256_0, a256_29, a256_45, a256_63, R32, List.getElem?_cons_zero, List.getElem?_cons_succ, List.set_cons_zero, List.set_cons_succ, List.cons_append, List.nil_append, List.replicate_succ, List.replicate_zero, List.take_succ_cons, List.take_zero, List.drop_succ_cons, List.drop_zero, List.reverse_cons, List.reverse_nil, List.length_cons, List.length_nil, Option.toList, true_and, and_true, eq_self, ↓reduceIte, not_true_eq_false, not_false_eq_true, true_or, or_true, upS_upS, upS_at, up300, up300b, oR3, fR3, dR3, lgR3, valM3, Int.reduceEq, Nat.reduceEqDiff, and_self, and_true, and_false, false_and, if_true, if_false, upS_301, sR_sR, sR_r, sR_0, sR_4, sR_5] | refine q_202 ?_ ?_ ?_ | refine q_206 hB ?_ ?_ ?_ | refine q_206 (BR3 hB) ?_ ?_ ?_ | refine q_207 ?_ ?_ ?_ | refine q_213 hB ?_ ?_ | refine q_213 (BR3 hB) ?_ ?_ | with_reducible refine And.intro ?_ ?_ | with_reducible intro _)
      all_goals (try (first | omega | contradiction | ((try clear hK); (try clear hK0); (try clear hB); (try clear h9); (try clear h8); (try clear h7); (try simp only [oR3, fR3, dR3, lgR3, valM3, up300, up300b] at *); first | done | omega | grind)))
  refine Runs.of (al := [vr 300, vi p, vi n, vi b]) (n := 1) ⟨300, _, _, rfl, xo_300⟩ rfl rfl trivial ?_
  repeat' (first | refine hL3 _ ?_ | simp only [w_iconst, w_istore, w_fall, Int.reduceToNat, w_iload, w_aload, w_call, w_ifc, cI, w_iadd, w_if, w_goto, w_isub, w_iinc, lgB, Nat.reduceSub, w_return, a256_0, a256_29, a256_45, a256_63, R32, List.getElem?_cons_zero, List.getElem?_cons_succ, List.set_cons_zero, List.set_cons_succ, List.cons_append, List.nil_append, List.replicate_succ, List.replicate_zero, List.take_succ_cons, List.take_zero, List.drop_succ_cons, List.drop_zero, List.reverse_cons, List.reverse_nil, List.length_cons, List.length_nil, Option.toList, true_and, and_true, eq_self, ↓reduceIte, not_true_eq_false, not_false_eq_true, true_or, or_true, upS_upS, upS_at, up300, up300b, oR3, fR3, dR3, lgR3, valM3, Int.reduceEq, Nat.reduceEqDiff, and_self, and_true, and_false, false_and, if_true, if_false, upS_301, sR_sR, sR_r, sR_0, sR_4, sR_5] | refine q_202 ?_ ?_ ?_ | refine q_206 hB ?_ ?_ ?_ | refine q_206 (BR3 hB) ?_ ?_ ?_ | refine q_207 ?_ ?_ ?_ | refine q_213 hB ?_ ?_ | refine q_213 (BR3 hB) ?_ ?_ | with_reducible refine And.intro ?_ ?_ | with_reducible intro _)
  all_goals (try (first | omega | contradiction | ((try clear hK); (try clear hK0); (try clear hB); (try clear h9); (try clear h8); (try clear h7); (try simp only [oR3, fR3, dR3, lgR3, valM3, up300, up300b] at *); first | done | omega | (rw [sinkP_0, sR_id]))))
theorem q_256 {p n b : Int} (hA : AB (S 301)) (hp : 0 ≤ p ∧ p < 6) (hn : 0 ≤ n ∧ n ≤ 100000) (hb : R32 b) (hK : K (.inl (none)) (X (sR S (sinkR (S 301) p n b)) m)) : Runs tb pg (d + 4) 256 [vr 300, vi p, vi n, vi b] (X S m) K := q_256a hA hp hn hb (fun T e => by rw [e]; exact hK)
end Ref17
