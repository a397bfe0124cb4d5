/-! ===== THE REFERENCE: further acts ===== -/
theorem SA_m {S T : Nat → Int → Int} (h : SA S T) : T 301 = S 301 := h.1 301 (by decide) (by decide)
theorem wrtR_AB {ev : LawD → Int → (Int → Int) → Int} {r : Int → Int} {p f : Int} (h0 : 0 ≤ p) (h1 : p < 6) (hf : 0 ≤ f ∧ f < r 3) (hd : 0 ≤ dptR ev r p f ∧ dptR ev r p f ≤ 9) (h : AB r) : AB (wrtR ev r p f) := by
  have a := (h.2.2.1 p h0 h1).1
  exact wrtP_AB h0 h1 a.1 a.2 hf hd h
/-- trodden deeper -/
def trV (n x : Int) : Int := if 0 < x then (if 9 < x + n then 9 else x + n) else x
def trP (r : Int → Int) (p n i : Int) : Int → Int := fun j => if 45 + 20 * p ≤ j ∧ j < 45 + 20 * p + i then trV n (r j) else r j
theorem trP_p {r : Int → Int} {p n i q w : Int} (i1 : i ≤ 6) (w0 : 0 ≤ w) (w1 : w < 20) : pr (trP r p n i) q w = if q = p ∧ 14 ≤ w ∧ w < 14 + i then trV n (pr r q w) else pr r q w := by
  unfold pr trP
  by_cases e : q = p ∧ 14 ≤ w ∧ w < 14 + i
  · rw [if_pos e, if_pos (by omega)]
  · rw [if_neg e, if_neg (by omega)]
theorem trV_rg {n x : Int} (hn : 0 ≤ n) (hx : 0 ≤ x ∧ x ≤ 9) : 0 ≤ trV n x ∧ trV n x ≤ 9 := by
  unfold trV
  split
  · split <;> omega
  · omega
theorem trP_o {r : Int → Int} {p n i j : Int} (h0 : 0 ≤ p) (h1 : p < 6) (i1 : i ≤ 6) (hj : j < 31 ∨ 151 ≤ j) : trP r p n i j = r j := by
  unfold trP
  rw [if_neg (by omega)]
theorem trP_AB {r : Int → Int} {p n i : Int} (h0 : 0 ≤ p) (h1 : p < 6) (i1 : i ≤ 6) (hn : 0 ≤ n) (h : AB r) : AB (trP r p n i) := by
  refine AB_p h (fun j hj => trP_o h0 h1 i1 hj) (fun j j0 j1 => ?_) (fun q q0 q1 => ?_) (fun q q0 q1 => ?_)
  · have a := h.1 j (by omega)
    unfold trP
    split
    · next e =>
      have a2 := (h.2.2.1 p h0 h1).2.2 (j - 45 - 20 * p) (by omega) (by omega)
      have e2 : pr r p (14 + (j - 45 - 20 * p)) = r j := by unfold pr; exact congrArg r (by omega)
      rw [e2] at a2
      have := trV_rg hn a2.1
      omega
    · exact a
  · have := h.2.2.1 q q0 q1
    rw [trP_p i1 (by omega) (by omega), trP_p i1 (by omega) (by omega), if_neg (by omega), if_neg (by omega)]
    refine ⟨this.1, this.2.1, fun k k0 k1 => ?_⟩
    have := this.2.2 k k0 k1
    rw [trP_p i1 (by omega) (by omega), trP_p i1 (by omega) (by omega), if_neg (show ¬ (q = p ∧ 14 ≤ 2 + k ∧ 2 + k < 14 + i) by omega)]
    refine ⟨?_, this.2⟩
    split
    · exact trV_rg hn this.1
    · exact this.1
  · rw [trP_o h0 h1 i1 (by omega)] at q1
    have := h.2.2.2.2.2 q q0 q1
    have b := h.2.1.1
    rw [trP_p i1 (by omega) (by omega), trP_p i1 (by omega) (by omega), trP_o h0 h1 i1 (by omega), if_neg (by omega), if_neg (by omega)]
    exact this
theorem trP_0 {r : Int → Int} {p n : Int} : trP r p n 0 = r := by
  funext j
  unfold trP
  rw [if_neg (by omega)]
theorem trP_s {r : Int → Int} {p n i v : Int} (h : 0 ≤ i) (hv : v = trV n (r (45 + 20 * p + i))) : putR (trP r p n i) (31 + 20 * p + (14 + i)) v = trP r p n (i + 1) := by
  funext j
  unfold putR trP
  by_cases e : j = 45 + 20 * p + i
  · rw [if_pos (by omega), if_pos (by omega), hv, e]
  · rw [if_neg (by omega)]
    by_cases e2 : 45 + 20 * p ≤ j ∧ j < 45 + 20 * p + i
    · rw [if_pos e2, if_pos (by omega)]
    · rw [if_neg e2, if_neg (by omega)]
theorem trP_n {r : Int → Int} {p n i : Int} (h : 0 ≤ i) (hv : ¬ 0 < r (45 + 20 * p + i)) : trP r p n i = trP r p n (i + 1) := by
  funext j
  unfold trP
  by_cases e : j = 45 + 20 * p + i
  · rw [if_neg (by omega), if_pos (by omega), e]
    unfold trV
    rw [if_neg hv]
  · by_cases e2 : 45 + 20 * p ≤ j ∧ j < 45 + 20 * p + i
    · rw [if_pos e2, if_pos (by omega)]
    · rw [if_neg e2, if_neg (by omega)]
/-- the greatest depth behind that, of the first i -/
def trM (x : Int → Int) (n : Int) : Nat → Int
  | 0 => 0
  | k + 1 => if trV n (x k) < trM x n k then trM x n k else trV n (x k)
theorem trM_s {x : Int → Int} {n i : Int} (h : 0 ≤ i) : trM x n (i + 1).toNat = if trV n (x i) < trM x n i.toNat then trM x n i.toNat else trV n (x i) := by
  rw [show (i + 1).toNat = i.toNat + 1 by omega]
  show (if trV n (x (i.toNat : Int)) < _ then _ else _) = _
  rw [Int.toNat_of_nonneg h]
section Ref25
variable {tb : Tab} {d : Nat} {m : AM} {K : Out → AM → Prop} {S : Nat → Int → Int} {ev : LawD → Int → (Int → Int) → Int} {good : LawD → Prop}
theorem k284_0 : pg.1 284 0 = [.aload 0, .iload 1, .bipush 1, .bipush 60, .invokeinterface 200 3, .ifCond .ne 15, .bipush 1, .goto 16] := rfl
theorem a284_0 {tb : Tab} {d : Nat} {K : Out → AM → Prop} {ls st : List AV} {m : AM} : At tb d 284 K 0 ls st m = wpB tb (pg.2.1 284) (Runs tb pg d) K (At tb d 284 K) [.aload 0, .iload 1, .bipush 1, .bipush 60, .invokeinterface 200 3, .ifCond .ne 15, .bipush 1, .goto 16] ls st m := At.eq k284_0
theorem k284_15 : pg.1 284 15 = [.bipush 0, .jsr 16] := rfl
theorem a284_15 {tb : Tab} {d : Nat} {K : Out → AM → Prop} {ls st : List AV} {m : AM} : At tb d 284 K 15 ls st m = wpB tb (pg.2.1 284) (Runs tb pg d) K (At tb d 284 K) [.bipush 0, .jsr 16] ls st m := At.eq k284_15
theorem k284_16 : pg.1 284 16 = [.putfield 1000, .aload 0, .getfield 1000, .ifCond .le 28, .bipush 0, .ireturn] := rfl
theorem a284_16 {tb : Tab} {d : Nat} {K : Out → AM → Prop} {ls st : List AV} {m : AM} : At tb d 284 K 16 ls st m = wpB tb (pg.2.1 284) (Runs tb pg d) K (At tb d 284 K) [.putfield 1000, .aload 0, .getfield 1000, .ifCond .le 28, .bipush 0, .ireturn] ls st m := At.eq k284_16
theorem k284_28 : pg.1 284 28 = [.aload 0, .invokeinterface 282 1, .aload 0, .iload 1, .bipush 1, .invokeinterface 265 3, .ireturn] := rfl
theorem a284_28 {tb : Tab} {d : Nat} {K : Out → AM → Prop} {ls st : List AV} {m : AM} : At tb d 284 K 28 ls st m = wpB tb (pg.2.1 284) (Runs tb pg d) K (At tb d 284 K) [.aload 0, .invokeinterface 282 1, .aload 0, .iload 1, .bipush 1, .invokeinterface 265 3, .ireturn] ls st m := At.eq k284_28
theorem q_284 {n : Int} (hM : AskM tb ev good) (hA : AB (S 301)) (hG : good (lawD (S 301))) (h6 : 0 ≤ S 300 6 ∧ S 300 6 ≤ 12) (hn : R32 n) (hK1 : ¬ (1 ≤ n ∧ n ≤ 60) → K (.inl (some (vi 0))) (X (upS S 300 0 1) m)) (hK : ∀ T r, (1 ≤ n ∧ n ≤ 60) → SR (sR (rmS (upS S 300 0 0)) (goN ev 1 (S 301) n.toNat)) T → r = goC ev 1 (S 301) n.toNat → K (.inl (some (vi r))) (X T m)) : Runs tb pg (d + 64) 284 [vr 300, vi n] (X S m) K := by
  refine Runs.of (al := [vr 300, vi n]) (n := 0) ⟨300, _, _, rfl, xo_300⟩ rfl rfl trivial ?_
  unfold R32 at hn
  repeat' (first | refine hK _ _ ?_ e9 e8 | refine hK1 ?_ | simp only [w_aload, w_iload, w_iconst, w_call, w_if, cI, Int.reduceToNat, w_goto, w_fall, x_p1000_300, x_g1000_300, w_ireturn, a284_0, a284_15, a284_16, a284_28, R32, List.getElem?_cons_zero, List.getElem?_cons_succ, List.set_cons_zero, List.set_cons_succ, List.cons_append, List.nil_append, List.replicate_succ, List.replicate_zero, List.take_succ_cons, List.take_zero, List.drop_succ_cons, List.drop_zero, List.reverse_cons, List.reverse_nil, List.length_cons, List.length_nil, Option.toList, true_and, and_true, eq_self, ↓reduceIte, not_true_eq_false, not_false_eq_true, true_or, or_true, upS_upS, upS_at, up300, up300b, oR3, fR3, dR3, lgR3, valM3, Int.reduceEq, Nat.reduceEqDiff, and_self, and_true, and_false, false_and, if_true, if_false, upS_301, sR_sR, sR_r, sR_0, rm_1, rm_0, up_6] | refine q_200 ?_ ?_ ?_ ?_ | refine q_265 (S := rmS (upS S 300 0 0)) hM hA hG (Or.inr rfl) ?_ (fun T9 x9 e9 e8 => ?_) | refine q_265 (S := rmS (upS S 300 0 0)) hM hA (GR3 hG) (Or.inr rfl) ?_ (fun T9 x9 e9 e8 => ?_) | refine q_282 (by simpa only [up_6] using h6) ?_ | with_reducible refine And.intro ?_ ?_ | with_reducible intro _)
  all_goals (try (first | omega | contradiction | ((try clear hK); (try clear hK0); (try clear hB); (try clear h9); (try clear h8); (try clear h7); (try simp only [oR3, fR3, dR3, lgR3, valM3, up300, up300b] at *); first | done | omega | grind)))
theorem k285_0 : pg.1 285 0 = [.aload 0, .aload 0, .iload 1, .invokeinterface 210 2, .ifCond .eq 17, .aload 0, .iload 2, .invokeinterface 209 2, .ifCond .ne 21, .jsr 17] := rfl
theorem a285_0 {tb : Tab} {d : Nat} {K : Out → AM → Prop} {ls st : List AV} {m : AM} : At tb d 285 K 0 ls st m = wpB tb (pg.2.1 285) (Runs tb pg d) K (At tb d 285 K) [.aload 0, .aload 0, .iload 1, .invokeinterface 210 2, .ifCond .eq 17, .aload 0, .iload 2, .invokeinterface 209 2, .ifCond .ne 21, .jsr 17] ls st m := At.eq k285_0
theorem k285_17 : pg.1 285 17 = [.bipush 1, .goto 22] := rfl
theorem a285_17 {tb : Tab} {d : Nat} {K : Out → AM → Prop} {ls st : List AV} {m : AM} : At tb d 285 K 17 ls st m = wpB tb (pg.2.1 285) (Runs tb pg d) K (At tb d 285 K) [.bipush 1, .goto 22] ls st m := At.eq k285_17
theorem k285_21 : pg.1 285 21 = [.bipush 0, .jsr 22] := rfl
theorem a285_21 {tb : Tab} {d : Nat} {K : Out → AM → Prop} {ls st : List AV} {m : AM} : At tb d 285 K 21 ls st m = wpB tb (pg.2.1 285) (Runs tb pg d) K (At tb d 285 K) [.bipush 0, .jsr 22] ls st m := At.eq k285_21
theorem k285_22 : pg.1 285 22 = [.putfield 1000, .aload 0, .getfield 1000, .ifCond .le 34, .bipush 0, .ireturn] := rfl
theorem a285_22 {tb : Tab} {d : Nat} {K : Out → AM → Prop} {ls st : List AV} {m : AM} : At tb d 285 K 22 ls st m = wpB tb (pg.2.1 285) (Runs tb pg d) K (At tb d 285 K) [.putfield 1000, .aload 0, .getfield 1000, .ifCond .le 34, .bipush 0, .ireturn] ls st m := At.eq k285_22
theorem k285_34 : pg.1 285 34 = [.aload 0, .aload 0, .iload 1, .iload 2, .invokeinterface 217 3, .ifCond .ne 48, .bipush 2, .goto 49] := rfl
theorem a285_34 {tb : Tab} {d : Nat} {K : Out → AM → Prop} {ls st : List AV} {m : AM} : At tb d 285 K 34 ls st m = wpB tb (pg.2.1 285) (Runs tb pg d) K (At tb d 285 K) [.aload 0, .aload 0, .iload 1, .iload 2, .invokeinterface 217 3, .ifCond .ne 48, .bipush 2, .goto 49] ls st m := At.eq k285_34
theorem k285_48 : pg.1 285 48 = [.bipush 0, .jsr 49] := rfl
theorem a285_48 {tb : Tab} {d : Nat} {K : Out → AM → Prop} {ls st : List AV} {m : AM} : At tb d 285 K 48 ls st m = wpB tb (pg.2.1 285) (Runs tb pg d) K (At tb d 285 K) [.bipush 0, .jsr 49] ls st m := At.eq k285_48
theorem k285_49 : pg.1 285 49 = [.putfield 1000, .aload 0, .getfield 1000, .ifCond .le 61, .bipush 0, .ireturn] := rfl
theorem a285_49 {tb : Tab} {d : Nat} {K : Out → AM → Prop} {ls st : List AV} {m : AM} : At tb d 285 K 49 ls st m = wpB tb (pg.2.1 285) (Runs tb pg d) K (At tb d 285 K) [.putfield 1000, .aload 0, .getfield 1000, .ifCond .le 61, .bipush 0, .ireturn] ls st m := At.eq k285_49
theorem k285_61 : pg.1 285 61 = [.aload 0, .invokeinterface 282 1, .aload 0, .iload 1, .iload 2, .invokeinterface 251 3, .istore 3, .aload 0, .iload 1, .iload 2, .invokeinterface 254 3, .aload 0, .iload 1, .bipush 0, .iload 2, .invokeinterface 253 4, .iload 3, .ireturn] := rfl
theorem a285_61 {tb : Tab} {d : Nat} {K : Out → AM → Prop} {ls st : List AV} {m : AM} : At tb d 285 K 61 ls st m = wpB tb (pg.2.1 285) (Runs tb pg d) K (At tb d 285 K) [.aload 0, .invokeinterface 282 1, .aload 0, .iload 1, .iload 2, .invokeinterface 251 3, .istore 3, .aload 0, .iload 1, .iload 2, .invokeinterface 254 3, .aload 0, .iload 1, .bipush 0, .iload 2, .invokeinterface 253 4, .iload 3, .ireturn] ls st m := At.eq k285_61
theorem q_285 {p f : Int} (hM : AskD tb ev good) (hA : AB (S 301)) (hG : good (lawD (S 301))) (h6 : 0 ≤ S 300 6 ∧ S 300 6 ≤ 12) (hp : R32 p) (hf : R32 f) (hK1 : ¬ ((0 ≤ p ∧ p < S 301 4) ∧ (0 ≤ f ∧ f < S 301 3)) → K (.inl (some (vi 0))) (X (upS S 300 0 1) m)) (hK2 : (0 ≤ p ∧ p < S 301 4) → (0 ≤ f ∧ f < S 301 3) → ¬ (0 < fR S f 1 ∧ oR S p 0 ≤ fR S f 2 - usedM (oR S) (S 301 4) f + (if oR S p 1 = f then oR S p 0 else 0)) → K (.inl (some (vi 0))) (X (upS S 300 0 2) m)) (hK : ∀ T r, (0 ≤ p ∧ p < S 301 4) → (0 ≤ f ∧ f < S 301 3) → (0 < fR S f 1 ∧ oR S p 0 ≤ fR S f 2 - usedM (oR S) (S 301 4) f + (if oR S p 1 = f then oR S p 0 else 0)) → r = dptR ev (S 301) p f → SR (sR (rmS (upS S 300 0 0)) (logsR (wrtR ev (S 301) p f) p 0 f)) T → AB (wrtR ev (S 301) p f) → K (.inl (some (vi r))) (X T m)) : Runs tb pg (d + 62) 285 [vr 300, vi p, vi f] (X S m) K := by
  refine Runs.of (al := [vr 300, vi p, vi f]) (n := 1) ⟨300, _, _, rfl, xo_300⟩ rfl rfl trivial ?_
  have hB := AB_B hA
  have b3 := hB.2.1
  have b4 := hB.2.2.1
  unfold R32 at hp hf
  obtain ⟨P, hP⟩ : ∃ P : Prop, P ↔ (0 < fR S f 1 ∧ oR S p 0 ≤ fR S f 2 - usedM (oR S) (S 301 4) f + (if oR S p 1 = f then oR S p 0 else 0)) := ⟨_, Iff.rfl⟩
  repeat' (first | refine hK _ _ ?_ ?_ ?_ e1 ?_ ?_ | refine hK1 ?_ | refine hK2 ?_ ?_ ?_ | simp only [w_aload, w_iload, w_call, w_if, cI, Int.reduceToNat, w_fall, w_iconst, w_goto, x_p1000_300, x_g1000_300, w_ireturn, w_istore, a285_0, a285_17, a285_21, a285_22, a285_34, a285_48, a285_49, a285_61, R32, List.getElem?_cons_zero, List.getElem?_cons_succ, List.set_cons_zero, List.set_cons_succ, List.cons_append, List.nil_append, List.replicate_succ, List.replicate_zero, List.take_succ_cons, List.take_zero, List.drop_succ_cons, List.drop_zero, List.reverse_cons, List.reverse_nil, List.length_cons, List.length_nil, Option.toList, true_and, and_true, eq_self, ↓reduceIte, not_true_eq_false, not_false_eq_true, true_or, or_true, upS_upS, upS_at, up300, up300b, oR3, fR3, dR3, lgR3, valM3, Int.reduceEq, Nat.reduceEqDiff, and_self, and_true, and_false, false_and, if_true, if_false, upS_301, sR_sR, sR_r, sR_0, rm_1, rm_0, up_6] | refine q_209 hB ?_ ?_ | refine q_209 (BR3 hB) ?_ ?_ | refine q_210 hB ?_ ?_ | refine q_210 (BR3 hB) ?_ ?_ | refine q_282 (by simpa only [up_6] using h6) ?_ | refine q_217 (S := upS S 300 0 0) hB ?_ ?_ (fun r7 e7 => ?_) | refine hM _ _ _ (rmS (upS S 300 0 0)) _ _ hA hG ?_ ?_ (fun T9 r9 e1 e2 e3 e4 => ?_) | refine q_254 hM (by rw [SA_m e4]; exact hA) (by rw [SA_m e4]; exact hG) ?_ (by rw [SA_m e4]; show 0 ≤ f ∧ f < S 301 3; omega) (fun T8 e5 => ?_) | refine q_253 (S := T8) (by rw [SR_m e5, sR_r, SA_m e4]; exact wrtR_AB (by omega) (by omega) (by show 0 ≤ f ∧ f < S 301 3; omega) (by rw [← e1]; omega) hA) ?_ ?_ ?_ ?_ | with_reducible refine And.intro ?_ ?_ | with_reducible intro _)
  all_goals (try (first | omega | contradiction | ((try clear hK); (try clear hK0); (try clear hB); (try clear h9); (try clear h8); (try clear h7); (try simp only [oR3, fR3, dR3, lgR3, valM3, up300, up300b] at *); first | done | omega | (rw [SA_m e4] at e5; have e6 := SR_q (q := logsR (T8 301) p 0 f) (SR_trans (SR_q (q := wrtR ev (rmS (upS S 300 0 0) 301) p f) (SR_id (SA_R e4))) e5); rw [SR_m e5, sR_r] at e6 ⊢; exact e6) | (have e11 : r9 = dptR ev (S 301) p f := e1; exact wrtR_AB (by omega) (by omega) (by omega) (by rw [← e11]; omega) hA) | grind [yn])))
end Ref25
