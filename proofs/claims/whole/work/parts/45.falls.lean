/-! ===== THE REFERENCE: what falls, what is blown ===== -/
/-- the snow of the first i fields told anew -/
def snwP (g : (Int → Int) → Int → Int) (r : Int → Int) (i : Int) : Int → Int := fun j => if 14 ≤ j ∧ j < 13 + 3 * i ∧ (j - 14) % 3 = 0 then g r j else r j
theorem snwP_s {g : (Int → Int) → Int → Int} {r : Int → Int} {i v : Int} (h : 0 ≤ i) (hv : v = g r (14 + 3 * i)) : putR (snwP g r i) (13 + 3 * i + 1) v = snwP g r (i + 1) := by
  funext j
  unfold putR snwP
  by_cases e : j = 14 + 3 * i
  · rw [if_pos (by omega), if_pos (by omega), hv, e]
  · rw [if_neg (by omega)]
    by_cases e2 : 14 ≤ j ∧ j < 13 + 3 * i ∧ (j - 14) % 3 = 0
    · rw [if_pos e2, if_pos (by omega)]
    · rw [if_neg e2, if_neg (by omega)]
theorem snwP_0 {g : (Int → Int) → Int → Int} {r : Int → Int} : snwP g r 0 = r := by
  funext j
  unfold snwP
  rw [if_neg (by omega)]
theorem snwP_o {g : (Int → Int) → Int → Int} {r : Int → Int} {i j : Int} (i1 : i ≤ 6) (hj : j < 14 ∨ 31 ≤ j) : snwP g r i j = r j := by
  unfold snwP
  rw [if_neg (by omega)]
theorem snwP_f {g : (Int → Int) → Int → Int} {r : Int → Int} {i f w : Int} (f0 : 0 ≤ f) (w0 : 0 ≤ w) (w1 : w < 3) : fr (snwP g r i) f w = if w = 1 ∧ f < i then g r (14 + 3 * f) else fr r f w := by
  unfold fr snwP
  by_cases e : w = 1 ∧ f < i
  · rw [if_pos e, if_pos (by omega)]
    exact congrArg (g r) (by omega)
  · rw [if_neg e, if_neg (by omega)]
theorem snwP_p {g : (Int → Int) → Int → Int} {r : Int → Int} {i p w : Int} (i1 : i ≤ 6) (p0 : 0 ≤ p) (w0 : 0 ≤ w) : pr (snwP g r i) p w = pr r p w := snwP_o i1 (by omega)
theorem snwP_AB {g : (Int → Int) → Int → Int} {r : Int → Int} {i : Int} (i1 : i ≤ 6) (hg : ∀ f, 0 ≤ f → f < 6 → 0 ≤ g r (14 + 3 * f) ∧ g r (14 + 3 * f) ≤ 99) (h : AB r) : AB (snwP g r i) := by
  obtain ⟨b0, b1, b2, b3, b4, b5⟩ := h
  refine ⟨fun j hj => ?_, ?_, fun q q0 q1 => ?_, fun q q0 q1 => ?_, fun k k0 k1 => ?_, fun q q0 q1 => ?_⟩
  · have a1 := b0 j hj
    unfold snwP
    split
    · next e =>
      have a2 := hg ((j - 14) / 3) (by omega) (by omega)
      rw [show 14 + 3 * ((j - 14) / 3) = j by omega] at a2
      omega
    · exact a1
  · unfold B1 at b1 ⊢
    rw [snwP_o i1 (by omega), snwP_o i1 (by omega), snwP_o i1 (by omega), snwP_o i1 (by omega), snwP_o i1 (by omega), snwP_o i1 (by omega), snwP_o i1 (by omega), snwP_o (j := 6) i1 (by omega), snwP_o (j := 10) i1 (by omega)]
    exact b1
  · have := b2 q q0 q1
    rw [snwP_p i1 q0 (by omega), snwP_p i1 q0 (by omega)]
    refine ⟨this.1, this.2.1, fun k k0 k1 => ?_⟩
    rw [snwP_p i1 q0 (by omega), snwP_p i1 q0 (by omega)]
    exact this.2.2 k k0 k1
  · have := b3 q q0 q1
    rw [snwP_f q0 (by omega) (by omega), snwP_f q0 (by omega) (by omega), snwP_f q0 (by omega) (by omega), if_neg (by omega), if_neg (show ¬ ((2 : Int) = 1 ∧ q < i) by omega)]
    refine ⟨this.1, ?_, this.2.2⟩
    split
    · exact hg q q0 q1
    · exact this.2.1
  · rw [snwP_o i1 (by omega)] at k1
    have b := b1.2.2.1
    unfold dr
    rw [snwP_o i1 (by omega), snwP_o i1 (by omega)]
    exact b4 k k0 k1
  · rw [snwP_o i1 (by omega)] at q1
    rw [snwP_p i1 q0 (by omega), snwP_p i1 q0 (by omega), snwP_o i1 (by omega)]
    exact b5 q q0 q1
def flV (r : Int → Int) (j : Int) : Int := if 99 < r j + r 6 then 99 else r j + r 6
def thV (r : Int → Int) (j : Int) : Int := if r j - r (j - 1) - 1 < 0 then 0 else r j - r (j - 1) - 1
theorem fl_rg {r : Int → Int} (h : AB r) : ∀ f, 0 ≤ f → f < 6 → 0 ≤ flV r (14 + 3 * f) ∧ flV r (14 + 3 * f) ≤ 99 := by
  intro f f0 f1
  have a := (h.2.2.2.1 f f0 f1).2.1
  have e : fr r f 1 = r (14 + 3 * f) := by unfold fr; exact congrArg r (by omega)
  have b := h.2.1.2.2.2.2.2.2.2.1
  rw [e] at a
  unfold flV
  split <;> omega
theorem th_rg {r : Int → Int} (h : AB r) : ∀ f, 0 ≤ f → f < 6 → 0 ≤ thV r (14 + 3 * f) ∧ thV r (14 + 3 * f) ≤ 99 := by
  intro f f0 f1
  have a := h.2.2.2.1 f f0 f1
  have e : fr r f 1 = r (14 + 3 * f) := by unfold fr; exact congrArg r (by omega)
  have e2 : fr r f 0 = r (14 + 3 * f - 1) := by unfold fr; exact congrArg r (by omega)
  rw [e, e2] at a
  unfold thV
  split <;> omega
/-- people one after the other: what sinks of each by a number, or all -/
def snkN (n b : (Int → Int) → Int → Int) (r : Int → Int) : Nat → Int → Int
  | 0 => r
  | k + 1 => if pr (snkN n b r k) k 1 = -1 then snkN n b r k else sinkR (snkN n b r k) k (n (snkN n b r k) k) (b (snkN n b r k) k)
theorem snkN_AB {n b : (Int → Int) → Int → Int} {r : Int → Int} (h : AB r) (hn : ∀ q k, 0 ≤ n q k) : ∀ k : Nat, k ≤ 6 → AB (snkN n b r k)
  | 0, _ => h
  | k + 1, hk => by
    have ih := snkN_AB (b := b) h hn k (by omega)
    show AB (if pr (snkN n b r k) k 1 = -1 then snkN n b r k else sinkR (snkN n b r k) k (n (snkN n b r k) k) (b (snkN n b r k) k))
    split
    · exact ih
    · exact sinkR_AB (by omega) (by omega) (hn _ _) ih
theorem snkN_y {n b : (Int → Int) → Int → Int} {r : Int → Int} {i : Int} (h : 0 ≤ i) (e : pr (snkN n b r i.toNat) i 1 = -1) : snkN n b r (i + 1).toNat = snkN n b r i.toNat := by
  rw [show (i + 1).toNat = i.toNat + 1 by omega]
  show (if pr (snkN n b r i.toNat) (i.toNat : Int) 1 = -1 then _ else _) = _
  rw [Int.toNat_of_nonneg h, if_pos e]
theorem snkN_n {n b : (Int → Int) → Int → Int} {r : Int → Int} {i : Int} (h : 0 ≤ i) (e : ¬ pr (snkN n b r i.toNat) i 1 = -1) : snkN n b r (i + 1).toNat = sinkR (snkN n b r i.toNat) i (n (snkN n b r i.toNat) i) (b (snkN n b r i.toNat) i) := by
  rw [show (i + 1).toNat = i.toNat + 1 by omega]
  show (if pr (snkN n b r i.toNat) (i.toNat : Int) 1 = -1 then _ else _) = _
  rw [Int.toNat_of_nonneg h, if_neg e]
theorem lvlg_o {r : Int → Int} {p w f q j : Int} (q0 : 0 ≤ q) (q1 : q < 6) (hj : j ≠ 11) (h : j < 31) : leavesR (logsR r p w f) q j = r j := by
  rw [leavesR_o q0 q1 (by omega), logsR_o hj (by omega)]
theorem sinkR_o {r : Int → Int} {p n b j : Int} (h0 : 0 ≤ p) (h1 : p < 6) (hc : pr r p 0 ≤ 6) (hj : j ≠ 11) (h : j < 31) : sinkR r p n b j = r j := by
  unfold sinkR
  split
  · exact sinkP_o h0 h1 hc (by omega)
  · rw [lvlg_o h0 h1 hj h, sinkP_o h0 h1 hc (by omega)]
theorem snkN_o {n b : (Int → Int) → Int → Int} {r : Int → Int} (hA : AB r) (hn : ∀ q k, 0 ≤ n q k) {j : Int} (hj : j ≠ 11) (h : j < 31) : ∀ k : Nat, k ≤ 6 → snkN n b r k j = r j
  | 0, _ => rfl
  | k + 1, hk => by
    have ih := snkN_o (b := b) hA hn hj h k (by omega)
    have a := snkN_AB (b := b) hA hn k (by omega)
    show (if pr (snkN n b r k) k 1 = -1 then snkN n b r k else sinkR (snkN n b r k) k (n (snkN n b r k) k) (b (snkN n b r k) k)) j = r j
    split
    · exact ih
    · rw [sinkR_o (by omega) (by omega) (a.2.2.1 k (by omega) (by omega)).1.2 hj h]
      exact ih
def fallsR (r : Int → Int) : Int → Int := snkN (fun _ _ => 1) (fun _ _ => 0) (snwP flV r (r 3)) (r 4).toNat
theorem fallsR_AB {r : Int → Int} (h : AB r) : AB (fallsR r) := by
  have b3 := h.2.1.1
  have b4 := h.2.1.2.1
  exact snkN_AB (snwP_AB b3.2 (fl_rg h) h) (fun _ _ => by decide) _ (by omega)
section Ref18
variable {tb : Tab} {d : Nat} {m : AM} {K : Out → AM → Prop} {S : Nat → Int → Int}
theorem k257_0 : pg.1 257 0 = [.bipush 0, .istore 1, .jsr 2] := rfl
theorem a257_0 {tb : Tab} {d : Nat} {K : Out → AM → Prop} {ls st : List AV} {m : AM} : At tb d 257 K 0 ls st m = wpB tb (pg.2.1 257) (Runs tb pg d) K (At tb d 257 K) [.bipush 0, .istore 1, .jsr 2] ls st m := At.eq k257_0
theorem k257_2 : pg.1 257 2 = [.iload 1, .aload 0, .getfield 1001, .bipush 3, .iaload, .if_icmp .ge 50, .aload 0, .getfield 1001, .bipush 13, .bipush 3, .iload 1, .imul, .iadd, .bipush 1, .iadd, .bipush 99, .aload 0, .iload 1, .bipush 1, .invokeinterface 205 3, .aload 0, .getfield 1001, .bipush 6, .iaload, .iadd, .invokeinterface 201 2, .iastore, .iinc 1 1, .goto 2] := rfl
theorem a257_2 {tb : Tab} {d : Nat} {K : Out → AM → Prop} {ls st : List AV} {m : AM} : At tb d 257 K 2 ls st m = wpB tb (pg.2.1 257) (Runs tb pg d) K (At tb d 257 K) [.iload 1, .aload 0, .getfield 1001, .bipush 3, .iaload, .if_icmp .ge 50, .aload 0, .getfield 1001, .bipush 13, .bipush 3, .iload 1, .imul, .iadd, .bipush 1, .iadd, .bipush 99, .aload 0, .iload 1, .bipush 1, .invokeinterface 205 3, .aload 0, .getfield 1001, .bipush 6, .iaload, .iadd, .invokeinterface 201 2, .iastore, .iinc 1 1, .goto 2] ls st m := At.eq k257_2
theorem k257_50 : pg.1 257 50 = [.bipush 0, .istore 1, .jsr 52] := rfl
theorem a257_50 {tb : Tab} {d : Nat} {K : Out → AM → Prop} {ls st : List AV} {m : AM} : At tb d 257 K 50 ls st m = wpB tb (pg.2.1 257) (Runs tb pg d) K (At tb d 257 K) [.bipush 0, .istore 1, .jsr 52] ls st m := At.eq k257_50
theorem k257_52 : pg.1 257 52 = [.iload 1, .aload 0, .getfield 1001, .bipush 4, .iaload, .if_icmp .ge 83, .aload 0, .iload 1, .invokeinterface 211 2, .ifCond .eq 77, .aload 0, .iload 1, .bipush 1, .bipush 0, .invokeinterface 256 4, .jsr 77] := rfl
theorem a257_52 {tb : Tab} {d : Nat} {K : Out → AM → Prop} {ls st : List AV} {m : AM} : At tb d 257 K 52 ls st m = wpB tb (pg.2.1 257) (Runs tb pg d) K (At tb d 257 K) [.iload 1, .aload 0, .getfield 1001, .bipush 4, .iaload, .if_icmp .ge 83, .aload 0, .iload 1, .invokeinterface 211 2, .ifCond .eq 77, .aload 0, .iload 1, .bipush 1, .bipush 0, .invokeinterface 256 4, .jsr 77] ls st m := At.eq k257_52
theorem k257_77 : pg.1 257 77 = [.iinc 1 1, .goto 52] := rfl
theorem a257_77 {tb : Tab} {d : Nat} {K : Out → AM → Prop} {ls st : List AV} {m : AM} : At tb d 257 K 77 ls st m = wpB tb (pg.2.1 257) (Runs tb pg d) K (At tb d 257 K) [.iinc 1 1, .goto 52] ls st m := At.eq k257_77
theorem k257_83 : pg.1 257 83 = [.return_] := rfl
theorem a257_83 {tb : Tab} {d : Nat} {K : Out → AM → Prop} {ls st : List AV} {m : AM} : At tb d 257 K 83 ls st m = wpB tb (pg.2.1 257) (Runs tb pg d) K (At tb d 257 K) [.return_] ls st m := At.eq k257_83
theorem q_257a (hA : AB (S 301)) (hK : ∀ T, T = sR S (fallsR (S 301)) → K (.inl none) (X T m)) : Runs tb pg (d + 5) 257 [vr 300] (X S m) K := by
  have b3 := hA.2.1.1
  have b4 := hA.2.1.2.1
  have b6 := hA.2.1.2.2.2.2.2.2.2.1
  have sA := fun i (h : i ≤ 6) => snwP_AB (i := i) h (fl_rg hA) hA
  have hL52 : (fun i : Int => ∀ (T : Nat → Int → Int), T = sR S (snkN (fun _ _ => 1) (fun _ _ => 0) (snwP flV (S 301) (S 301 3)) i.toNat) → At tb (d + 4) 257 K 52 [vr 300, vi i] [] (X T m)) 0 := by
    refine loopZ (fun i : Int => ∀ (T : Nat → Int → Int), T = sR S (snkN (fun _ _ => 1) (fun _ _ => 0) (snwP flV (S 301) (S 301 3)) i.toNat) → At tb (d + 4) 257 K 52 [vr 300, vi i] [] (X T m)) (S 301 4) (by omega) ?_ ?_
    · intro i h0 h1 h9 T hT
      subst hT
      have s := snkN_AB (n := fun _ _ => 1) (b := fun _ _ => 0) (sA (S 301 3) b3.2) (fun _ _ => by decide) i.toNat (by omega)
      have hB := ABs (S := S) s
      have c4 : snkN (fun _ _ => 1) (fun _ _ => 0) (snwP flV (S 301) (S 301 3)) i.toNat 4 = S 301 4 := by rw [snkN_o (sA _ b3.2) (fun _ _ => by decide) (by omega) (by omega) _ (by omega), snwP_o b3.2 (by omega)]
      have y1 := snkN_y (n := fun _ _ => 1) (b := fun _ _ => 0) (r := snwP flV (S 301) (S 301 3)) h0
      have y2 := snkN_n (n := fun _ _ => 1) (b := fun _ _ => 0) (r := snwP flV (S 301) (S 301 3)) h0
      rw [a257_52]
      repeat' (first | refine h9 _ ?_ | simp only [w_iconst, w_istore, w_fall, Int.reduceToNat, w_iload, w_aload, x_g1001_300, x_iald, w_ialoads, w_ialoadw, w_ifc, cI, w_imul, w_iadd, w_call, x_iast, w_iinc, lgB, Nat.reduceSub, w_goto, w_if, w_return, isA_301, isA_302, isA_303, isA_304, isA_305, isA_306, isA_307, isA_308, isA_309, isA_310, isA_311, isA_312, isA_313, isA_314, isA_315, len_301, len_302, len_303, len_304, len_305, len_306, len_307, len_308, len_309, len_310, len_311, len_312, len_313, len_314, len_315, Int.cast_ofNat_Int, a257_0, a257_50, a257_77, a257_83, R32, List.getElem?_cons_zero, List.getElem?_cons_succ, List.set_cons_zero, List.set_cons_succ, List.cons_append, List.nil_append, List.replicate_succ, List.replicate_zero, List.take_succ_cons, List.take_zero, List.drop_succ_cons, List.drop_zero, List.reverse_cons, List.reverse_nil, List.length_cons, List.length_nil, Option.toList, true_and, and_true, eq_self, ↓reduceIte, not_true_eq_false, not_false_eq_true, true_or, or_true, upS_upS, upS_at, up300, up300b, oR3, fR3, dR3, lgR3, valM3, Int.reduceEq, Nat.reduceEqDiff, and_self, and_true, and_false, false_and, if_true, if_false, upS_301, sR_sR, sR_r, sR_0, sR_4, sR_5] | refine q_211 hB ?_ ?_ | refine q_256 (S := sR S _) s ?_ ?_ ?_ ?_ | refine q_211 (BR3 hB) ?_ ?_ | with_reducible refine And.intro ?_ ?_ | with_reducible intro _)
      all_goals (try (first | omega | contradiction | ((try clear hK); (try clear hK0); (try clear hB); (try clear h9); (try clear h8); (try clear h7); (try simp only [oR3, fR3, dR3, lgR3, valM3, up300, up300b] at *); first | done | omega | (simp only [oRs] at *; first | omega | (rw [y1 (by grind)]) | (rw [y2 (by grind)]) | grind))))
    · intro T hT
      subst hT
      have c4 : snkN (fun _ _ => 1) (fun _ _ => 0) (snwP flV (S 301) (S 301 3)) (S 301 4).toNat 4 = S 301 4 := by rw [snkN_o (sA _ b3.2) (fun _ _ => by decide) (by omega) (by omega) _ (by omega), snwP_o b3.2 (by omega)]
      rw [a257_52]
      repeat' (first | refine hK _ ?_ | simp only [w_iconst, w_istore, w_fall, Int.reduceToNat, w_iload, w_aload, x_g1001_300, x_iald, w_ialoads, w_ialoadw, w_ifc, cI, w_imul, w_iadd, w_call, x_iast, w_iinc, lgB, Nat.reduceSub, w_goto, w_if, w_return, isA_301, isA_302, isA_303, isA_304, isA_305, isA_306, isA_307, isA_308, isA_309, isA_310, isA_311, isA_312, isA_313, isA_314, isA_315, len_301, len_302, len_303, len_304, len_305, len_306, len_307, len_308, len_309, len_310, len_311, len_312, len_313, len_314, len_315, Int.cast_ofNat_Int, a257_0, a257_50, a257_77, a257_83, R32, List.getElem?_cons_zero, List.getElem?_cons_succ, List.set_cons_zero, List.set_cons_succ, List.cons_append, List.nil_append, List.replicate_succ, List.replicate_zero, List.take_succ_cons, List.take_zero, List.drop_succ_cons, List.drop_zero, List.reverse_cons, List.reverse_nil, List.length_cons, List.length_nil, Option.toList, true_and, and_true, eq_self, ↓reduceIte, not_true_eq_false, not_false_eq_true, true_or, or_true, upS_upS, upS_at, up300, up300b, oR3, fR3, dR3, lgR3, valM3, Int.reduceEq, Nat.reduceEqDiff, and_self, and_true, and_false, false_and, if_true, if_false, upS_301, sR_sR, sR_r, sR_0, sR_4, sR_5] | refine q_211 hB ?_ ?_ | refine q_256 (S := sR S _) s ?_ ?_ ?_ ?_ | refine q_211 (BR3 hB) ?_ ?_ | with_reducible refine And.intro ?_ ?_ | with_reducible intro _)
      all_goals (try (first | omega | contradiction | ((try clear hK); (try clear hK0); (try clear hB); (try clear h9); (try clear h8); (try clear h7); (try simp only [oR3, fR3, dR3, lgR3, valM3, up300, up300b] at *); first | done | omega | rfl | grind)))
  have hL2 : (fun i : Int => ∀ (T : Nat → Int → Int), T = sR S (snwP flV (S 301) i) → At tb (d + 4) 257 K 2 [vr 300, vi i] [] (X T m)) 0 := by
    refine loopZ (fun i : Int => ∀ (T : Nat → Int → Int), T = sR S (snwP flV (S 301) i) → At tb (d + 4) 257 K 2 [vr 300, vi i] [] (X T m)) (S 301 3) (by omega) ?_ ?_
    · intro i h0 h1 h9 T hT
      subst hT
      have s := sA i (by omega)
      have hB := ABs (S := S) s
      have c3 : snwP flV (S 301) i 3 = S 301 3 := snwP_o (by omega) (by omega)
      have c6 : snwP flV (S 301) i 6 = S 301 6 := snwP_o (by omega) (by omega)
      have f1 : fR (sR S (snwP flV (S 301) i)) i 1 = fr (S 301) i 1 := by rw [fRs, snwP_f h0 (by omega) (by omega), if_neg (by omega)]
      have f2 : fr (S 301) i 1 = S 301 (14 + 3 * i) := by unfold fr; exact congrArg _ (by omega)
      have f3 := (hA.2.2.2.1 i h0 (by omega)).2.1
      rw [a257_2]
      repeat' (first | refine h9 _ ?_ | simp only [w_iconst, w_istore, w_fall, Int.reduceToNat, w_iload, w_aload, x_g1001_300, x_iald, w_ialoads, w_ialoadw, w_ifc, cI, w_imul, w_iadd, w_call, x_iast, w_iinc, lgB, Nat.reduceSub, w_goto, w_if, w_return, isA_301, isA_302, isA_303, isA_304, isA_305, isA_306, isA_307, isA_308, isA_309, isA_310, isA_311, isA_312, isA_313, isA_314, isA_315, len_301, len_302, len_303, len_304, len_305, len_306, len_307, len_308, len_309, len_310, len_311, len_312, len_313, len_314, len_315, Int.cast_ofNat_Int, a257_0, a257_50, a257_77, a257_83, R32, List.getElem?_cons_zero, List.getElem?_cons_succ, List.set_cons_zero, List.set_cons_succ, List.cons_append, List.nil_append, List.replicate_succ, List.replicate_zero, List.take_succ_cons, List.take_zero, List.drop_succ_cons, List.drop_zero, List.reverse_cons, List.reverse_nil, List.length_cons, List.length_nil, Option.toList, true_and, and_true, eq_self, ↓reduceIte, not_true_eq_false, not_false_eq_true, true_or, or_true, upS_upS, upS_at, up300, up300b, oR3, fR3, dR3, lgR3, valM3, Int.reduceEq, Nat.reduceEqDiff, and_self, and_true, and_false, false_and, if_true, if_false, upS_301, sR_sR, sR_r, sR_0, sR_4, sR_5] | refine q_201 ?_ ?_ ?_ | refine q_205 hB ?_ ?_ ?_ | refine q_205 (BR3 hB) ?_ ?_ ?_ | refine q_211 hB ?_ ?_ | refine q_256 (S := sR S _) s ?_ ?_ ?_ ?_ | refine q_211 (BR3 hB) ?_ ?_ | with_reducible refine And.intro ?_ ?_ | with_reducible intro _)
      all_goals (try (first | omega | contradiction | ((try clear hK); (try clear hK0); (try clear hB); (try clear h9); (try clear h8); (try clear h7); (try simp only [oR3, fR3, dR3, lgR3, valM3, up300, up300b] at *); first | done | omega | (refine congrArg (sR S) (snwP_s h0 ?_); simp only [flV]; rw [f1, f2, c6] at *; grind) | grind)))
    · intro T hT
      subst hT
      have c3 : snwP flV (S 301) (S 301 3) 3 = S 301 3 := snwP_o (by omega) (by omega)
      rw [a257_2]
      repeat' (first | refine hL52 _ ?_ | simp only [w_iconst, w_istore, w_fall, Int.reduceToNat, w_iload, w_aload, x_g1001_300, x_iald, w_ialoads, w_ialoadw, w_ifc, cI, w_imul, w_iadd, w_call, x_iast, w_iinc, lgB, Nat.reduceSub, w_goto, w_if, w_return, isA_301, isA_302, isA_303, isA_304, isA_305, isA_306, isA_307, isA_308, isA_309, isA_310, isA_311, isA_312, isA_313, isA_314, isA_315, len_301, len_302, len_303, len_304, len_305, len_306, len_307, len_308, len_309, len_310, len_311, len_312, len_313, len_314, len_315, Int.cast_ofNat_Int, a257_0, a257_50, a257_77, a257_83, R32, List.getElem?_cons_zero, List.getElem?_cons_succ, List.set_cons_zero, List.set_cons_succ, List.cons_append, List.nil_append, List.replicate_succ, List.replicate_zero, List.take_succ_cons, List.take_zero, List.drop_succ_cons, List.drop_zero, List.reverse_cons, List.reverse_nil, List.length_cons, List.length_nil, Option.toList, true_and, and_true, eq_self, ↓reduceIte, not_true_eq_false, not_false_eq_true, true_or, or_true, upS_upS, upS_at, up300, up300b, oR3, fR3, dR3, lgR3, valM3, Int.reduceEq, Nat.reduceEqDiff, and_self, and_true, and_false, false_and, if_true, if_false, upS_301, sR_sR, sR_r, sR_0, sR_4, sR_5] | refine q_201 ?_ ?_ ?_ | refine q_205 hB ?_ ?_ ?_ | refine q_205 (BR3 hB) ?_ ?_ ?_ | refine q_211 hB ?_ ?_ | refine q_256 (S := sR S _) s ?_ ?_ ?_ ?_ | refine q_211 (BR3 hB) ?_ ?_ | with_reducible refine And.intro ?_ ?_ | with_reducible intro _)
      all_goals (try (first | omega | contradiction | ((try clear hK); (try clear hK0); (try clear hB); (try clear h9); (try clear h8); (try clear h7); (try simp only [oR3, fR3, dR3, lgR3, valM3, up300, up300b] at *); first | done | omega | rfl | grind)))
  refine Runs.of (al := [vr 300]) (n := 1) ⟨300, _, _, rfl, xo_300⟩ rfl rfl trivial ?_
  repeat' (first | refine hL2 _ ?_ | simp only [w_iconst, w_istore, w_fall, Int.reduceToNat, w_iload, w_aload, x_g1001_300, x_iald, w_ialoads, w_ialoadw, w_ifc, cI, w_imul, w_iadd, w_call, x_iast, w_iinc, lgB, Nat.reduceSub, w_goto, w_if, w_return, isA_301, isA_302, isA_303, isA_304, isA_305, isA_306, isA_307, isA_308, isA_309, isA_310, isA_311, isA_312, isA_313, isA_314, isA_315, len_301, len_302, len_303, len_304, len_305, len_306, len_307, len_308, len_309, len_310, len_311, len_312, len_313, len_314, len_315, Int.cast_ofNat_Int, a257_0, a257_50, a257_77, a257_83, R32, List.getElem?_cons_zero, List.getElem?_cons_succ, List.set_cons_zero, List.set_cons_succ, List.cons_append, List.nil_append, List.replicate_succ, List.replicate_zero, List.take_succ_cons, List.take_zero, List.drop_succ_cons, List.drop_zero, List.reverse_cons, List.reverse_nil, List.length_cons, List.length_nil, Option.toList, true_and, and_true, eq_self, ↓reduceIte, not_true_eq_false, not_false_eq_true, true_or, or_true, upS_upS, upS_at, up300, up300b, oR3, fR3, dR3, lgR3, valM3, Int.reduceEq, Nat.reduceEqDiff, and_self, and_true, and_false, false_and, if_true, if_false, upS_301, sR_sR, sR_r, sR_0, sR_4, sR_5] | refine q_201 ?_ ?_ ?_ | refine q_205 hB ?_ ?_ ?_ | refine q_205 (BR3 hB) ?_ ?_ ?_ | refine q_211 hB ?_ ?_ | refine q_256 (S := sR S _) s ?_ ?_ ?_ ?_ | refine q_211 (BR3 hB) ?_ ?_ | with_reducible refine And.intro ?_ ?_ | with_reducible intro _)
  all_goals (try (first | omega | contradiction | ((try clear hK); (try clear hK0); (try clear hB); (try clear h9); (try clear h8); (try clear h7); (try simp only [oR3, fR3, dR3, lgR3, valM3, up300, up300b] at *); first | done | omega | (rw [snwP_0, sR_id]))))
theorem q_257 (hA : AB (S 301)) (hK : K (.inl none) (X (sR S (fallsR (S 301))) m)) : Runs tb pg (d + 5) 257 [vr 300] (X S m) K := q_257a hA (fun T e => by rw [e]; exact hK)
end Ref18
