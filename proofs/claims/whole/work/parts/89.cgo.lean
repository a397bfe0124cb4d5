/-! ===== THE CLASS: those of whom nothing is left go ===== -/
theorem RW_lv {S : Nat → Int → Int} {w : Nat} {r : Int → Int} {p : Int} (hA : AB r) (hR : RW S w r) (h0 : 0 ≤ p) (h1 : p < r 4) : RW (upS S (w + 6) p (-1)) w (leavesR r p) := by
  obtain ⟨⟨c0, c1, c2, c3⟩, cf, cp, cd, cl, cs⟩ := hR
  have z := AB_pp hA h0 h1
  have b3 := hA.2.1.1
  have b4 := hA.2.1.2.1
  have b5 := hA.2.1.2.2.1
  have b11 := hA.2.1.2.2.2.2.2.2.1
  have e : ∀ j, j < 31 ∨ 151 ≤ j → leavesR r p j = r j := fun j hj => leavesR_o h0 z.2.2 hj
  have o : ∀ k : Nat, k ≠ 6 → upS S (w + 6) p (-1) (w + k) = S (w + k) := fun k hk => if_neg (by omega)
  have o0 : upS S (w + 6) p (-1) w = S w := if_neg (by omega)
  refine ⟨?_, fun f f0 f1 => ?_, fun q q0 q1 => ?_, ⟨?_, fun k k0 k1 => ?_⟩, ⟨?_, fun k c k0 k1 c0 c1 => ?_⟩, fun j j0 j1 => ?_⟩
  · rw [o0, e 3 (by omega), e 4 (by omega), e 12 (by omega), e 0 (by omega)]; exact ⟨c0, c1, c2, c3⟩
  · rw [e 3 (by omega)] at f1
    have w9 : ∀ a, 0 ≤ a → a < 3 → fr (leavesR r p) f a = fr r f a := fun a a0 a1 => e _ (by omega)
    rw [o 1 (by decide), o 2 (by decide), o 3 (by decide), w9 0 (by decide) (by decide), w9 1 (by decide) (by decide), w9 2 (by decide) (by decide)]
    exact cf f f0 f1
  · rw [e 4 (by omega)] at q1
    have zq := AB_pp hA q0 q1
    obtain ⟨d1, d2, d3, d4⟩ := cp q q0 q1
    have s : ∀ k, 0 ≤ k → k < 8 → k ≠ 1 → pr (leavesR r p) q k = pr r q k := fun k k0 k1 k2 => by rw [leavesR_p k0 (by omega), if_neg (by omega), if_neg (by omega)]
    rw [s 0 (by omega) (by omega) (by omega), o 4 (by decide), o 5 (by decide), o 7 (by decide), o 8 (by decide)]
    refine ⟨d1, ?_, fun k k0 k1 => ?_, fun hq k k0 k1 => ?_⟩
    · rw [upS_at, leavesR_p (by omega) (by omega)]
      by_cases y : q = p
      · rw [if_pos ⟨rfl, y⟩, if_pos ⟨y, Or.inl rfl⟩]
      · rw [if_neg (fun x => y x.2), if_neg (fun x => y x.1), if_neg (fun x => y x.1)]; exact d2
    · rw [s _ (by omega) (by omega) (by omega)]; exact d3 k k0 k1
    · have y : q ≠ p := fun y => by
        rw [leavesR_p (by omega) (by omega), if_pos ⟨y, Or.inl rfl⟩] at hq
        exact hq rfl
      have s2 : ∀ k, 0 ≤ k → k < 20 → pr (leavesR r p) q k = pr r q k := fun k k0 k1 => by rw [leavesR_p k0 k1, if_neg (fun x => y x.1), if_neg (fun x => y x.1)]
      rw [s2 1 (by omega) (by omega)] at hq
      rw [s2 _ (by omega) (by omega), s2 _ (by omega) (by omega)]
      exact d4 hq k k0 k1
  · rw [o 9 (by decide), e 5 (by omega)]; exact cd.1
  · rw [e 5 (by omega)] at k1
    have w9 : ∀ a, 0 ≤ a → dr (leavesR r p) k a = dr r k a := fun a a0 => e _ (by omega)
    rw [o 10 (by decide), o 11 (by decide), o 12 (by decide), w9 0 (by decide), w9 1 (by decide), w9 2 (by decide)]
    exact cd.2 k k0 k1
  · rw [o 13 (by decide), e 11 (by omega)]; exact cl.1
  · rw [e 11 (by omega)] at k1 ⊢
    have w9 : gr (leavesR r p) k c = gr r k c := e _ (by omega)
    rw [o 14 (by decide), w9]
    exact cl.2 k c k0 k1 c0 c1
  · rw [o 15 (by decide), e _ (by omega)]; exact cs j j0 j1
/-- gone and logged, in either order -/
theorem lg_lv {r : Int → Int} {p h f : Int} (h0 : 0 ≤ p) (h1 : p < 6) : logsR (leavesR r p) p h f = leavesR (logsR r p h f) p := by
  funext j
  unfold logsR leavesR
  grind
noncomputable def lgA (r : Int → Int) : Nat → Int → Int
  | 0 => r
  | k + 1 => @ite _ (pr (lgA r k) k 1 ≠ -1 ∧ leftM (pr (lgA r k)) k (pr (lgA r k) k 0) = 0) (Classical.propDecidable _) (leavesR (logsR (lgA r k) k 2 (pr (lgA r k) k 1)) k) (lgA r k)
theorem lgA_y {r : Int → Int} {i : Int} (h : 0 ≤ i) (y : pr (lgA r i.toNat) i 1 ≠ -1 ∧ leftM (pr (lgA r i.toNat)) i (pr (lgA r i.toNat) i 0) = 0) : lgA r (i + 1).toNat = leavesR (logsR (lgA r i.toNat) i 2 (pr (lgA r i.toNat) i 1)) i := by
  rw [show (i + 1).toNat = i.toNat + 1 by omega]
  show @ite _ (pr (lgA r i.toNat) (i.toNat : Int) 1 ≠ -1 ∧ leftM (pr (lgA r i.toNat)) (i.toNat : Int) (pr (lgA r i.toNat) (i.toNat : Int) 0) = 0) (Classical.propDecidable _) _ _ = _
  rw [Int.toNat_of_nonneg h, if_pos y]
theorem lgA_n {r : Int → Int} {i : Int} (h : 0 ≤ i) (y : ¬ (pr (lgA r i.toNat) i 1 ≠ -1 ∧ leftM (pr (lgA r i.toNat)) i (pr (lgA r i.toNat) i 0) = 0)) : lgA r (i + 1).toNat = lgA r i.toNat := by
  rw [show (i + 1).toNat = i.toNat + 1 by omega]
  show @ite _ (pr (lgA r i.toNat) (i.toNat : Int) 1 ≠ -1 ∧ leftM (pr (lgA r i.toNat)) (i.toNat : Int) (pr (lgA r i.toNat) (i.toNat : Int) 0) = 0) (Classical.propDecidable _) _ _ = _
  rw [Int.toNat_of_nonneg h, if_neg y]
theorem lgA_AB {r : Int → Int} (hA : AB r) : ∀ k : Nat, (k : Int) ≤ r 4 → AB (lgA r k) ∧ (lgA r k) 4 = r 4
  | 0, _ => ⟨hA, rfl⟩
  | k + 1, h => by
    obtain ⟨i1, i2⟩ := lgA_AB hA k (by omega)
    have b4 := hA.2.1.2.1
    have z := AB_pp i1 (p := k) (by omega) (by omega)
    have k3 := i1.2.1.1
    show AB (@ite _ (pr (lgA r k) k 1 ≠ -1 ∧ leftM (pr (lgA r k)) k (pr (lgA r k) k 0) = 0) (Classical.propDecidable _) (leavesR (logsR (lgA r k) k 2 (pr (lgA r k) k 1)) k) (lgA r k)) ∧ (@ite _ (pr (lgA r k) k 1 ≠ -1 ∧ leftM (pr (lgA r k)) k (pr (lgA r k) k 0) = 0) (Classical.propDecidable _) (leavesR (logsR (lgA r k) k 2 (pr (lgA r k) k 1)) k) (lgA r k)) 4 = r 4
    by_cases y : pr (lgA r k) k 1 ≠ -1 ∧ leftM (pr (lgA r k)) k (pr (lgA r k) k 0) = 0
    · rw [if_pos y]
      refine ⟨leavesR_AB (by omega) (by omega) (logsR_AB (by omega) (by omega) (by omega) i1), ?_⟩
      rw [leavesR_o (by omega) (by omega) (by omega), logsR_o (by omega) (by omega)]
      exact i2
    · rw [if_neg y]; exact ⟨i1, i2⟩
section Days5
variable {tb : Tab} {d : Nat} {m : AM} {K : Out → AM → Prop} {S : Nat → Int → Int} {w : Nat} {r : Int → Int}
theorem k8_0 : pg.1 8 0 = [.bipush 0, .istore 1, .jsr 2] := rfl
theorem a8_0 {tb : Tab} {d : Nat} {K : Out → AM → Prop} {ls st : List AV} {m : AM} : At tb d 8 K 0 ls st m = wpB tb (pg.2.1 8) (Runs tb pg d) K (At tb d 8 K) [.bipush 0, .istore 1, .jsr 2] ls st m := At.eq k8_0
theorem k8_2 : pg.1 8 2 = [.iload 1, .aload 0, .getfield 804, .if_icmp .ge 59, .aload 0, .getfield 807, .iload 1, .iaload, .istore 2, .iload 2, .bipush (-1), .if_icmp .eq 53, .aload 0, .iload 1, .invokeinterface 117 2, .ifCond .ne 53, .aload 0, .getfield 807, .iload 1, .bipush (-1), .iastore, .aload 0, .getfield 811, .aload 0, .getfield 812, .bipush 4, .iaload, .iload 1, .bipush 2, .iload 2, .invokeinterface 50 5, .jsr 53] := rfl
theorem a8_2 {tb : Tab} {d : Nat} {K : Out → AM → Prop} {ls st : List AV} {m : AM} : At tb d 8 K 2 ls st m = wpB tb (pg.2.1 8) (Runs tb pg d) K (At tb d 8 K) [.iload 1, .aload 0, .getfield 804, .if_icmp .ge 59, .aload 0, .getfield 807, .iload 1, .iaload, .istore 2, .iload 2, .bipush (-1), .if_icmp .eq 53, .aload 0, .iload 1, .invokeinterface 117 2, .ifCond .ne 53, .aload 0, .getfield 807, .iload 1, .bipush (-1), .iastore, .aload 0, .getfield 811, .aload 0, .getfield 812, .bipush 4, .iaload, .iload 1, .bipush 2, .iload 2, .invokeinterface 50 5, .jsr 53] ls st m := At.eq k8_2
theorem k8_53 : pg.1 8 53 = [.iinc 1 1, .goto 2] := rfl
theorem a8_53 {tb : Tab} {d : Nat} {K : Out → AM → Prop} {ls st : List AV} {m : AM} : At tb d 8 K 53 ls st m = wpB tb (pg.2.1 8) (Runs tb pg d) K (At tb d 8 K) [.iinc 1 1, .goto 2] ls st m := At.eq k8_53
theorem k8_59 : pg.1 8 59 = [.return_] := rfl
theorem a8_59 {tb : Tab} {d : Nat} {K : Out → AM → Prop} {ls st : List AV} {m : AM} : At tb d 8 K 59 ls st m = wpB tb (pg.2.1 8) (Runs tb pg d) K (At tb d 8 K) [.return_] ls st m := At.eq k8_59
theorem w_8 (hw : isW w) (hR : RW S w r) (hA : AB r) (hK : ∀ T, RW T w (lgA r (r 4).toNat) → EW S T w → T w 15 = S w 15 → K (.inl none) (X T m)) : Runs tb pg (d + 2) 8 [vr w] (X S m) K := by
  have b3 := hA.2.1.1
  have b4 := hA.2.1.2.1
  have b5 := hA.2.1.2.2.1
  have e0 := hR.1.1
  have e4 := hR.1.2.1
  have hL2 : (fun i : Int => ∀ (z2 : AV) (T : Nat → Int → Int), (RW T w (lgA r i.toNat)) → (EW S T w) → (T w 15 = S w 15) → At tb (d + 1) 8 K 2 [vr w, vi i, z2] [] (X T m)) 0 := by
    refine loopZ (fun i : Int => ∀ (z2 : AV) (T : Nat → Int → Int), (RW T w (lgA r i.toNat)) → (EW S T w) → (T w 15 = S w 15) → At tb (d + 1) 8 K 2 [vr w, vi i, z2] [] (X T m)) (r 4) (by omega) ?_ ?_
    · intro i h0 h1 h9 z2 T hT hE hl
      obtain ⟨k1, k2⟩ := lgA_AB hA i.toNat (by omega)
      obtain ⟨q, hq⟩ : ∃ q, q = lgA r i.toNat := ⟨_, rfl⟩
      have ly := lgA_y (r := r) h0
      have ln := lgA_n (r := r) h0
      rw [← hq] at k1 k2 hT ly ln
      have t4 : T w 4 = r 4 := hT.1.2.1.trans k2
      have z := AB_pp k1 h0 (by omega)
      have k3 := k1.2.1.1
      have t6 := (hT.2.2.1 i h0 (by omega)).2.1
      have hpi : 0 ≤ i ∧ i < q 4 := by omega
      have ll := leftM_le (P := pr q) (p := i) (n := pr q i 0) (by omega)
      have t15 := hT.2.2.2.2.2 4 (by omega) (by omega)
      have t15b : T (w + 15) 4 = q 10 := t15
      have t13 := hT.2.2.2.2.1.1
      have b11 := k1.2.1.2.2.2.2.2.2.1
      have hR1 := RW_lv k1 hT hpi.1 hpi.2
      have hA1 := leavesR_AB h0 z.2.2 k1
      have e10 : leavesR q i 10 = q 10 := leavesR_o h0 z.2.2 (by omega)
      have s13 : upS T (w + 6) i (-1) (w + 13) 0 = q 11 := by rw [up_ne (by omega)]; exact t13
      rw [a8_2]
      repeat' (first | omega | with_reducible refine h9 _ _ ?_ ?_ ?_ | simp only [w_iconst, w_istore, w_fall, Int.reduceToNat, w_iload, w_aload, x_g804_w0, w_ifc, cI, x_g807_w0, x_iald, w_ialoads, w_ialoadw, w_call, w_if, x_iast, x_g811_w0, x_g812_w0, w_iinc, lgB, Nat.reduceSub, w_goto, w_return, isA_w1, isA_w2, isA_w3, isA_w4, isA_w5, isA_w6, isA_w7, isA_w8, isA_w10, isA_w11, isA_w12, isA_w14, isA_w15, isA_w16, len_w1, len_w2, len_w3, len_w4, len_w5, len_w6, len_w7, len_w8, len_w10, len_w11, len_w12, len_w14, len_w15, len_w16, Int.cast_ofNat_Int, a8_0, a8_53, a8_59, R32, List.getElem?_cons_zero, List.getElem?_cons_succ, List.set_cons_zero, List.set_cons_succ, List.cons_append, List.nil_append, List.replicate_succ, List.replicate_zero, List.take_succ_cons, List.take_zero, List.drop_succ_cons, List.drop_zero, List.reverse_cons, List.reverse_nil, List.length_cons, List.length_nil, Option.toList, true_and, and_true, eq_self, ↓reduceIte, not_true_eq_false, not_false_eq_true, true_or, or_true, hw, up_ne, ne_eq, Nat.reduceEqDiff, not_false_eq_true] | with_reducible refine w_117 hw hT k1 hpi (fun v1 x1 => ?_) | (with_reducible refine w_50 (S := upS T (w + 6) i (-1)) hw ?_ (fun T2 x2 => ?_)) | with_reducible refine And.intro ?_ ?_ | with_reducible intro _)
      all_goals (try (first | omega | contradiction | (rw [ln (by omega)]; exact hT) | (rw [ln (fun y => by have := y.2; omega)]; exact hT) | exact hE | exact hl | (rw [t15b, t6, ← e10] at x2; rw [ly ⟨by omega, by omega⟩, ← lg_lv h0 z.2.2]; exact RW_lg hA1 hR1 x2) | exact EW_t hE (EW_t (EW_u EW_r (by omega)) (LGT_EW x2)) | (rw [x2.1 w (by omega) (by omega), ← hl]; exact congrFun (show upS T (w + 6) i (-1) w = T w from if_neg (by omega)) 15) | (rw [s13]; omega)))
    · intro z2 T hT hE hl
      obtain ⟨k1, k2⟩ := lgA_AB hA (r 4).toNat (by omega)
      have t4 : T w 4 = r 4 := hT.1.2.1.trans k2
      rw [a8_2]
      repeat' (first | omega | (exact hK _ hT hE hl) | simp only [w_iconst, w_istore, w_fall, Int.reduceToNat, w_iload, w_aload, x_g804_w0, w_ifc, cI, x_g807_w0, x_iald, w_ialoads, w_ialoadw, w_call, w_if, x_iast, x_g811_w0, x_g812_w0, w_iinc, lgB, Nat.reduceSub, w_goto, w_return, isA_w1, isA_w2, isA_w3, isA_w4, isA_w5, isA_w6, isA_w7, isA_w8, isA_w10, isA_w11, isA_w12, isA_w14, isA_w15, isA_w16, len_w1, len_w2, len_w3, len_w4, len_w5, len_w6, len_w7, len_w8, len_w10, len_w11, len_w12, len_w14, len_w15, len_w16, Int.cast_ofNat_Int, a8_0, a8_53, a8_59, R32, List.getElem?_cons_zero, List.getElem?_cons_succ, List.set_cons_zero, List.set_cons_succ, List.cons_append, List.nil_append, List.replicate_succ, List.replicate_zero, List.take_succ_cons, List.take_zero, List.drop_succ_cons, List.drop_zero, List.reverse_cons, List.reverse_nil, List.length_cons, List.length_nil, Option.toList, true_and, and_true, eq_self, ↓reduceIte, not_true_eq_false, not_false_eq_true, true_or, or_true, hw, up_ne, ne_eq, Nat.reduceEqDiff, not_false_eq_true] | with_reducible refine w_117 hw hT k1 hpi (fun v1 x1 => ?_) | (with_reducible refine w_50 (S := upS T (w + 6) i (-1)) hw ?_ (fun T2 x2 => ?_)) | with_reducible refine And.intro ?_ ?_ | with_reducible intro _)
      all_goals (try (first | omega | contradiction | omega))
  refine Runs.of (al := [vr w]) (n := 2) trivial rfl rfl trivial ?_
  repeat' (first | omega | with_reducible refine hL2 _ _ ?_ ?_ ?_ | simp only [w_iconst, w_istore, w_fall, Int.reduceToNat, w_iload, w_aload, x_g804_w0, w_ifc, cI, x_g807_w0, x_iald, w_ialoads, w_ialoadw, w_call, w_if, x_iast, x_g811_w0, x_g812_w0, w_iinc, lgB, Nat.reduceSub, w_goto, w_return, isA_w1, isA_w2, isA_w3, isA_w4, isA_w5, isA_w6, isA_w7, isA_w8, isA_w10, isA_w11, isA_w12, isA_w14, isA_w15, isA_w16, len_w1, len_w2, len_w3, len_w4, len_w5, len_w6, len_w7, len_w8, len_w10, len_w11, len_w12, len_w14, len_w15, len_w16, Int.cast_ofNat_Int, a8_0, a8_53, a8_59, R32, List.getElem?_cons_zero, List.getElem?_cons_succ, List.set_cons_zero, List.set_cons_succ, List.cons_append, List.nil_append, List.replicate_succ, List.replicate_zero, List.take_succ_cons, List.take_zero, List.drop_succ_cons, List.drop_zero, List.reverse_cons, List.reverse_nil, List.length_cons, List.length_nil, Option.toList, true_and, and_true, eq_self, ↓reduceIte, not_true_eq_false, not_false_eq_true, true_or, or_true, hw] | with_reducible refine And.intro ?_ ?_ | with_reducible intro _)
  all_goals (try (first | omega | (exfalso; assumption) | exact hR | exact EW_r | rfl))
end Days5
