/-! ===== THE CLASS: the wind ===== -/
theorem RW_on {S : Nat → Int → Int} {w : Nat} {r : Int → Int} {p f9 : Int} (hA : AB r) (hR : RW S w r) (h0 : 0 ≤ p) (h1 : p < r 4) (hon : pr r p 1 ≠ -1) : RW (upS S (w + 6) p f9) w (putR r (31 + 20 * p + 1) f9) := by
  obtain ⟨⟨c0, c1, c2, c3⟩, cf, cp, cd, cl, cs⟩ := hR
  have z := AB_pp hA h0 h1
  have b3 := hA.2.1.1
  have b4 := hA.2.1.2.1
  have b5 := hA.2.1.2.2.1
  have b11 := hA.2.1.2.2.2.2.2.2.1
  have e : ∀ j, j < 31 ∨ 151 ≤ j → putR r (31 + 20 * p + 1) f9 j = r j := fun j hj => if_neg (by omega)
  have o : ∀ k : Nat, k ≠ 6 → upS S (w + 6) p f9 (w + k) = S (w + k) := fun k hk => if_neg (by omega)
  have o0 : upS S (w + 6) p f9 w = S w := if_neg (by omega)
  refine ⟨?_, fun f f0 f1 => ?_, fun q q0 q1 => ?_, ⟨?_, fun k k0 k1 => ?_⟩, ⟨?_, fun k c k0 k1 c0 c1 => ?_⟩, fun j j0 j1 => ?_⟩
  · rw [o0, e 3 (by omega), e 4 (by omega), e 12 (by omega), e 0 (by omega)]; exact ⟨c0, c1, c2, c3⟩
  · rw [e 3 (by omega)] at f1
    have w9 : ∀ a, 0 ≤ a → a < 3 → fr (putR r (31 + 20 * p + 1) f9) f a = fr r f a := fun a a0 a1 => e _ (by omega)
    rw [o 1 (by decide), o 2 (by decide), o 3 (by decide), w9 0 (by decide) (by decide), w9 1 (by decide) (by decide), w9 2 (by decide) (by decide)]
    exact cf f f0 f1
  · rw [e 4 (by omega)] at q1
    have zq := AB_pp hA q0 q1
    obtain ⟨d1, d2, d3, d4⟩ := cp q q0 q1
    have s : ∀ k, 0 ≤ k → k < 20 → pr (putR r (31 + 20 * p + 1) f9) q k = if q = p ∧ k = 1 then f9 else pr r q k := fun k k0 k1 => by
      unfold pr putR
      by_cases y : q = p ∧ k = 1
      · rw [if_pos y, if_pos (by omega)]
      · rw [if_neg y, if_neg (by omega)]
    have s2 : ∀ k, 0 ≤ k → k < 20 → k ≠ 1 → pr (putR r (31 + 20 * p + 1) f9) q k = pr r q k := fun k k0 k1 k2 => by rw [s k k0 k1, if_neg (fun x => k2 x.2)]
    rw [s2 0 (by omega) (by omega) (by omega), o 4 (by decide), o 5 (by decide), o 7 (by decide), o 8 (by decide)]
    refine ⟨d1, ?_, fun k k0 k1 => ?_, fun hq k k0 k1 => ?_⟩
    · rw [upS_at, s 1 (by omega) (by omega)]
      by_cases y : q = p
      · rw [if_pos ⟨rfl, y⟩, if_pos ⟨y, rfl⟩]
      · rw [if_neg (fun x => y x.2), if_neg (fun x => y x.1)]; exact d2
    · rw [s2 _ (by omega) (by omega) (by omega)]; exact d3 k k0 k1
    · rw [s2 _ (by omega) (by omega) (by omega), s2 _ (by omega) (by omega) (by omega)]
      refine d4 (fun y => ?_) k k0 k1
      by_cases x : q = p
      · subst x; exact hon y
      · rw [s 1 (by omega) (by omega), if_neg (fun c => x c.1)] at hq; exact hq y
  · rw [o 9 (by decide), e 5 (by omega)]; exact cd.1
  · rw [e 5 (by omega)] at k1
    have w9 : ∀ a, 0 ≤ a → dr (putR r (31 + 20 * p + 1) f9) k a = dr r k a := fun a a0 => e _ (by omega)
    rw [o 10 (by decide), o 11 (by decide), o 12 (by decide), w9 0 (by decide), w9 1 (by decide), w9 2 (by decide)]
    exact cd.2 k k0 k1
  · rw [o 13 (by decide), e 11 (by omega)]; exact cl.1
  · rw [e 11 (by omega)] at k1 ⊢
    have w9 : gr (putR r (31 + 20 * p + 1) f9) k c = gr r k c := e _ (by omega)
    rw [o 14 (by decide), w9]
    exact cl.2 k c k0 k1 c0 c1
  · rw [o 15 (by decide), e _ (by omega)]; exact cs j j0 j1
theorem blwN_t {r : Int → Int} {i : Int} (h : 0 ≤ i) : blwN r (i + 1).toNat = if pr (blwN r i.toNat) i 1 = -1 then blwN r i.toNat else if 0 < fr (blwN r i.toNat) ((pr (blwN r i.toNat) i 1 + 1) % r 3) 1 then putR (blwN r i.toNat) (31 + 20 * i + 1) ((pr (blwN r i.toNat) i 1 + 1) % r 3) else leavesR (logsR (blwN r i.toNat) i 4 (pr (blwN r i.toNat) i 1)) i := by
  rw [show (i + 1).toNat = i.toNat + 1 by omega]
  show (if pr (blwN r i.toNat) (i.toNat : Int) 1 = -1 then _ else if 0 < fr (blwN r i.toNat) ((pr (blwN r i.toNat) (i.toNat : Int) 1 + 1) % r 3) 1 then putR _ (31 + 20 * (i.toNat : Int) + 1) _ else leavesR (logsR _ (i.toNat : Int) 4 _) (i.toNat : Int)) = _
  rw [Int.toNat_of_nonneg h]
theorem mod_nx {f n : Int} (h0 : 0 ≤ f) (h1 : f < n) : (f + 1) % n = if f + 1 < n then f + 1 else 0 := by
  split
  · exact Int.emod_eq_of_lt (by omega) (by omega)
  · rw [show f + 1 = n by omega]; exact Int.emod_self
section Days6
variable {tb : Tab} {d : Nat} {m : AM} {K : Out → AM → Prop} {S : Nat → Int → Int} {w : Nat} {r : Int → Int}
theorem k11_0 : pg.1 11 0 = [.bipush 0, .istore 1, .jsr 2] := rfl
theorem a11_0 {tb : Tab} {d : Nat} {K : Out → AM → Prop} {ls st : List AV} {m : AM} : At tb d 11 K 0 ls st m = wpB tb (pg.2.1 11) (Runs tb pg d) K (At tb d 11 K) [.bipush 0, .istore 1, .jsr 2] ls st m := At.eq k11_0
theorem k11_2 : pg.1 11 2 = [.iload 1, .aload 0, .getfield 804, .if_icmp .ge 88, .aload 0, .getfield 807, .iload 1, .iaload, .istore 2, .iload 2, .bipush (-1), .if_icmp .eq 82, .iload 2, .bipush 1, .iadd, .aload 0, .getfield 800, .if_icmp .ge 38, .iload 2, .bipush 1, .iadd, .goto 39] := rfl
theorem a11_2 {tb : Tab} {d : Nat} {K : Out → AM → Prop} {ls st : List AV} {m : AM} : At tb d 11 K 2 ls st m = wpB tb (pg.2.1 11) (Runs tb pg d) K (At tb d 11 K) [.iload 1, .aload 0, .getfield 804, .if_icmp .ge 88, .aload 0, .getfield 807, .iload 1, .iaload, .istore 2, .iload 2, .bipush (-1), .if_icmp .eq 82, .iload 2, .bipush 1, .iadd, .aload 0, .getfield 800, .if_icmp .ge 38, .iload 2, .bipush 1, .iadd, .goto 39] ls st m := At.eq k11_2
theorem k11_38 : pg.1 11 38 = [.bipush 0, .jsr 39] := rfl
theorem a11_38 {tb : Tab} {d : Nat} {K : Out → AM → Prop} {ls st : List AV} {m : AM} : At tb d 11 K 38 ls st m = wpB tb (pg.2.1 11) (Runs tb pg d) K (At tb d 11 K) [.bipush 0, .jsr 39] ls st m := At.eq k11_38
theorem k11_39 : pg.1 11 39 = [.istore 3, .aload 0, .getfield 802, .iload 3, .iaload, .ifCond .le 59, .aload 0, .getfield 807, .iload 1, .iload 3, .iastore, .goto 82] := rfl
theorem a11_39 {tb : Tab} {d : Nat} {K : Out → AM → Prop} {ls st : List AV} {m : AM} : At tb d 11 K 39 ls st m = wpB tb (pg.2.1 11) (Runs tb pg d) K (At tb d 11 K) [.istore 3, .aload 0, .getfield 802, .iload 3, .iaload, .ifCond .le 59, .aload 0, .getfield 807, .iload 1, .iload 3, .iastore, .goto 82] ls st m := At.eq k11_39
theorem k11_59 : pg.1 11 59 = [.aload 0, .getfield 807, .iload 1, .bipush (-1), .iastore, .aload 0, .getfield 811, .aload 0, .getfield 812, .bipush 4, .iaload, .iload 1, .bipush 4, .iload 2, .invokeinterface 50 5, .jsr 82] := rfl
theorem a11_59 {tb : Tab} {d : Nat} {K : Out → AM → Prop} {ls st : List AV} {m : AM} : At tb d 11 K 59 ls st m = wpB tb (pg.2.1 11) (Runs tb pg d) K (At tb d 11 K) [.aload 0, .getfield 807, .iload 1, .bipush (-1), .iastore, .aload 0, .getfield 811, .aload 0, .getfield 812, .bipush 4, .iaload, .iload 1, .bipush 4, .iload 2, .invokeinterface 50 5, .jsr 82] ls st m := At.eq k11_59
theorem k11_82 : pg.1 11 82 = [.iinc 1 1, .goto 2] := rfl
theorem a11_82 {tb : Tab} {d : Nat} {K : Out → AM → Prop} {ls st : List AV} {m : AM} : At tb d 11 K 82 ls st m = wpB tb (pg.2.1 11) (Runs tb pg d) K (At tb d 11 K) [.iinc 1 1, .goto 2] ls st m := At.eq k11_82
theorem k11_88 : pg.1 11 88 = [.return_] := rfl
theorem a11_88 {tb : Tab} {d : Nat} {K : Out → AM → Prop} {ls st : List AV} {m : AM} : At tb d 11 K 88 ls st m = wpB tb (pg.2.1 11) (Runs tb pg d) K (At tb d 11 K) [.return_] ls st m := At.eq k11_88
theorem w_11 (hw : isW w) (hR : RW S w r) (hA : AB r) (hK : ∀ T, RW T w (blowsR r) → EW S T w → T w 15 = S w 15 → K (.inl none) (X T m)) : Runs tb pg (d + 2) 11 [vr w] (X S m) K := by
  have b3 := hA.2.1.1
  have b4 := hA.2.1.2.1
  have b5 := hA.2.1.2.2.1
  have e0 := hR.1.1
  have e4 := hR.1.2.1
  have hL2 : (fun i : Int => ∀ (z2 : AV) (z3 : AV) (T : Nat → Int → Int), (RW T w (blwN r i.toNat)) → (EW S T w) → (T w 15 = S w 15) → At tb (d + 1) 11 K 2 [vr w, vi i, z2, z3] [] (X T m)) 0 := by
    refine loopZ (fun i : Int => ∀ (z2 : AV) (z3 : AV) (T : Nat → Int → Int), (RW T w (blwN r i.toNat)) → (EW S T w) → (T w 15 = S w 15) → At tb (d + 1) 11 K 2 [vr w, vi i, z2, z3] [] (X T m)) (r 4) (by omega) ?_ ?_
    · intro i h0 h1 h9 z2 z3 T hT hE hl
      obtain ⟨k1, kf, k2⟩ := blwN_AB hA i.toNat (by omega)
      obtain ⟨q, hq⟩ : ∃ q, q = blwN r i.toNat := ⟨_, rfl⟩
      have ly := blwN_t (r := r) h0
      rw [← hq] at k1 kf k2 hT ly
      have t4 : T w 4 = r 4 := hT.1.2.1.trans k2
      have z := AB_pp k1 h0 (by omega)
      have k3 := k1.2.1.1
      have t6 := (hT.2.2.1 i h0 (by omega)).2.1
      have hpi : 0 ≤ i ∧ i < q 4 := by omega
      have t0 : T w 0 = r 3 := hT.1.1.trans kf
      have t2 : ∀ f, 0 ≤ f → f < r 3 → T (w + 2) f = fr q f 1 ∧ 0 ≤ fr q f 1 ∧ fr q f 1 ≤ 99 := fun f f0 f1 => ⟨(hT.2.1 f f0 (by omega)).2.1, (AB_ff k1 f0 (by omega)).2.1⟩
      have mx := fun (x : pr q i 1 ≠ -1) => mod_nx (f := pr q i 1) (n := r 3) (by omega) (by omega)
      have u0 := fun (x : pr q i 1 ≠ -1) => t2 0 (by omega) (by omega)
      have u1 := fun (x : pr q i 1 ≠ -1) (y : pr q i 1 + 1 < r 3) => t2 (pr q i 1 + 1) (by omega) y
      have ll := leftM_le (P := pr q) (p := i) (n := pr q i 0) (by omega)
      have t15 := hT.2.2.2.2.2 4 (by omega) (by omega)
      have t15b : T (w + 15) 4 = q 10 := t15
      have t13 := hT.2.2.2.2.1.1
      have b11 := k1.2.1.2.2.2.2.2.2.1
      have hR1 := RW_lv k1 hT hpi.1 hpi.2
      have hA1 := leavesR_AB h0 z.2.2 k1
      have e10 : leavesR q i 10 = q 10 := leavesR_o h0 z.2.2 (by omega)
      have u2 : T (w + 2) (T (w + 6) i + 1) = T (w + 2) (pr q i 1 + 1) := by rw [t6]
      have s13 : upS T (w + 6) i (-1) (w + 13) 0 = q 11 := by rw [up_ne (by omega)]; exact t13
      rw [a11_2]
      repeat' (first | omega | with_reducible refine h9 _ _ _ ?_ ?_ ?_ | simp only [w_iconst, w_istore, w_fall, Int.reduceToNat, w_iload, w_aload, x_g804_w0, w_ifc, cI, x_g807_w0, x_iald, w_ialoads, w_ialoadw, w_iadd, x_g800_w0, w_goto, x_g802_w0, w_if, x_iast, x_g811_w0, x_g812_w0, w_call, w_iinc, lgB, Nat.reduceSub, w_return, isA_w1, isA_w2, isA_w3, isA_w4, isA_w5, isA_w6, isA_w7, isA_w8, isA_w10, isA_w11, isA_w12, isA_w14, isA_w15, isA_w16, len_w1, len_w2, len_w3, len_w4, len_w5, len_w6, len_w7, len_w8, len_w10, len_w11, len_w12, len_w14, len_w15, len_w16, Int.cast_ofNat_Int, a11_0, a11_38, a11_39, a11_59, a11_82, a11_88, R32, List.getElem?_cons_zero, List.getElem?_cons_succ, List.set_cons_zero, List.set_cons_succ, List.cons_append, List.nil_append, List.replicate_succ, List.replicate_zero, List.take_succ_cons, List.take_zero, List.drop_succ_cons, List.drop_zero, List.reverse_cons, List.reverse_nil, List.length_cons, List.length_nil, Option.toList, true_and, and_true, eq_self, ↓reduceIte, not_true_eq_false, not_false_eq_true, true_or, or_true, hw, up_ne, ne_eq, Nat.reduceEqDiff, not_false_eq_true] | (with_reducible refine w_50 (S := upS T (w + 6) i (-1)) hw ?_ (fun T2 x2 => ?_)) | with_reducible refine And.intro ?_ ?_ | with_reducible intro _)
      all_goals (try (first | omega | contradiction | (rw [ly, if_pos (by omega)]; exact hT) | exact hE | exact hl | exact EW_t hE (EW_t (EW_u EW_r (by omega)) (LGT_EW x2)) | exact EW_t hE (EW_u EW_r (by omega)) | (rw [x2.1 w (by omega) (by omega), ← hl]; exact congrFun (show upS T (w + 6) i (-1) w = T w from if_neg (by omega)) 15) | (rw [← hl]; exact congrFun (if_neg (by omega)) 15) | (rw [s13]; omega) | (have x : pr q i 1 ≠ -1 := (by omega); have m9 := mx x; have u9 := u0 x; first | (rw [if_pos (by omega)] at m9; have u8 := u1 x (by omega); first | omega | (rw [ly, if_neg x, m9, if_pos (by omega), ← t6]; exact RW_on k1 hT hpi.1 hpi.2 x) | (rw [t15b, t6, ← e10] at x2; rw [ly, if_neg x, m9, if_neg (by omega), ← lg_lv h0 z.2.2]; exact RW_lg hA1 hR1 x2)) | (rw [if_neg (by omega)] at m9; first | omega | (rw [ly, if_neg x, m9, if_pos (by omega)]; exact RW_on k1 hT hpi.1 hpi.2 x) | (rw [t15b, t6, ← e10] at x2; rw [ly, if_neg x, m9, if_neg (by omega), ← lg_lv h0 z.2.2]; exact RW_lg hA1 hR1 x2)))))
    · intro z2 z3 T hT hE hl
      obtain ⟨k1, kf, k2⟩ := blwN_AB hA (r 4).toNat (by omega)
      have t4 : T w 4 = r 4 := hT.1.2.1.trans k2
      rw [a11_2]
      repeat' (first | omega | (exact hK _ hT hE hl) | simp only [w_iconst, w_istore, w_fall, Int.reduceToNat, w_iload, w_aload, x_g804_w0, w_ifc, cI, x_g807_w0, x_iald, w_ialoads, w_ialoadw, w_iadd, x_g800_w0, w_goto, x_g802_w0, w_if, x_iast, x_g811_w0, x_g812_w0, w_call, w_iinc, lgB, Nat.reduceSub, w_return, isA_w1, isA_w2, isA_w3, isA_w4, isA_w5, isA_w6, isA_w7, isA_w8, isA_w10, isA_w11, isA_w12, isA_w14, isA_w15, isA_w16, len_w1, len_w2, len_w3, len_w4, len_w5, len_w6, len_w7, len_w8, len_w10, len_w11, len_w12, len_w14, len_w15, len_w16, Int.cast_ofNat_Int, a11_0, a11_38, a11_39, a11_59, a11_82, a11_88, R32, List.getElem?_cons_zero, List.getElem?_cons_succ, List.set_cons_zero, List.set_cons_succ, List.cons_append, List.nil_append, List.replicate_succ, List.replicate_zero, List.take_succ_cons, List.take_zero, List.drop_succ_cons, List.drop_zero, List.reverse_cons, List.reverse_nil, List.length_cons, List.length_nil, Option.toList, true_and, and_true, eq_self, ↓reduceIte, not_true_eq_false, not_false_eq_true, true_or, or_true, hw, up_ne, ne_eq, Nat.reduceEqDiff, not_false_eq_true] | (with_reducible refine w_50 (S := upS T (w + 6) i (-1)) hw ?_ (fun T2 x2 => ?_)) | with_reducible refine And.intro ?_ ?_ | with_reducible intro _)
      all_goals (try (first | omega | contradiction | omega))
  refine Runs.of (al := [vr w]) (n := 3) trivial rfl rfl trivial ?_
  repeat' (first | omega | with_reducible refine hL2 _ _ _ ?_ ?_ ?_ | simp only [w_iconst, w_istore, w_fall, Int.reduceToNat, w_iload, w_aload, x_g804_w0, w_ifc, cI, x_g807_w0, x_iald, w_ialoads, w_ialoadw, w_iadd, x_g800_w0, w_goto, x_g802_w0, w_if, x_iast, x_g811_w0, x_g812_w0, w_call, w_iinc, lgB, Nat.reduceSub, w_return, isA_w1, isA_w2, isA_w3, isA_w4, isA_w5, isA_w6, isA_w7, isA_w8, isA_w10, isA_w11, isA_w12, isA_w14, isA_w15, isA_w16, len_w1, len_w2, len_w3, len_w4, len_w5, len_w6, len_w7, len_w8, len_w10, len_w11, len_w12, len_w14, len_w15, len_w16, Int.cast_ofNat_Int, a11_0, a11_38, a11_39, a11_59, a11_82, a11_88, R32, List.getElem?_cons_zero, List.getElem?_cons_succ, List.set_cons_zero, List.set_cons_succ, List.cons_append, List.nil_append, List.replicate_succ, List.replicate_zero, List.take_succ_cons, List.take_zero, List.drop_succ_cons, List.drop_zero, List.reverse_cons, List.reverse_nil, List.length_cons, List.length_nil, Option.toList, true_and, and_true, eq_self, ↓reduceIte, not_true_eq_false, not_false_eq_true, true_or, or_true, hw] | with_reducible refine And.intro ?_ ?_ | with_reducible intro _)
  all_goals (try (first | omega | (exfalso; assumption) | exact hR | exact EW_r | rfl))
end Days6
