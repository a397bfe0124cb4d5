/-! ===== THE CLASS: it falls ===== -/
/-- the marks of the first people lessened, nobody let go yet -/
def skA (n : Int → Int) (r : Int → Int) : Nat → Int → Int
  | 0 => r
  | k + 1 => if pr (skA n r k) k 1 = -1 then skA n r k else sinkP (skA n r k) k (n k) 0 (pr (skA n r k) k 0)
theorem skA_AB {n : Int → Int} {r : Int → Int} (hA : AB r) (hn : ∀ k, 0 ≤ n k) : ∀ k : Nat, (k : Int) ≤ r 4 → AB (skA n r k) ∧ (skA n r k) 4 = r 4
  | 0, _ => ⟨hA, rfl⟩
  | k + 1, h => by
    obtain ⟨i1, i2⟩ := skA_AB hA hn k (by omega)
    have b4 := hA.2.1.2.1
    have z := AB_pp i1 (p := k) (by omega) (by omega)
    show AB (if pr (skA n r k) k 1 = -1 then skA n r k else sinkP (skA n r k) k (n k) 0 (pr (skA n r k) k 0)) ∧ (if pr (skA n r k) k 1 = -1 then skA n r k else sinkP (skA n r k) k (n k) 0 (pr (skA n r k) k 0)) 4 = r 4
    by_cases y : pr (skA n r k) k 1 = -1
    · rw [if_pos y]; exact ⟨i1, i2⟩
    · rw [if_neg y]
      exact ⟨sinkP_AB (by omega) (by omega) z.1.2 (hn k) i1, (sinkP_o (by omega) (by omega) z.1.2 (by omega)).trans i2⟩
theorem skA_y {n : Int → Int} {r : Int → Int} {i : Int} (h : 0 ≤ i) (y : pr (skA n r i.toNat) i 1 = -1) : skA n r (i + 1).toNat = skA n r i.toNat := by
  rw [show (i + 1).toNat = i.toNat + 1 by omega]
  show (if pr (skA n r i.toNat) (i.toNat : Int) 1 = -1 then _ else _) = _
  rw [Int.toNat_of_nonneg h, if_pos y]
theorem skA_n {n : Int → Int} {r : Int → Int} {i : Int} (h : 0 ≤ i) (y : pr (skA n r i.toNat) i 1 ≠ -1) : skA n r (i + 1).toNat = sinkP (skA n r i.toNat) i (n i) 0 (pr (skA n r i.toNat) i 0) := by
  rw [show (i + 1).toNat = i.toNat + 1 by omega]
  show (if pr (skA n r i.toNat) (i.toNat : Int) 1 = -1 then _ else sinkP _ (i.toNat : Int) (n (i.toNat : Int)) 0 _) = _
  rw [Int.toNat_of_nonneg h, if_neg y]
theorem flV_AB {r : Int → Int} (hA : AB r) : AB (snwP flV r (r 3)) := by
  have b3 := hA.2.1.1
  refine snwP_AB b3.2 (fun f f0 f1 => ?_) hA
  have a := (hA.2.2.2.1 f f0 f1).2.1
  have b := hA.2.1.2.2.2.2.2.2.2.1
  have e : fr r f 1 = r (14 + 3 * f) := congrArg r (by omega)
  unfold flV
  rw [← e]
  split <;> omega
section Days4
variable {tb : Tab} {d : Nat} {m : AM} {K : Out → AM → Prop} {S : Nat → Int → Int} {w : Nat} {r : Int → Int}
theorem k4_0 : pg.1 4 0 = [.bipush 0, .istore 1, .jsr 2] := rfl
theorem a4_0 {tb : Tab} {d : Nat} {K : Out → AM → Prop} {ls st : List AV} {m : AM} : At tb d 4 K 0 ls st m = wpB tb (pg.2.1 4) (Runs tb pg d) K (At tb d 4 K) [.bipush 0, .istore 1, .jsr 2] ls st m := At.eq k4_0
theorem k4_2 : pg.1 4 2 = [.iload 1, .aload 0, .getfield 800, .if_icmp .ge 40, .aload 0, .getfield 802, .iload 1, .bipush 99, .aload 0, .getfield 802, .iload 1, .iaload, .aload 0, .getfield 812, .bipush 0, .iaload, .iadd, .invokestatic 0, .iastore, .iinc 1 1, .goto 2] := rfl
theorem a4_2 {tb : Tab} {d : Nat} {K : Out → AM → Prop} {ls st : List AV} {m : AM} : At tb d 4 K 2 ls st m = wpB tb (pg.2.1 4) (Runs tb pg d) K (At tb d 4 K) [.iload 1, .aload 0, .getfield 800, .if_icmp .ge 40, .aload 0, .getfield 802, .iload 1, .bipush 99, .aload 0, .getfield 802, .iload 1, .iaload, .aload 0, .getfield 812, .bipush 0, .iaload, .iadd, .invokestatic 0, .iastore, .iinc 1 1, .goto 2] ls st m := At.eq k4_2
theorem k4_40 : pg.1 4 40 = [.bipush 0, .istore 1, .jsr 42] := rfl
theorem a4_40 {tb : Tab} {d : Nat} {K : Out → AM → Prop} {ls st : List AV} {m : AM} : At tb d 4 K 40 ls st m = wpB tb (pg.2.1 4) (Runs tb pg d) K (At tb d 4 K) [.bipush 0, .istore 1, .jsr 42] ls st m := At.eq k4_40
theorem k4_42 : pg.1 4 42 = [.iload 1, .aload 0, .getfield 804, .if_icmp .ge 72, .aload 0, .getfield 807, .iload 1, .iaload, .bipush (-1), .if_icmp .eq 66, .aload 0, .iload 1, .bipush 1, .invokeinterface 7 3, .jsr 66] := rfl
theorem a4_42 {tb : Tab} {d : Nat} {K : Out → AM → Prop} {ls st : List AV} {m : AM} : At tb d 4 K 42 ls st m = wpB tb (pg.2.1 4) (Runs tb pg d) K (At tb d 4 K) [.iload 1, .aload 0, .getfield 804, .if_icmp .ge 72, .aload 0, .getfield 807, .iload 1, .iaload, .bipush (-1), .if_icmp .eq 66, .aload 0, .iload 1, .bipush 1, .invokeinterface 7 3, .jsr 66] ls st m := At.eq k4_42
theorem k4_66 : pg.1 4 66 = [.iinc 1 1, .goto 42] := rfl
theorem a4_66 {tb : Tab} {d : Nat} {K : Out → AM → Prop} {ls st : List AV} {m : AM} : At tb d 4 K 66 ls st m = wpB tb (pg.2.1 4) (Runs tb pg d) K (At tb d 4 K) [.iinc 1 1, .goto 42] ls st m := At.eq k4_66
theorem k4_72 : pg.1 4 72 = [.return_] := rfl
theorem a4_72 {tb : Tab} {d : Nat} {K : Out → AM → Prop} {ls st : List AV} {m : AM} : At tb d 4 K 72 ls st m = wpB tb (pg.2.1 4) (Runs tb pg d) K (At tb d 4 K) [.return_] ls st m := At.eq k4_72
theorem w_4 (hw : isW w) (hR : RW S w r) (hA : AB r) (hK : ∀ T, RW T w (skA (fun _ => 1) (snwP flV r (r 3)) (r 4).toNat) → EW S T w → T w 15 = S w 15 → K (.inl none) (X T m)) : Runs tb pg (d + 2) 4 [vr w] (X S m) K := by
  have b3 := hA.2.1.1
  have b4 := hA.2.1.2.1
  have b5 := hA.2.1.2.2.1
  have e0 := hR.1.1
  have e4 := hR.1.2.1
  have hs0 := hR.2.2.2.2.2 0 (by omega) (by omega)
  have b6 := hA.2.1.2.2.2.2.2.2.2.1
  have hs : S (w + 15) 0 = r 6 := hs0
  have hAs := flV_AB hA
  have hq4 : (snwP flV r (r 3)) 4 = r 4 := snwP_o b3.2 (by omega)
  have hRs : RW (snS S w (fun f => flV r (14 + 3 * f)) (r 3)) w (snwP flV r (r 3)) := RW_sn hA hR
  have hL42 : (fun i : Int => ∀ (T : Nat → Int → Int), (RW T w (skA (fun _ => 1) (snwP flV r (r 3)) i.toNat)) → (EW S T w) → (T w 15 = S w 15) → At tb (d + 1) 4 K 42 [vr w, vi i] [] (X T m)) 0 := by
    refine loopZ (fun i : Int => ∀ (T : Nat → Int → Int), (RW T w (skA (fun _ => 1) (snwP flV r (r 3)) i.toNat)) → (EW S T w) → (T w 15 = S w 15) → At tb (d + 1) 4 K 42 [vr w, vi i] [] (X T m)) (r 4) (by omega) ?_ ?_
    · intro i h0 h1 h9 T hT hE hl
      obtain ⟨k1, k2⟩ := skA_AB (n := fun _ => 1) hAs (fun _ => by omega) i.toNat (by omega)
      rw [hq4] at k2
      have t4 : T w 4 = r 4 := hT.1.2.1.trans k2
      have z := AB_pp k1 h0 (by omega)
      have k3 := k1.2.1.1
      have t6 := (hT.2.2.1 i h0 (by omega)).2.1
      have hpi : 0 ≤ i ∧ i < (skA (fun _ => 1) (snwP flV r (r 3)) i.toNat) 4 := by omega
      have n1 : 0 ≤ (1 : Int) ∧ (1 : Int) ≤ 10000 := by omega
      rw [a4_42]
      repeat' (first | omega | with_reducible refine h9 _ ?_ ?_ ?_ | simp only [w_iconst, w_istore, w_fall, Int.reduceToNat, w_iload, w_aload, x_g800_w0, w_ifc, cI, x_g802_w0, x_iald, w_ialoads, w_ialoadw, x_g812_w0, w_iadd, w_min, x_iast, w_iinc, lgB, Nat.reduceSub, w_goto, x_g804_w0, x_g807_w0, w_call, w_return, isA_w1, isA_w2, isA_w3, isA_w4, isA_w5, isA_w6, isA_w7, isA_w8, isA_w10, isA_w11, isA_w12, isA_w14, isA_w15, isA_w16, len_w1, len_w2, len_w3, len_w4, len_w5, len_w6, len_w7, len_w8, len_w10, len_w11, len_w12, len_w14, len_w15, len_w16, Int.cast_ofNat_Int, a4_0, a4_40, a4_66, a4_72, R32, List.getElem?_cons_zero, List.getElem?_cons_succ, List.set_cons_zero, List.set_cons_succ, List.cons_append, List.nil_append, List.replicate_succ, List.replicate_zero, List.take_succ_cons, List.take_zero, List.drop_succ_cons, List.drop_zero, List.reverse_cons, List.reverse_nil, List.length_cons, List.length_nil, Option.toList, true_and, and_true, eq_self, ↓reduceIte, not_true_eq_false, not_false_eq_true, true_or, or_true, hw] | (have q0 : pr (skA (fun _ => 1) (snwP flV r (r 3)) i.toNat) i 1 ≠ -1 := (by omega); (with_reducible refine w_7 hw hT k1 hpi q0 n1 ?_)) | with_reducible refine And.intro ?_ ?_ | with_reducible intro _)
      all_goals (try (first | omega | contradiction | (rw [skA_y h0 (by omega)]; exact hT) | exact hE | exact hl | (rw [skA_n h0 q0]; exact RW_ls k1 hT hpi.1 hpi.2) | exact EW_t hE lsS_EW | (rw [← hl]; rw [lsS_o (by omega)])))
    · intro T hT hE hl
      obtain ⟨k1, k2⟩ := skA_AB (n := fun _ => 1) hAs (fun _ => by omega) (r 4).toNat (by omega)
      rw [hq4] at k2
      have t4 : T w 4 = r 4 := hT.1.2.1.trans k2
      rw [a4_42]
      repeat' (first | omega | (exact hK _ hT hE hl) | simp only [w_iconst, w_istore, w_fall, Int.reduceToNat, w_iload, w_aload, x_g800_w0, w_ifc, cI, x_g802_w0, x_iald, w_ialoads, w_ialoadw, x_g812_w0, w_iadd, w_min, x_iast, w_iinc, lgB, Nat.reduceSub, w_goto, x_g804_w0, x_g807_w0, w_call, w_return, isA_w1, isA_w2, isA_w3, isA_w4, isA_w5, isA_w6, isA_w7, isA_w8, isA_w10, isA_w11, isA_w12, isA_w14, isA_w15, isA_w16, len_w1, len_w2, len_w3, len_w4, len_w5, len_w6, len_w7, len_w8, len_w10, len_w11, len_w12, len_w14, len_w15, len_w16, Int.cast_ofNat_Int, a4_0, a4_40, a4_66, a4_72, R32, List.getElem?_cons_zero, List.getElem?_cons_succ, List.set_cons_zero, List.set_cons_succ, List.cons_append, List.nil_append, List.replicate_succ, List.replicate_zero, List.take_succ_cons, List.take_zero, List.drop_succ_cons, List.drop_zero, List.reverse_cons, List.reverse_nil, List.length_cons, List.length_nil, Option.toList, true_and, and_true, eq_self, ↓reduceIte, not_true_eq_false, not_false_eq_true, true_or, or_true, hw] | (have q0 : pr (skA (fun _ => 1) (snwP flV r (r 3)) i.toNat) i 1 ≠ -1 := (by omega); (with_reducible refine w_7 hw hT k1 hpi q0 n1 ?_)) | with_reducible refine And.intro ?_ ?_ | with_reducible intro _)
      all_goals (try (first | omega | contradiction | omega))
  have hL2 : (fun i : Int => ∀ (T : Nat → Int → Int), (T = snS S w (fun f => flV r (14 + 3 * f)) i) → At tb (d + 1) 4 K 2 [vr w, vi i] [] (X T m)) 0 := by
    refine loopZ (fun i : Int => ∀ (T : Nat → Int → Int), (T = snS S w (fun f => flV r (14 + 3 * f)) i) → At tb (d + 1) 4 K 2 [vr w, vi i] [] (X T m)) (r 3) (by omega) ?_ ?_
    · intro i h0 h1 h9 T hT
      have t0 : T w 0 = S w 0 := by rw [hT, snS_o (by omega)]
      have t2 : T (w + 2) i = S (w + 2) i := by rw [hT, snS_2, if_neg (by omega)]
      have t15 : T (w + 15) 0 = S (w + 15) 0 := by rw [hT, snS_o (by omega)]
      have q2 := (hR.2.1 i h0 h1).2.1
      have z := AB_ff hA h0 h1
      have te : flV r (14 + 3 * i) = if 99 < fr r i 1 + r 6 then 99 else fr r i 1 + r 6 := by
        unfold flV
        rw [show (14 + 3 * i : Int) = 13 + 3 * i + 1 by omega]
        rfl
      rw [a4_2]
      repeat' (first | omega | with_reducible refine h9 _ ?_ | simp only [w_iconst, w_istore, w_fall, Int.reduceToNat, w_iload, w_aload, x_g800_w0, w_ifc, cI, x_g802_w0, x_iald, w_ialoads, w_ialoadw, x_g812_w0, w_iadd, w_min, x_iast, w_iinc, lgB, Nat.reduceSub, w_goto, x_g804_w0, x_g807_w0, w_call, w_return, isA_w1, isA_w2, isA_w3, isA_w4, isA_w5, isA_w6, isA_w7, isA_w8, isA_w10, isA_w11, isA_w12, isA_w14, isA_w15, isA_w16, len_w1, len_w2, len_w3, len_w4, len_w5, len_w6, len_w7, len_w8, len_w10, len_w11, len_w12, len_w14, len_w15, len_w16, Int.cast_ofNat_Int, a4_0, a4_40, a4_66, a4_72, R32, List.getElem?_cons_zero, List.getElem?_cons_succ, List.set_cons_zero, List.set_cons_succ, List.cons_append, List.nil_append, List.replicate_succ, List.replicate_zero, List.take_succ_cons, List.take_zero, List.drop_succ_cons, List.drop_zero, List.reverse_cons, List.reverse_nil, List.length_cons, List.length_nil, Option.toList, true_and, and_true, eq_self, ↓reduceIte, not_true_eq_false, not_false_eq_true, true_or, or_true, hw] | with_reducible refine And.intro ?_ ?_ | with_reducible intro _)
      all_goals (try (first | omega | contradiction | (refine snS_s h0 hT ?_; show _ = flV r (14 + 3 * i); rw [te]; grind) | grind))
    · intro T hT
      have t0 : T w 0 = S w 0 := by rw [hT, snS_o (by omega)]
      rw [a4_2]
      repeat' (first | omega | (refine hL42 _ ?_ ?_ ?_) | simp only [w_iconst, w_istore, w_fall, Int.reduceToNat, w_iload, w_aload, x_g800_w0, w_ifc, cI, x_g802_w0, x_iald, w_ialoads, w_ialoadw, x_g812_w0, w_iadd, w_min, x_iast, w_iinc, lgB, Nat.reduceSub, w_goto, x_g804_w0, x_g807_w0, w_call, w_return, isA_w1, isA_w2, isA_w3, isA_w4, isA_w5, isA_w6, isA_w7, isA_w8, isA_w10, isA_w11, isA_w12, isA_w14, isA_w15, isA_w16, len_w1, len_w2, len_w3, len_w4, len_w5, len_w6, len_w7, len_w8, len_w10, len_w11, len_w12, len_w14, len_w15, len_w16, Int.cast_ofNat_Int, a4_0, a4_40, a4_66, a4_72, R32, List.getElem?_cons_zero, List.getElem?_cons_succ, List.set_cons_zero, List.set_cons_succ, List.cons_append, List.nil_append, List.replicate_succ, List.replicate_zero, List.take_succ_cons, List.take_zero, List.drop_succ_cons, List.drop_zero, List.reverse_cons, List.reverse_nil, List.length_cons, List.length_nil, Option.toList, true_and, and_true, eq_self, ↓reduceIte, not_true_eq_false, not_false_eq_true, true_or, or_true, hw] | with_reducible refine And.intro ?_ ?_ | with_reducible intro _)
      all_goals (try (first | omega | contradiction | (rw [hT]; exact hRs) | (rw [hT]; exact snS_EW) | (rw [hT, snS_o (by omega)])))
  refine Runs.of (al := [vr w]) (n := 1) trivial rfl rfl trivial ?_
  repeat' (first | omega | with_reducible refine hL2 _ ?_ | simp only [w_iconst, w_istore, w_fall, Int.reduceToNat, w_iload, w_aload, x_g800_w0, w_ifc, cI, x_g802_w0, x_iald, w_ialoads, w_ialoadw, x_g812_w0, w_iadd, w_min, x_iast, w_iinc, lgB, Nat.reduceSub, w_goto, x_g804_w0, x_g807_w0, w_call, w_return, isA_w1, isA_w2, isA_w3, isA_w4, isA_w5, isA_w6, isA_w7, isA_w8, isA_w10, isA_w11, isA_w12, isA_w14, isA_w15, isA_w16, len_w1, len_w2, len_w3, len_w4, len_w5, len_w6, len_w7, len_w8, len_w10, len_w11, len_w12, len_w14, len_w15, len_w16, Int.cast_ofNat_Int, a4_0, a4_40, a4_66, a4_72, R32, List.getElem?_cons_zero, List.getElem?_cons_succ, List.set_cons_zero, List.set_cons_succ, List.cons_append, List.nil_append, List.replicate_succ, List.replicate_zero, List.take_succ_cons, List.take_zero, List.drop_succ_cons, List.drop_zero, List.reverse_cons, List.reverse_nil, List.length_cons, List.length_nil, Option.toList, true_and, and_true, eq_self, ↓reduceIte, not_true_eq_false, not_false_eq_true, true_or, or_true, hw] | with_reducible refine And.intro ?_ ?_ | with_reducible intro _)
  all_goals (try (first | omega | (exfalso; assumption) | exact snS_0))
end Days4
