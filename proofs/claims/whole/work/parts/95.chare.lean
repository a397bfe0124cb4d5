/-! ===== THE CLASS: a day goes by ===== -/
theorem on_bit {r : Int → Int} (h : AB r) {i : Int} (i0 : 0 ≤ i) (i1 : i < r 4) : bitB (onS r) i ↔ pr r i 1 ≠ -1 := by
  have b4 := h.2.1.2.1
  exact bit_set (c := fun p => pr r p 1 ≠ -1) (by omega) i0 i1
theorem on_cnt {r : Int → Int} (h : AB r) {i : Int} (i0 : 0 ≤ i) (i1 : i < r 4) : bitsM (onS r) (i + 1) = bitsM (onS r) i + if pr r i 1 ≠ -1 then 1 else 0 := by
  rw [bitsM_s i0]
  have o := on_bit h i0 i1
  have a := andI_1 (shrI (onS r) i)
  by_cases z : pr r i 1 ≠ -1
  · rw [if_pos z]
    have : andI (shrI (onS r) i) 1 = 1 := o.mpr z
    omega
  · rw [if_neg z]
    have : ¬ andI (shrI (onS r) i) 1 = 1 := fun y => z (o.mp y)
    omega
theorem on_all {r : Int → Int} (h : AB r) : bitsM (onS r) (r 4) = bitsM (onS r) 31 := by
  have b4 := h.2.1.2.1
  have rg := on_rg h
  have g : ∀ k : Nat, r 4 + k ≤ 31 → bitsM (onS r) (r 4 + k) = bitsM (onS r) (r 4) := by
    intro k
    induction k with
    | zero => intro _; rw [show r 4 + ((0 : Nat) : Int) = r 4 by omega]
    | succ k ih =>
      intro hk
      rw [show r 4 + ((k + 1 : Nat) : Int) = (r 4 + k) + 1 by omega, bitsM_s (by omega), ih (by omega)]
      have a := andI_1 (shrI (onS r) (r 4 + k))
      have nb : ¬ bitB (onS r) (r 4 + k) := fun y => by
        have z := bit_31 rg.1 rg.2 (by omega) (by omega) y
        have m := (on_mem h (by omega) (by omega) y).1
        omega
      have : ¬ andI (shrI (onS r) (r 4 + k)) 1 = 1 := nb
      omega
  have := g (31 - r 4).toNat (by omega)
  rw [show r 4 + ((31 - r 4).toNat : Int) = 31 by omega] at this
  exact this.symm
theorem bitsM_0 {s : Int} : bitsM s 0 = 0 := rfl
theorem on_none {r : Int → Int} (h : AB r) : onS r = 0 ↔ bitsM (onS r) 31 = 0 := by
  constructor
  · intro e; rw [e]; exact bits_zero
  · intro e
    refine Decidable.byContradiction fun hs => ?_
    obtain ⟨j, j0, j1, j2⟩ := on_ex h hs
    have := bits_pos j0 (by omega : j < 31) j2
    omega
/-- a letter of one that is on a field altered -/
theorem RW_mk {S : Nat → Int → Int} {w : Nat} {r : Int → Int} {p k v : Int} (hA : AB r) (hR : RW S w r) (h0 : 0 ≤ p) (h1 : p < r 4) (k0 : 0 ≤ k) (k1 : k < 6) : RW (upS S (w + 7) (6 * p + k) v) w (putR r (31 + 20 * p + (8 + k)) v) := by
  obtain ⟨⟨c0, c1, c2, c3⟩, cf, cp, cd, cl, cs⟩ := hR
  have z := AB_pp hA h0 h1
  have b3 := hA.2.1.1
  have b4 := hA.2.1.2.1
  have b5 := hA.2.1.2.2.1
  have b11 := hA.2.1.2.2.2.2.2.2.1
  have e : ∀ j, j < 31 ∨ 151 ≤ j → putR r (31 + 20 * p + (8 + k)) v j = r j := fun j hj => if_neg (by omega)
  have o : ∀ a : Nat, a ≠ 7 → upS S (w + 7) (6 * p + k) v (w + a) = S (w + a) := fun a ha => if_neg (by omega)
  have o0 : upS S (w + 7) (6 * p + k) v w = S w := if_neg (by omega)
  refine ⟨?_, fun f f0 f1 => ?_, fun q q0 q1 => ?_, ⟨?_, fun a a0 a1 => ?_⟩, ⟨?_, fun a c a0 a1 c0 c1 => ?_⟩, fun j j0 j1 => ?_⟩
  · rw [o0, e 3 (by omega), e 4 (by omega), e 12 (by omega), e 0 (by omega)]; exact ⟨c0, c1, c2, c3⟩
  · rw [e 3 (by omega)] at f1
    have w9 : ∀ a, 0 ≤ a → a < 3 → fr (putR r (31 + 20 * p + (8 + k)) v) f a = fr r f a := fun a a0 a1 => e _ (by omega)
    rw [o 1 (by decide), o 2 (by decide), o 3 (by decide), w9 0 (by decide) (by decide), w9 1 (by decide) (by decide), w9 2 (by decide) (by decide)]
    exact cf f f0 f1
  · rw [e 4 (by omega)] at q1
    have zq := AB_pp hA q0 q1
    obtain ⟨d1, d2, d3, d4⟩ := cp q q0 q1
    have s : ∀ b, 0 ≤ b → b < 20 → pr (putR r (31 + 20 * p + (8 + k)) v) q b = if q = p ∧ b = 8 + k then v else pr r q b := fun b b0 b1 => by
      unfold pr putR
      by_cases y : q = p ∧ b = 8 + k
      · rw [if_pos y, if_pos (by omega)]
      · rw [if_neg y, if_neg (by omega)]
    have s2 : ∀ b, 0 ≤ b → b < 20 → b ≠ 8 + k → pr (putR r (31 + 20 * p + (8 + k)) v) q b = pr r q b := fun b b0 b1 b2 => by rw [s b b0 b1, if_neg (fun x => b2 x.2)]
    rw [s2 0 (by omega) (by omega) (by omega), s2 1 (by omega) (by omega) (by omega), o 4 (by decide), o 5 (by decide), o 6 (by decide), o 8 (by decide)]
    refine ⟨d1, d2, fun a a0 a1 => ?_, fun hq a a0 a1 => ?_⟩
    · rw [s2 _ (by omega) (by omega) (by omega)]; exact d3 a a0 a1
    · have dd := d4 hq a a0 a1
      rw [s2 (14 + a) (by omega) (by omega) (by omega), s (8 + a) (by omega) (by omega), upS_at]
      refine ⟨?_, dd.2⟩
      by_cases y : q = p ∧ a = k
      · rw [if_pos ⟨rfl, by omega⟩, if_pos (by omega)]
      · rw [if_neg (by omega), if_neg (by omega)]; exact dd.1
  · rw [o 9 (by decide), e 5 (by omega)]; exact cd.1
  · rw [e 5 (by omega)] at a1
    have w9 : ∀ b, 0 ≤ b → dr (putR r (31 + 20 * p + (8 + k)) v) a b = dr r a b := fun b b0 => e _ (by omega)
    rw [o 10 (by decide), o 11 (by decide), o 12 (by decide), w9 0 (by decide), w9 1 (by decide), w9 2 (by decide)]
    exact cd.2 a a0 a1
  · rw [o 13 (by decide), e 11 (by omega)]; exact cl.1
  · rw [e 11 (by omega)] at a1 ⊢
    have w9 : gr (putR r (31 + 20 * p + (8 + k)) v) a c = gr r a c := e _ (by omega)
    rw [o 14 (by decide), w9]
    exact cl.2 a c a0 a1 c0 c1
  · rw [o 15 (by decide), e _ (by omega)]; exact cs j j0 j1
theorem sn_lg {r : Int → Int} (hA : AB r) : snwP thV (skA (nT r) r (r 4).toNat) (r 3) = skA (nT r) (snwP thV r (r 3)) (r 4).toNat := by
  have b3 := hA.2.1.1
  have b4 := hA.2.1.2.1
  exact sn_sk b3.2 hA _ (by omega)
theorem th_row {r : Int → Int} (hA : AB r) : AB (skA (nT r) (snwP thV r (r 3)) (r 4).toNat) ∧ (skA (nT r) (snwP thV r (r 3)) (r 4).toNat) 4 = r 4 := by
  have b3 := hA.2.1.1
  have b4 := hA.2.1.2.1
  have e : (snwP thV r (r 3)) 4 = r 4 := snwP_o b3.2 (by omega)
  have := skA_AB (n := nT r) (thV_AB hA) (fun _ => nT_0) (r 4).toNat (by omega)
  exact ⟨this.1, this.2.trans e⟩
theorem fl_row {r : Int → Int} (hA : AB r) : AB (skA (fun _ => 1) (snwP flV r (r 3)) (r 4).toNat) ∧ (skA (fun _ => 1) (snwP flV r (r 3)) (r 4).toNat) 4 = r 4 := by
  have b3 := hA.2.1.1
  have b4 := hA.2.1.2.1
  have e : (snwP flV r (r 3)) 4 = r 4 := snwP_o b3.2 (by omega)
  have := skA_AB (n := fun _ => 1) (flV_AB hA) (fun _ => by decide) (r 4).toNat (by omega)
  exact ⟨this.1, this.2.trans e⟩
theorem pass0 {r : Int → Int} : passR evL 0 r = st4 (thawsR evL r) := by
  unfold passR
  have e1 : st1 evL 0 r = thawsR evL r := by
    rw [st1_n (fun y => y.1 rfl), st0_0 rfl]
  rw [e1]
  unfold st3 st2
  rw [if_pos rfl, if_pos rfl]
theorem haresR_eq {r : Int → Int} {p : Int} (hp : p = oneF (onS r) (drawV r % bitsM (onS r) 31)) : haresR r = hareR (drawR r) p := by rw [hp]; rfl
section Days8
variable {tb : Tab} {d : Nat} {m : AM} {K : Out → AM → Prop} {S : Nat → Int → Int} {w : Nat} {r : Int → Int}
theorem k10_0 : pg.1 10 0 = [.bipush 0, .istore 2, .bipush 0, .istore 3, .jsr 4] := rfl
theorem a10_0 {tb : Tab} {d : Nat} {K : Out → AM → Prop} {ls st : List AV} {m : AM} : At tb d 10 K 0 ls st m = wpB tb (pg.2.1 10) (Runs tb pg d) K (At tb d 10 K) [.bipush 0, .istore 2, .bipush 0, .istore 3, .jsr 4] ls st m := At.eq k10_0
theorem k10_4 : pg.1 10 4 = [.iload 3, .aload 0, .getfield 804, .if_icmp .ge 38, .aload 0, .getfield 807, .iload 3, .iaload, .bipush (-1), .if_icmp .eq 32, .iload 2, .iload 1, .if_icmp .ne 29, .iload 3, .ireturn] := rfl
theorem a10_4 {tb : Tab} {d : Nat} {K : Out → AM → Prop} {ls st : List AV} {m : AM} : At tb d 10 K 4 ls st m = wpB tb (pg.2.1 10) (Runs tb pg d) K (At tb d 10 K) [.iload 3, .aload 0, .getfield 804, .if_icmp .ge 38, .aload 0, .getfield 807, .iload 3, .iaload, .bipush (-1), .if_icmp .eq 32, .iload 2, .iload 1, .if_icmp .ne 29, .iload 3, .ireturn] ls st m := At.eq k10_4
theorem k10_29 : pg.1 10 29 = [.iinc 2 1, .jsr 32] := rfl
theorem a10_29 {tb : Tab} {d : Nat} {K : Out → AM → Prop} {ls st : List AV} {m : AM} : At tb d 10 K 29 ls st m = wpB tb (pg.2.1 10) (Runs tb pg d) K (At tb d 10 K) [.iinc 2 1, .jsr 32] ls st m := At.eq k10_29
theorem k10_32 : pg.1 10 32 = [.iinc 3 1, .goto 4] := rfl
theorem a10_32 {tb : Tab} {d : Nat} {K : Out → AM → Prop} {ls st : List AV} {m : AM} : At tb d 10 K 32 ls st m = wpB tb (pg.2.1 10) (Runs tb pg d) K (At tb d 10 K) [.iinc 3 1, .goto 4] ls st m := At.eq k10_32
theorem k10_38 : pg.1 10 38 = [.bipush (-1), .ireturn] := rfl
theorem a10_38 {tb : Tab} {d : Nat} {K : Out → AM → Prop} {ls st : List AV} {m : AM} : At tb d 10 K 38 ls st m = wpB tb (pg.2.1 10) (Runs tb pg d) K (At tb d 10 K) [.bipush (-1), .ireturn] ls st m := At.eq k10_38
theorem w_10 {n : Int} (hw : isW w) (hR : RW S w r) (hA : AB r) (hn : 0 ≤ n ∧ n < bitsM (onS r) 31) (hK : ∀ v, v = oneF (onS r) n → 0 ≤ v → v < r 4 → pr r v 1 ≠ -1 → K (.inl (some (vi v))) (X S m)) : Runs tb pg (d + 1) 10 [vr w, vi n] (X S m) K := by
  have b3 := hA.2.1.1
  have b4 := hA.2.1.2.1
  have b5 := hA.2.1.2.2.1
  have e0 := hR.1.1
  have e4 := hR.1.2.1
  have b9 := bits_le (onS r)
  have ball := on_all hA
  have hL4 : (fun i : Int => ∀ (a : Int), a = bitsM (onS r) i → (a ≤ n) → At tb d 10 K 4 [vr w, vi n, vi a, vi i] [] (X S m)) 0 := by
    refine loopZ (fun i : Int => ∀ (a : Int), a = bitsM (onS r) i → (a ≤ n) → At tb d 10 K 4 [vr w, vi n, vi a, vi i] [] (X S m)) (r 4) (by omega) ?_ ?_
    · intro i h0 h1 h9 a ha ha2
      have z := AB_pp hA h0 h1
      have q6 := (hR.2.2.1 i h0 h1).2.1
      have oc := on_cnt hA h0 h1
      have bm := bitsM_mono (s := onS r) h0 (by omega : i ≤ 31)
      have bb := bitsM_mono (s := onS r) (i := 0) (by omega) h0
      have b0 := bitsM_0 (s := onS r)
      rw [a10_4]
      repeat' (first | omega | with_reducible refine h9 _ ?_ ?_ | (refine hK _ ?_ ?_ ?_ ?_) | simp only [w_iconst, w_istore, w_fall, Int.reduceToNat, w_iload, w_aload, x_g804_w0, w_ifc, cI, x_g807_w0, x_iald, w_ialoads, w_ialoadw, w_ireturn, w_iinc, lgB, Nat.reduceSub, w_goto, isA_w1, isA_w2, isA_w3, isA_w4, isA_w5, isA_w6, isA_w7, isA_w8, isA_w10, isA_w11, isA_w12, isA_w14, isA_w15, isA_w16, len_w1, len_w2, len_w3, len_w4, len_w5, len_w6, len_w7, len_w8, len_w10, len_w11, len_w12, len_w14, len_w15, len_w16, Int.cast_ofNat_Int, a10_0, a10_29, a10_32, a10_38, R32, List.getElem?_cons_zero, List.getElem?_cons_succ, List.set_cons_zero, List.set_cons_succ, List.cons_append, List.nil_append, List.replicate_succ, List.replicate_zero, List.take_succ_cons, List.take_zero, List.drop_succ_cons, List.drop_zero, List.reverse_cons, List.reverse_nil, List.length_cons, List.length_nil, Option.toList, true_and, and_true, eq_self, ↓reduceIte, not_true_eq_false, not_false_eq_true, true_or, or_true, hw] | with_reducible refine And.intro ?_ ?_ | with_reducible intro _)
      all_goals (try (first | omega | contradiction | (exact oneF_of h0 (by omega) ((on_bit hA h0 h1).mpr (by omega)) (by omega)) | (rw [oc, if_pos (by omega)]; omega) | (rw [oc, if_neg (by omega)]; omega)))
    · intro a ha ha2
      rw [a10_4]
      repeat' (first | omega | simp only [w_iconst, w_istore, w_fall, Int.reduceToNat, w_iload, w_aload, x_g804_w0, w_ifc, cI, x_g807_w0, x_iald, w_ialoads, w_ialoadw, w_ireturn, w_iinc, lgB, Nat.reduceSub, w_goto, isA_w1, isA_w2, isA_w3, isA_w4, isA_w5, isA_w6, isA_w7, isA_w8, isA_w10, isA_w11, isA_w12, isA_w14, isA_w15, isA_w16, len_w1, len_w2, len_w3, len_w4, len_w5, len_w6, len_w7, len_w8, len_w10, len_w11, len_w12, len_w14, len_w15, len_w16, Int.cast_ofNat_Int, a10_0, a10_29, a10_32, a10_38, R32, List.getElem?_cons_zero, List.getElem?_cons_succ, List.set_cons_zero, List.set_cons_succ, List.cons_append, List.nil_append, List.replicate_succ, List.replicate_zero, List.take_succ_cons, List.take_zero, List.drop_succ_cons, List.drop_zero, List.reverse_cons, List.reverse_nil, List.length_cons, List.length_nil, Option.toList, true_and, and_true, eq_self, ↓reduceIte, not_true_eq_false, not_false_eq_true, true_or, or_true, hw] | with_reducible refine And.intro ?_ ?_ | with_reducible intro _)
      all_goals (try (first | omega | contradiction | omega))
  refine Runs.of (al := [vr w, vi n]) (n := 2) trivial rfl rfl trivial ?_
  repeat' (first | omega | with_reducible refine hL4 _ ?_ ?_ | simp only [w_iconst, w_istore, w_fall, Int.reduceToNat, w_iload, w_aload, x_g804_w0, w_ifc, cI, x_g807_w0, x_iald, w_ialoads, w_ialoadw, w_ireturn, w_iinc, lgB, Nat.reduceSub, w_goto, isA_w1, isA_w2, isA_w3, isA_w4, isA_w5, isA_w6, isA_w7, isA_w8, isA_w10, isA_w11, isA_w12, isA_w14, isA_w15, isA_w16, len_w1, len_w2, len_w3, len_w4, len_w5, len_w6, len_w7, len_w8, len_w10, len_w11, len_w12, len_w14, len_w15, len_w16, Int.cast_ofNat_Int, a10_0, a10_29, a10_32, a10_38, R32, List.getElem?_cons_zero, List.getElem?_cons_succ, List.set_cons_zero, List.set_cons_succ, List.cons_append, List.nil_append, List.replicate_succ, List.replicate_zero, List.take_succ_cons, List.take_zero, List.drop_succ_cons, List.drop_zero, List.reverse_cons, List.reverse_nil, List.length_cons, List.length_nil, Option.toList, true_and, and_true, eq_self, ↓reduceIte, not_true_eq_false, not_false_eq_true, true_or, or_true, hw] | with_reducible refine And.intro ?_ ?_ | with_reducible intro _)
  all_goals (try (first | omega | (exfalso; assumption) | (rw [bitsM_0])))
theorem k9_0 : pg.1 9 0 = [.aload 0, .invokeinterface 113 1, .invokeinterface 382 1, .istore 1, .iload 1, .ifCond .gt 13, .return_] := rfl
theorem a9_0 {tb : Tab} {d : Nat} {K : Out → AM → Prop} {ls st : List AV} {m : AM} : At tb d 9 K 0 ls st m = wpB tb (pg.2.1 9) (Runs tb pg d) K (At tb d 9 K) [.aload 0, .invokeinterface 113 1, .invokeinterface 382 1, .istore 1, .iload 1, .ifCond .gt 13, .return_] ls st m := At.eq k9_0
theorem k9_13 : pg.1 9 13 = [.aload 0, .aload 0, .invokeinterface 2 1, .iload 1, .irem, .invokeinterface 10 2, .istore 2, .aload 0, .invokeinterface 2 1, .istore 3, .iload 2, .bipush (-1), .if_icmp .eq 43, .aload 0, .getfield 805, .iload 2, .iaload, .ifCond .gt 44, .jsr 43] := rfl
theorem a9_13 {tb : Tab} {d : Nat} {K : Out → AM → Prop} {ls st : List AV} {m : AM} : At tb d 9 K 13 ls st m = wpB tb (pg.2.1 9) (Runs tb pg d) K (At tb d 9 K) [.aload 0, .aload 0, .invokeinterface 2 1, .iload 1, .irem, .invokeinterface 10 2, .istore 2, .aload 0, .invokeinterface 2 1, .istore 3, .iload 2, .bipush (-1), .if_icmp .eq 43, .aload 0, .getfield 805, .iload 2, .iaload, .ifCond .gt 44, .jsr 43] ls st m := At.eq k9_13
theorem k9_43 : pg.1 9 43 = [.return_] := rfl
theorem a9_43 {tb : Tab} {d : Nat} {K : Out → AM → Prop} {ls st : List AV} {m : AM} : At tb d 9 K 43 ls st m = wpB tb (pg.2.1 9) (Runs tb pg d) K (At tb d 9 K) [.return_] ls st m := At.eq k9_43
theorem k9_44 : pg.1 9 44 = [.bipush 6, .iload 2, .imul, .iload 3, .aload 0, .getfield 805, .iload 2, .iaload, .irem, .iadd, .istore 4, .aload 0, .getfield 809, .iload 4, .iaload, .ifCond .le 107, .aload 0, .getfield 808, .iload 4, .aload 0, .getfield 808, .iload 4, .iaload, .invokeinterface 67 1, .iastore, .aload 0, .getfield 811, .aload 0, .getfield 812, .bipush 4, .iaload, .iload 2, .bipush 3, .aload 0, .getfield 807, .iload 2, .iaload, .invokeinterface 50 5, .jsr 107] := rfl
theorem a9_44 {tb : Tab} {d : Nat} {K : Out → AM → Prop} {ls st : List AV} {m : AM} : At tb d 9 K 44 ls st m = wpB tb (pg.2.1 9) (Runs tb pg d) K (At tb d 9 K) [.bipush 6, .iload 2, .imul, .iload 3, .aload 0, .getfield 805, .iload 2, .iaload, .irem, .iadd, .istore 4, .aload 0, .getfield 809, .iload 4, .iaload, .ifCond .le 107, .aload 0, .getfield 808, .iload 4, .aload 0, .getfield 808, .iload 4, .iaload, .invokeinterface 67 1, .iastore, .aload 0, .getfield 811, .aload 0, .getfield 812, .bipush 4, .iaload, .iload 2, .bipush 3, .aload 0, .getfield 807, .iload 2, .iaload, .invokeinterface 50 5, .jsr 107] ls st m := At.eq k9_44
theorem k9_107 : pg.1 9 107 = [.return_] := rfl
theorem a9_107 {tb : Tab} {d : Nat} {K : Out → AM → Prop} {ls st : List AV} {m : AM} : At tb d 9 K 107 ls st m = wpB tb (pg.2.1 9) (Runs tb pg d) K (At tb d 9 K) [.return_] ls st m := At.eq k9_107
theorem w_9 (hw : isW w) (hR : RW S w r) (hA : AB r) (hK : ∀ T, RW T w (if onS r ≠ 0 then haresR r else r) → EW S T w → T w 15 = S w 15 → K (.inl none) (X T m)) : Runs tb pg (d + 2) 9 [vr w] (X S m) K := by
  refine Runs.of (al := [vr w]) (n := 4) trivial rfl rfl trivial ?_
  have b3 := hA.2.1.1
  have b4 := hA.2.1.2.1
  have b5 := hA.2.1.2.2.1
  have e0 := hR.1.1
  have e4 := hR.1.2.1
  have rg := on_rg hA
  have hn := on_none hA
  have bl := bits_le (onS r)
  have dv := drawV_rg r
  have dv2 := drawV_rg (drawR r)
  have A1 := drawR_AB hA
  have A2 := drawR_AB A1
  have o1 := onS_draw hA
  have e14 : (drawR r) 4 = r 4 := drawR_o (by decide)
  have e24 : (drawR (drawR r)) 4 = r 4 := (drawR_o (by decide)).trans e14
  have e3 : (drawR (drawR r)) 3 = r 3 := (drawR_o (by decide)).trans (drawR_o (by decide))
  have e2p : ∀ p w, 0 ≤ p → 0 ≤ w → pr (drawR (drawR r)) p w = pr r p w := fun p w p0 w0 => (drawR_o (by omega)).trans (drawR_o (by omega))
  have e1p : ∀ p w, 0 ≤ p → 0 ≤ w → pr (drawR r) p w = pr r p w := fun p w p0 w0 => drawR_o (by omega)
  have hno : bitsM (onS r) 31 ≤ 0 → K (.inl none) (X S m) := fun y => hK S (by rw [if_neg (fun z => z (hn.mpr (by omega)))]; exact hR) EW_r rfl
  have hyes : 0 < bitsM (onS r) 31 → ∀ p, p = oneF (onS r) (drawV r % bitsM (onS r) 31) → 0 ≤ p → p < r 4 → pr r p 1 ≠ -1 → ∀ T, RW T w (drawR (drawR r)) → EW S T w → T w 15 = S w 15 → ((pr r p (14 + drawV (drawR r) % pr r p 0) = 0 → K (.inl none) (X T m)) ∧ (pr r p (14 + drawV (drawR r) % pr r p 0) ≠ 0 → ∀ v T2, v = (pr r p (8 + drawV (drawR r) % pr r p 0) + 1) % 8 → LGT (upS T (w + 7) (6 * p + drawV (drawR r) % pr r p 0) v) T2 w (r 10) p 3 (pr r p 1) → K (.inl none) (X T2 m))) := by
    intro y p hp p0 p1 pon T hT hE hl
    have hs : onS r ≠ 0 := fun z => by have := hn.mp z; omega
    have z := AB_pp hA p0 p1
    obtain ⟨k, hk⟩ : ∃ k, k = drawV (drawR r) % pr r p 0 := ⟨_, rfl⟩
    have k0 : 0 ≤ k := by rw [hk]; exact Int.emod_nonneg _ (by omega)
    have k1 : k < pr r p 0 := by rw [hk]; exact Int.emod_lt_of_pos _ (by omega)
    rw [← hk]
    have e0 : pr (drawR r) p 0 = pr r p 0 := e1p p 0 p0 (by omega)
    have eh := haresR_eq hp
    refine ⟨fun d0 => hK T ?_ hE hl, fun d0 v T2 hv hT2 => hK T2 ?_ ?_ ?_⟩
    · rw [if_pos hs, eh, hareR_y (by rw [e0, ← hk, e2p _ _ p0 (by omega)]; exact d0)]
      exact hT
    · rw [if_pos hs, eh, hareR_n (by rw [e0, ← hk, e2p _ _ p0 (by omega)]; exact d0), e0, ← hk, e2p _ _ p0 (by omega), ← hv, e2p _ _ p0 (by omega)]
      refine RW_lg (markR_AB p0 (by omega) k0 (by omega) (by omega) A2) (RW_mk A2 hT p0 (by omega) k0 (by omega)) ?_
      rw [show putR (drawR (drawR r)) (31 + 20 * p + (8 + k)) v 10 = r 10 from (if_neg (by omega)).trans ((drawR_o (by omega)).trans (drawR_o (by omega)))]
      exact hT2
    · exact EW_t hE (EW_t (EW_u EW_r (by omega)) (LGT_EW hT2))
    · rw [hT2.1 w (by omega) (by omega), show upS T (w + 7) (6 * p + k) v w = T w from if_neg (by omega)]; exact hl
  repeat' (first | omega | (exact hno (by omega)) | (exact hE9.1 (by omega)) | (rw [s1, t10] at x7; rw [m7] at x6; exact hE9.2 (by omega) _ _ x6 x7) | simp only [w_aload, w_call, w_istore, w_iload, w_if, cI, Int.reduceToNat, w_return, w_irem, w_iconst, w_ifc, x_g805_w0, x_iald, w_ialoads, w_ialoadw, w_fall, w_imul, w_iadd, x_g809_w0, x_g808_w0, x_iast, x_g811_w0, x_g812_w0, x_g807_w0, isA_w1, isA_w2, isA_w3, isA_w4, isA_w5, isA_w6, isA_w7, isA_w8, isA_w10, isA_w11, isA_w12, isA_w14, isA_w15, isA_w16, len_w1, len_w2, len_w3, len_w4, len_w5, len_w6, len_w7, len_w8, len_w10, len_w11, len_w12, len_w14, len_w15, len_w16, Int.cast_ofNat_Int, a9_0, a9_13, a9_43, a9_44, a9_107, R32, List.getElem?_cons_zero, List.getElem?_cons_succ, List.set_cons_zero, List.set_cons_succ, List.cons_append, List.nil_append, List.replicate_succ, List.replicate_zero, List.take_succ_cons, List.take_zero, List.drop_succ_cons, List.drop_zero, List.reverse_cons, List.reverse_nil, List.length_cons, List.length_nil, Option.toList, true_and, and_true, eq_self, ↓reduceIte, not_true_eq_false, not_false_eq_true, true_or, or_true, hw, up_ne, ne_eq, Nat.reduceEqDiff, not_false_eq_true] | with_reducible refine w_113 hw hR hA (fun v1 x1 => ?_) | (have y1 : v1 = onS r := x1; subst y1; (with_reducible refine w_382 rg (fun v2 x2 => ?_))) | with_reducible refine w_2 hw hR hA (fun T3 x3 E3 l3 => ?_) | (subst x2; (with_reducible refine w_10 hw x3 A1 ?_ (fun p x4 p0 p1 pon => ?_)); rotate_left; rw [o1] at x4; rw [e14] at p1; rw [e1p p 1 p0 (by omega)] at pon) | ((with_reducible refine w_2 hw x3 A1 (fun T5 x5 E5 l5 => ?_)); have q5 := x5.2.2.1 p p0 (by omega); have z := AB_pp hA p0 p1; have hE9 := hyes (by omega) p x4 p0 p1 pon T5 x5 (EW_t E3 E5) (l5.trans l3); rw [e2p p 0 p0 (by omega), e2p p 1 p0 (by omega)] at q5; have k0 : 0 ≤ drawV (drawR r) % pr r p 0 := Int.emod_nonneg _ (by omega); have k1 : drawV (drawR r) % pr r p 0 < pr r p 0 := Int.emod_lt_of_pos _ (by omega); have q6 := q5.2.2.2 pon _ k0 k1; rw [e2p p (8 + drawV (drawR r) % pr r p 0) p0 (by omega), e2p p (14 + drawV (drawR r) % pr r p 0) p0 (by omega)] at q6; have q7 := AB_pk hA p0 p1 k0 (by omega); have s0 := q5.1; have s1 := q5.2.1; have m7 := q6.1; have d8 := q6.2; have t15 := (x5.2.2.2.2.2 4 (by omega) (by omega)); have t10 : T5 (w + 15) 4 = r 10 := t15.trans ((drawR_o (by omega)).trans (drawR_o (by omega))); have t13 := x5.2.2.2.2.1.1; have t13b : T5 (w + 13) 0 = r 11 := t13.trans ((drawR_o (by omega)).trans (drawR_o (by omega))); have b11 := hA.2.1.2.2.2.2.2.2.1) | (rw [s0]) | with_reducible refine w_67b ?_ (fun v6 x6 => ?_) | with_reducible refine w_50 hw ?_ (fun T7 x7 => ?_) | with_reducible refine And.intro ?_ ?_ | with_reducible intro _)
  all_goals (try (first | omega | (exfalso; assumption) | (exact Int.emod_nonneg _ (by omega)) | (rw [o1]; exact Int.emod_lt_of_pos _ (by omega)) | skip))
end Days8
