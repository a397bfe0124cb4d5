/-! ===== THE CLASS: a strike that wins ===== -/
theorem fr_tab : ∀ all : Fin 8, ∀ L : Fin 7, ∀ a : Fin 7, ∀ b : Fin 3, 1 ≤ (b : Nat) → (a : Nat) + (b : Nat) ≤ (L : Nat) → (xorI (worthT a) (worthT ((L : Nat) - (a : Nat) - (b : Nat))) = xorI ((all : Nat) : Int) (worthT L) ↔ (((all : Nat) : Int) ≠ 0 ∧ xorI (xorI (xorI ((all : Nat) : Int) (worthT L)) (worthT a)) (worthT ((L : Nat) - (a : Nat) - (b : Nat))) = 0)) := by decide +kernel
theorem fr_tabi {all L a b : Int} (h0 : 0 ≤ all ∧ all < 8) (hL : L ≤ 6) (ha : 0 ≤ a) (hb : 1 ≤ b ∧ b ≤ 2) (h : a + b ≤ L) : xorI (worthZ a) (worthZ (L - a - b)) = xorI all (worthZ L) ↔ (all ≠ 0 ∧ xorI (xorI (xorI all (worthZ L)) (worthZ a)) (worthZ (L - a - b)) = 0) := by
  have t := fr_tab ⟨all.toNat, by omega⟩ ⟨L.toNat, by omega⟩ ⟨a.toNat, by omega⟩ ⟨b.toNat, by omega⟩ (show 1 ≤ b.toNat by omega) (show a.toNat + b.toNat ≤ L.toNat by omega)
  have e1 : (L.toNat - a.toNat - b.toNat : Nat) = (L - a - b).toNat := by omega
  simp only [Int.toNat_of_nonneg h0.1, e1] at t
  exact t
theorem xo_8 : ∀ x : Fin 8, ∀ i : Fin 7, 0 ≤ xorI ((x : Nat) : Int) (worthT i) ∧ xorI ((x : Nat) : Int) (worthT i) < 8 := by decide +kernel
theorem nim_8 {r : Int → Int} (hA : AB r) : ∀ n : Nat, (n : Int) ≤ r 4 → 0 ≤ nimM (pr r) n ∧ nimM (pr r) n < 8
  | 0, _ => by show 0 ≤ (0 : Int) ∧ (0 : Int) < 8; omega
  | n + 1, h => by
    have i := nim_8 hA n (by omega)
    have z := AB_pp hA (p := n) (by omega) (by omega)
    have l := leftM_le (P := pr r) (p := n) (n := pr r n 0) (by omega)
    rw [show ((n + 1 : Nat) : Int) = (n : Int) + 1 by omega, nimM_s (by omega)]
    have x := xo_8 ⟨(nimM (pr r) n).toNat, by omega⟩ ⟨(leftM (pr r) n (pr r n 0)).toNat, by omega⟩
    simp only [Int.toNat_of_nonneg i.1] at x
    exact x
theorem frM_k {P : Int → Int → Int} {all p a b : Int} (ha : 0 ≤ a ∧ a < 10) (hb : 0 ≤ b ∧ b < 10) (hp : 0 ≤ p) : frM P all (100 * p + 10 * a + b) ↔ ((1 ≤ b ∧ b ≤ 2) ∧ a + b ≤ leftM P p (P p 0) ∧ all ≠ 0 ∧ xorI (xorI (xorI all (worthZ (leftM P p (P p 0)))) (worthZ a)) (worthZ (leftM P p (P p 0) - a - b)) = 0) := by
  unfold frM
  rw [show (100 * p + 10 * a + b) % 10 = b by omega, show (100 * p + 10 * a + b) / 10 % 10 = a by omega, show (100 * p + 10 * a + b) / 100 = p by omega]
/-- none below b, with a left ahead
-/
theorem noB_fill {c : Int → Prop} {i j : Int} (h : noB c i) (g : ∀ k, i ≤ k → k < j → ¬ c k) : noB c j := fun k k0 k1 => by
  by_cases z : k < i
  · exact h k k0 z
  · exact g k (by omega) k1
section Strikes2
variable {tb : Tab} {d : Nat} {m : AM} {K : Out → AM → Prop} {S : Nat → Int → Int} {w : Nat} {r : Int → Int}
theorem k92_0 : pg.1 92 0 = [.aload 0, .invokeinterface 91 1, .istore 1, .bipush 0, .istore 2, .jsr 7] := rfl
theorem a92_0 {tb : Tab} {d : Nat} {K : Out → AM → Prop} {ls st : List AV} {m : AM} : At tb d 92 K 0 ls st m = wpB tb (pg.2.1 92) (Runs tb pg d) K (At tb d 92 K) [.aload 0, .invokeinterface 91 1, .istore 1, .bipush 0, .istore 2, .jsr 7] ls st m := At.eq k92_0
theorem k92_7 : pg.1 92 7 = [.iload 2, .aload 0, .getfield 804, .if_icmp .ge 109, .aload 0, .iload 2, .invokeinterface 117 2, .istore 3, .iload 1, .iload 3, .invokeinterface 90 1, .ixor, .istore 4, .bipush 0, .istore 5, .jsr 32] := rfl
theorem a92_7 {tb : Tab} {d : Nat} {K : Out → AM → Prop} {ls st : List AV} {m : AM} : At tb d 92 K 7 ls st m = wpB tb (pg.2.1 92) (Runs tb pg d) K (At tb d 92 K) [.iload 2, .aload 0, .getfield 804, .if_icmp .ge 109, .aload 0, .iload 2, .invokeinterface 117 2, .istore 3, .iload 1, .iload 3, .invokeinterface 90 1, .ixor, .istore 4, .bipush 0, .istore 5, .jsr 32] ls st m := At.eq k92_7
theorem k92_32 : pg.1 92 32 = [.iload 5, .iload 3, .if_icmp .ge 103, .bipush 1, .istore 6, .jsr 41] := rfl
theorem a92_32 {tb : Tab} {d : Nat} {K : Out → AM → Prop} {ls st : List AV} {m : AM} : At tb d 92 K 32 ls st m = wpB tb (pg.2.1 92) (Runs tb pg d) K (At tb d 92 K) [.iload 5, .iload 3, .if_icmp .ge 103, .bipush 1, .istore 6, .jsr 41] ls st m := At.eq k92_32
theorem k92_41 : pg.1 92 41 = [.iload 6, .bipush 2, .if_icmp .gt 97, .iload 5, .iload 6, .iadd, .iload 3, .if_icmp .gt 97, .iload 5, .invokeinterface 90 1, .iload 3, .iload 5, .isub, .iload 6, .isub, .invokeinterface 90 1, .ixor, .iload 4, .if_icmp .ne 91, .bipush 100, .iload 2, .imul, .bipush 10, .iload 5, .imul, .iadd, .iload 6, .iadd, .ireturn] := rfl
theorem a92_41 {tb : Tab} {d : Nat} {K : Out → AM → Prop} {ls st : List AV} {m : AM} : At tb d 92 K 41 ls st m = wpB tb (pg.2.1 92) (Runs tb pg d) K (At tb d 92 K) [.iload 6, .bipush 2, .if_icmp .gt 97, .iload 5, .iload 6, .iadd, .iload 3, .if_icmp .gt 97, .iload 5, .invokeinterface 90 1, .iload 3, .iload 5, .isub, .iload 6, .isub, .invokeinterface 90 1, .ixor, .iload 4, .if_icmp .ne 91, .bipush 100, .iload 2, .imul, .bipush 10, .iload 5, .imul, .iadd, .iload 6, .iadd, .ireturn] ls st m := At.eq k92_41
theorem k92_91 : pg.1 92 91 = [.iinc 6 1, .goto 41] := rfl
theorem a92_91 {tb : Tab} {d : Nat} {K : Out → AM → Prop} {ls st : List AV} {m : AM} : At tb d 92 K 91 ls st m = wpB tb (pg.2.1 92) (Runs tb pg d) K (At tb d 92 K) [.iinc 6 1, .goto 41] ls st m := At.eq k92_91
theorem k92_97 : pg.1 92 97 = [.iinc 5 1, .goto 32] := rfl
theorem a92_97 {tb : Tab} {d : Nat} {K : Out → AM → Prop} {ls st : List AV} {m : AM} : At tb d 92 K 97 ls st m = wpB tb (pg.2.1 92) (Runs tb pg d) K (At tb d 92 K) [.iinc 5 1, .goto 32] ls st m := At.eq k92_97
theorem k92_103 : pg.1 92 103 = [.iinc 2 1, .goto 7] := rfl
theorem a92_103 {tb : Tab} {d : Nat} {K : Out → AM → Prop} {ls st : List AV} {m : AM} : At tb d 92 K 103 ls st m = wpB tb (pg.2.1 92) (Runs tb pg d) K (At tb d 92 K) [.iinc 2 1, .goto 7] ls st m := At.eq k92_103
theorem k92_109 : pg.1 92 109 = [.bipush (-1), .ireturn] := rfl
theorem a92_109 {tb : Tab} {d : Nat} {K : Out → AM → Prop} {ls st : List AV} {m : AM} : At tb d 92 K 109 ls st m = wpB tb (pg.2.1 92) (Runs tb pg d) K (At tb d 92 K) [.bipush (-1), .ireturn] ls st m := At.eq k92_109
theorem w_92 (hw : isW w) (hR : RW S w r) (hA : AB r) (hK : ∀ v, isFst (frM (pr r) (nimM (pr r) (r 4))) (100 * r 4) v → K (.inl (some (vi v))) (X S m)) : Runs tb pg (d + 3) 92 [vr w] (X S m) K := by
  have b3 := hA.2.1.1
  have b4 := hA.2.1.2.1
  have b5 := hA.2.1.2.2.1
  have e0 := hR.1.1
  have e4 := hR.1.2.1
  obtain ⟨al, hal⟩ : ∃ al, al = nimM (pr r) (r 4) := ⟨_, rfl⟩
  have al8 := nim_8 hA (r 4).toNat (by omega)
  rw [Int.toNat_of_nonneg b4.1, ← hal] at al8
  rw [← hal] at hK
  have hL7 : (fun p : Int => ∀ (z3 : AV) (z4 : AV) (z5 : AV) (z6 : AV), (noB (frM (pr r) al) (100 * p)) → At tb (d + 2) 92 K 7 [vr w, vi al, vi p, z3, z4, z5, z6] [] (X S m)) 0 := by
    refine loopZ (fun p : Int => ∀ (z3 : AV) (z4 : AV) (z5 : AV) (z6 : AV), (noB (frM (pr r) al) (100 * p)) → At tb (d + 2) 92 K 7 [vr w, vi al, vi p, z3, z4, z5, z6] [] (X S m)) (r 4) (by omega) ?_ ?_
    · intro p h0 h1 h9 z3 z4 z5 z6 hn
      have z := AB_pp hA h0 h1
      have l := leftM_le (P := pr r) (p := p) (n := pr r p 0) (by omega)
      obtain ⟨L, hL⟩ : ∃ L, L = leftM (pr r) p (pr r p 0) := ⟨_, rfl⟩
      obtain ⟨q, hq⟩ : ∃ q, q = xorI al (worthZ L) := ⟨_, rfl⟩
      have hxw := and_rg 0 0
      have hL32 : ∀ z6 : AV, At tb (d + 2) 92 K 32 [vr w, vi al, vi p, vi L, vi q, vi 0, z6] [] (X S m) := by
        intro z6
        rw [← hL] at l
        have hL32 : (fun a : Int => ∀ (z6 : AV), (noB (frM (pr r) al) (100 * p + 10 * a)) → At tb (d + 2) 92 K 32 [vr w, vi al, vi p, vi L, vi q, vi a, z6] [] (X S m)) 0 := by
          refine loopZ (fun a : Int => ∀ (z6 : AV), (noB (frM (pr r) al) (100 * p + 10 * a)) → At tb (d + 2) 92 K 32 [vr w, vi al, vi p, vi L, vi q, vi a, z6] [] (X S m)) (L) (by omega) ?_ ?_
          · intro a a0 a1 h8 z6 hn2
            have hL41 : (fun j : Int => ∀ (b : Int), b = 1 + j → (noB (frM (pr r) al) (100 * p + 10 * a + b)) → At tb (d + 2) 92 K 41 [vr w, vi al, vi p, vi L, vi q, vi a, vi b] [] (X S m)) 0 := by
              refine loopZ (fun j : Int => ∀ (b : Int), b = 1 + j → (noB (frM (pr r) al) (100 * p + 10 * a + b)) → At tb (d + 2) 92 K 41 [vr w, vi al, vi p, vi L, vi q, vi a, vi b] [] (X S m)) (2) (by omega) ?_ ?_
              · intro j j0 j1 h7 b hb hn3
                have ft := fr_tabi (all := al) (L := L) (a := a) (b := b) al8 (by omega) a0 (by omega)
                have fk := frM_k (P := pr r) (all := al) (p := p) (a := a) (b := b) (by omega) (by omega) h0
                rw [← hL] at fk
                have hr1 : -2147483648 ≤ xorI (worthZ a) (worthZ (L - a - b)) ∧ xorI (worthZ a) (worthZ (L - a - b)) < 2147483648 := I32_R _
                have hr2 : -2147483648 ≤ q ∧ q < 2147483648 := by rw [hq]; exact I32_R _
                rw [a92_41]
                repeat' (first | omega | with_reducible refine h7 _ ?_ ?_ | with_reducible refine h8 _ ?_ | with_reducible refine hK _ ?_ | simp only [w_aload, w_call, w_istore, w_iconst, w_fall, Int.reduceToNat, w_iload, x_g804_w0, w_ifc, cI, w_ixor, w_iadd, w_isub, w_imul, w_ireturn, w_iinc, lgB, Nat.reduceSub, w_goto, a92_0, a92_91, a92_97, a92_103, a92_109, R32, List.getElem?_cons_zero, List.getElem?_cons_succ, List.set_cons_zero, List.set_cons_succ, List.cons_append, List.nil_append, List.replicate_succ, List.replicate_zero, List.take_succ_cons, List.take_zero, List.drop_succ_cons, List.drop_zero, List.reverse_cons, List.reverse_nil, List.length_cons, List.length_nil, Option.toList, true_and, and_true, eq_self, ↓reduceIte, not_true_eq_false, not_false_eq_true, true_or, or_true, hw] | with_reducible refine w_90 ?_ (fun v2 x2 => ?_) | (subst x2) | with_reducible refine And.intro ?_ ?_ | with_reducible intro _)
                all_goals (try (first | omega | contradiction | (refine noB_fill hn3 (fun k k0 k1 => ?_); obtain ⟨b9, hb9⟩ : ∃ b9, b9 = k - (100 * p + 10 * a) := ⟨_, rfl⟩; rw [show k = 100 * p + 10 * a + b9 by omega, frM_k (by omega) (by omega) h0, ← hL]; intro y; omega) | (exact Or.inr ⟨by omega, by omega, fk.mpr ⟨by omega, by omega, ft (by omega) |>.mp (by rw [← hq]; exact Classical.not_not.mp (by assumption))⟩, fun k k0 k1 => hn3 k k0 k1⟩) | (rw [show 100 * p + 10 * a + (b + 1) = 100 * p + 10 * a + b + 1 by omega]; exact noB_s hn3 (fun y => by have y2 := (ft (by omega)).mpr (fk.mp y).2.2; rw [← hq] at y2; contradiction))))
              · intro b hb hn3
                rw [a92_41]
                repeat' (first | omega | with_reducible refine h8 _ ?_ | simp only [w_aload, w_call, w_istore, w_iconst, w_fall, Int.reduceToNat, w_iload, x_g804_w0, w_ifc, cI, w_ixor, w_iadd, w_isub, w_imul, w_ireturn, w_iinc, lgB, Nat.reduceSub, w_goto, a92_0, a92_91, a92_97, a92_103, a92_109, R32, List.getElem?_cons_zero, List.getElem?_cons_succ, List.set_cons_zero, List.set_cons_succ, List.cons_append, List.nil_append, List.replicate_succ, List.replicate_zero, List.take_succ_cons, List.take_zero, List.drop_succ_cons, List.drop_zero, List.reverse_cons, List.reverse_nil, List.length_cons, List.length_nil, Option.toList, true_and, and_true, eq_self, ↓reduceIte, not_true_eq_false, not_false_eq_true, true_or, or_true, hw] | with_reducible refine w_90 ?_ (fun v2 x2 => ?_) | (subst x2) | with_reducible refine And.intro ?_ ?_ | with_reducible intro _)
                all_goals (try (first | omega | contradiction | (refine noB_fill hn3 (fun k k0 k1 => ?_); obtain ⟨b9, hb9⟩ : ∃ b9, b9 = k - (100 * p + 10 * a) := ⟨_, rfl⟩; rw [show k = 100 * p + 10 * a + b9 by omega, frM_k (by omega) (by omega) h0, ← hL]; intro y; omega)))
            rw [a92_32]
            repeat' (first | omega | with_reducible refine h8 _ ?_ | with_reducible refine hL41 _ ?_ ?_ | simp only [w_aload, w_call, w_istore, w_iconst, w_fall, Int.reduceToNat, w_iload, x_g804_w0, w_ifc, cI, w_ixor, w_iadd, w_isub, w_imul, w_ireturn, w_iinc, lgB, Nat.reduceSub, w_goto, a92_0, a92_91, a92_97, a92_103, a92_109, R32, List.getElem?_cons_zero, List.getElem?_cons_succ, List.set_cons_zero, List.set_cons_succ, List.cons_append, List.nil_append, List.replicate_succ, List.replicate_zero, List.take_succ_cons, List.take_zero, List.drop_succ_cons, List.drop_zero, List.reverse_cons, List.reverse_nil, List.length_cons, List.length_nil, Option.toList, true_and, and_true, eq_self, ↓reduceIte, not_true_eq_false, not_false_eq_true, true_or, or_true, hw] | with_reducible refine And.intro ?_ ?_ | with_reducible intro _)
            all_goals (try (first | omega | contradiction | (exact noB_fill hn2 (fun k k0 k1 => by rw [show k = 100 * p + 10 * a + 0 by omega, frM_k (by omega) (by omega) h0]; intro y; omega))))
          · intro z6 hn2
            rw [a92_32]
            repeat' (first | omega | with_reducible refine h9 _ _ _ _ ?_ | simp only [w_aload, w_call, w_istore, w_iconst, w_fall, Int.reduceToNat, w_iload, x_g804_w0, w_ifc, cI, w_ixor, w_iadd, w_isub, w_imul, w_ireturn, w_iinc, lgB, Nat.reduceSub, w_goto, a92_0, a92_91, a92_97, a92_103, a92_109, R32, List.getElem?_cons_zero, List.getElem?_cons_succ, List.set_cons_zero, List.set_cons_succ, List.cons_append, List.nil_append, List.replicate_succ, List.replicate_zero, List.take_succ_cons, List.take_zero, List.drop_succ_cons, List.drop_zero, List.reverse_cons, List.reverse_nil, List.length_cons, List.length_nil, Option.toList, true_and, and_true, eq_self, ↓reduceIte, not_true_eq_false, not_false_eq_true, true_or, or_true, hw] | with_reducible refine And.intro ?_ ?_ | with_reducible intro _)
            all_goals (try (first | omega | contradiction | (refine noB_fill hn2 (fun k k0 k1 => ?_); obtain ⟨a9, ha9⟩ : ∃ a9, a9 = (k - 100 * p) / 10 := ⟨_, rfl⟩; obtain ⟨b9, hb9⟩ : ∃ b9, b9 = (k - 100 * p) % 10 := ⟨_, rfl⟩; rw [show k = 100 * p + 10 * a9 + b9 by omega, frM_k (by omega) (by omega) h0, ← hL]; intro y; omega)))
        exact hL32 _ (fun k k0 k1 => hn k k0 (by omega))
      rw [a92_7]
      repeat' (first | omega | with_reducible refine h9 _ _ _ _ ?_ | with_reducible refine hL32 _ | simp only [w_aload, w_call, w_istore, w_iconst, w_fall, Int.reduceToNat, w_iload, x_g804_w0, w_ifc, cI, w_ixor, w_iadd, w_isub, w_imul, w_ireturn, w_iinc, lgB, Nat.reduceSub, w_goto, a92_0, a92_91, a92_97, a92_103, a92_109, R32, List.getElem?_cons_zero, List.getElem?_cons_succ, List.set_cons_zero, List.set_cons_succ, List.cons_append, List.nil_append, List.replicate_succ, List.replicate_zero, List.take_succ_cons, List.take_zero, List.drop_succ_cons, List.drop_zero, List.reverse_cons, List.reverse_nil, List.length_cons, List.length_nil, Option.toList, true_and, and_true, eq_self, ↓reduceIte, not_true_eq_false, not_false_eq_true, true_or, or_true, hw] | with_reducible refine w_117 hw hR hA ⟨h0, h1⟩ (fun v1 x1 => ?_) | (rw [← hL] at x1; subst x1) | with_reducible refine w_90 ?_ (fun v2 x2 => ?_) | (rw [x2, ← hq]) | with_reducible refine And.intro ?_ ?_ | with_reducible intro _)
      all_goals (try (first | omega | contradiction | skip))
    · intro z3 z4 z5 z6 hn
      rw [a92_7]
      repeat' (first | omega | with_reducible refine hK _ ?_ | simp only [w_aload, w_call, w_istore, w_iconst, w_fall, Int.reduceToNat, w_iload, x_g804_w0, w_ifc, cI, w_ixor, w_iadd, w_isub, w_imul, w_ireturn, w_iinc, lgB, Nat.reduceSub, w_goto, a92_0, a92_91, a92_97, a92_103, a92_109, R32, List.getElem?_cons_zero, List.getElem?_cons_succ, List.set_cons_zero, List.set_cons_succ, List.cons_append, List.nil_append, List.replicate_succ, List.replicate_zero, List.take_succ_cons, List.take_zero, List.drop_succ_cons, List.drop_zero, List.reverse_cons, List.reverse_nil, List.length_cons, List.length_nil, Option.toList, true_and, and_true, eq_self, ↓reduceIte, not_true_eq_false, not_false_eq_true, true_or, or_true, hw] | with_reducible refine w_117 hw hR hA ⟨h0, h1⟩ (fun v1 x1 => ?_) | (rw [← hL] at x1; subst x1) | with_reducible refine w_90 ?_ (fun v2 x2 => ?_) | (rw [x2, ← hq]) | with_reducible refine And.intro ?_ ?_ | with_reducible intro _)
      all_goals (try (first | omega | contradiction | (exact Or.inl ⟨rfl, fun k k0 k1 => hn k k0 k1⟩) | skip))
  refine Runs.of (al := [vr w]) (n := 6) trivial rfl rfl trivial ?_
  repeat' (first | omega | with_reducible refine hL7 _ _ _ _ ?_ | simp only [w_aload, w_call, w_istore, w_iconst, w_fall, Int.reduceToNat, w_iload, x_g804_w0, w_ifc, cI, w_ixor, w_iadd, w_isub, w_imul, w_ireturn, w_iinc, lgB, Nat.reduceSub, w_goto, a92_0, a92_91, a92_97, a92_103, a92_109, R32, List.getElem?_cons_zero, List.getElem?_cons_succ, List.set_cons_zero, List.set_cons_succ, List.cons_append, List.nil_append, List.replicate_succ, List.replicate_zero, List.take_succ_cons, List.take_zero, List.drop_succ_cons, List.drop_zero, List.reverse_cons, List.reverse_nil, List.length_cons, List.length_nil, Option.toList, true_and, and_true, eq_self, ↓reduceIte, not_true_eq_false, not_false_eq_true, true_or, or_true, hw] | with_reducible refine w_91 hw hR hA (fun v1 x1 => ?_) | (rw [← hal] at x1; subst x1) | with_reducible refine And.intro ?_ ?_ | with_reducible intro _)
  all_goals (try (first | omega | (exfalso; assumption) | (intro k k0 k1; omega)))
def bcI (x : Int) : Int :=
  let a := x - andI (ushrI x 1) 1431655765
  let b := andI a 858993459 + andI (ushrI a 2) 858993459
  let c := andI (b + ushrI b 4) 252645135
  let e := c + ushrI c 8
  andI (e + ushrI e 16) 63
theorem bcI_64 : ∀ a : Fin 64, bcI (a : Nat) = bitsM (a : Nat) 31 := by decide +kernel
theorem bcI_is {s : Int} (h0 : 0 ≤ s) (h1 : s < 64) : bcI s = bitsM s 31 := by
  have := bcI_64 ⟨s.toNat, by omega⟩
  rw [show ((⟨s.toNat, by omega⟩ : Fin 64) : Nat) = s.toNat from rfl, Int.toNat_of_nonneg h0] at this
  exact this
theorem k382_0 : pg.1 382 0 = [.iload 0, .iload 0, .bipush 1, .iushr, .bipush 1431655765, .iand, .isub, .istore 0, .iload 0, .bipush 858993459, .iand, .iload 0, .bipush 2, .iushr, .bipush 858993459, .iand, .iadd, .istore 0, .iload 0, .iload 0, .bipush 4, .iushr, .iadd, .bipush 252645135, .iand, .istore 0, .iload 0, .iload 0, .bipush 8, .iushr, .iadd, .istore 0, .iload 0, .iload 0, .bipush 16, .iushr, .iadd, .istore 0, .iload 0, .bipush 63, .iand, .ireturn] := rfl
theorem a382_0 {tb : Tab} {d : Nat} {K : Out → AM → Prop} {ls st : List AV} {m : AM} : At tb d 382 K 0 ls st m = wpB tb (pg.2.1 382) (Runs tb pg d) K (At tb d 382 K) [.iload 0, .iload 0, .bipush 1, .iushr, .bipush 1431655765, .iand, .isub, .istore 0, .iload 0, .bipush 858993459, .iand, .iload 0, .bipush 2, .iushr, .bipush 858993459, .iand, .iadd, .istore 0, .iload 0, .iload 0, .bipush 4, .iushr, .iadd, .bipush 252645135, .iand, .istore 0, .iload 0, .iload 0, .bipush 8, .iushr, .iadd, .istore 0, .iload 0, .iload 0, .bipush 16, .iushr, .iadd, .istore 0, .iload 0, .bipush 63, .iand, .ireturn] ls st m := At.eq k382_0
theorem w_382 {s : Int} (hs : 0 ≤ s ∧ s < 64) (hK : ∀ v, v = bitsM s 31 → K (.inl (some (vi v))) m) : Runs tb pg (d + 1) 382 [vi s] m K := by
  refine Runs.of (al := [vi s]) (n := 0) trivial rfl rfl trivial ?_
  have e := bcI_is hs.1 hs.2
  unfold bcI at e
  have hK2 := hK _ e
  clear hK e
  repeat' (first | omega | (exact hK2) | simp only [w_iload, w_iconst, w_iushr, w_iand, w_isub, w_istore, w_iadd, w_ireturn, a382_0, R32, List.getElem?_cons_zero, List.getElem?_cons_succ, List.set_cons_zero, List.set_cons_succ, List.cons_append, List.nil_append, List.replicate_succ, List.replicate_zero, List.take_succ_cons, List.take_zero, List.drop_succ_cons, List.drop_zero, List.reverse_cons, List.reverse_nil, List.length_cons, List.length_nil, Option.toList, true_and, and_true, eq_self, ↓reduceIte, not_true_eq_false, not_false_eq_true, true_or, or_true] | with_reducible refine And.intro ?_ ?_ | with_reducible intro _)
  all_goals (try (first | omega | (exfalso; assumption) | omega))
theorem w_67b {x : Int} (hx : -1 ≤ x ∧ x ≤ 10000) (hK : ∀ v, v = (x + 1) % 8 → K (.inl (some (vi v))) m) : Runs tb pg (d + 1) 67 [vi x] m K := by
  refine Runs.of (al := [vi x]) (n := 0) trivial rfl rfl trivial ?_
  repeat' (first | omega | with_reducible refine hK _ ?_ | simp only [w_iload, w_iconst, w_iadd, w_irem, w_ireturn, a67_0, R32, List.getElem?_cons_zero, List.getElem?_cons_succ, List.set_cons_zero, List.set_cons_succ, List.cons_append, List.nil_append, List.replicate_succ, List.replicate_zero, List.take_succ_cons, List.take_zero, List.drop_succ_cons, List.drop_zero, List.reverse_cons, List.reverse_nil, List.length_cons, List.length_nil, Option.toList, true_and, and_true, eq_self, ↓reduceIte, not_true_eq_false, not_false_eq_true, true_or, or_true] | with_reducible refine And.intro ?_ ?_ | with_reducible intro _)
  all_goals (try (first | omega | (exfalso; assumption) | rfl))
end Strikes2
