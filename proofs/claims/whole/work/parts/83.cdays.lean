/-! ===== THE CLASS: a draw, a day goes on ===== -/
theorem RW_draw {S : Nat → Int → Int} {w : Nat} {r : Int → Int} {v : Int} (hR : RW S w r) (hv : v = 1103515245 * r 12 + 12345) : RW (upS S w 13 v) w (drawR r) := by
  obtain ⟨⟨c0, c1, c2, c3⟩, cf, cp, cd, cl, cs⟩ := hR
  have o : ∀ k : Nat, k ≠ 0 → upS S w 13 v (w + k) = S (w + k) := fun k hk => if_neg (by omega)
  have g : ∀ j, j ≠ 12 → drawR r j = r j := fun j hj => if_neg hj
  have u : ∀ j, j ≠ 13 → upS S w 13 v w j = S w j := fun j hj => by rw [upS_at, if_neg (fun z => hj z.2)]
  refine ⟨⟨?_, ?_, ?_, ?_⟩, fun f f0 f1 => ?_, fun q q0 q1 => ?_, ⟨?_, fun k k0 k1 => ?_⟩, ⟨?_, fun k c k0 k1 c0 c1 => ?_⟩, fun j j0 j1 => ?_⟩
  · rw [u 0 (by decide), g 3 (by decide)]; exact c0
  · rw [u 4 (by decide), g 4 (by decide)]; exact c1
  · rw [upS_at, if_pos ⟨rfl, rfl⟩, hv]; rfl
  · rw [u 14 (by decide), g 0 (by decide)]; exact c3
  · rw [g 3 (by decide)] at f1
    have w9 : ∀ a, 0 ≤ a → fr (drawR r) f a = fr r f a := fun a a0 => g _ (by omega)
    rw [o 1 (by decide), o 2 (by decide), o 3 (by decide), w9 0 (by decide), w9 1 (by decide), w9 2 (by decide)]
    exact cf f f0 f1
  · rw [g 4 (by decide)] at q1
    have w9 : ∀ a, 0 ≤ a → pr (drawR r) q a = pr r q a := fun a a0 => g _ (by omega)
    obtain ⟨d1, d2, d3, d4⟩ := cp q q0 q1
    rw [o 4 (by decide), o 5 (by decide), o 6 (by decide), o 7 (by decide), o 8 (by decide), w9 0 (by decide), w9 1 (by decide)]
    refine ⟨d1, d2, fun k k0 k1 => ?_, fun hq k k0 k1 => ?_⟩
    · rw [w9 _ (by omega)]; exact d3 k k0 k1
    · rw [w9 _ (by omega), w9 _ (by omega)]; exact d4 hq k k0 k1
  · rw [o 9 (by decide), g 5 (by decide)]; exact cd.1
  · rw [g 5 (by decide)] at k1
    have w9 : ∀ a, 0 ≤ a → dr (drawR r) k a = dr r k a := fun a a0 => g _ (by omega)
    rw [o 10 (by decide), o 11 (by decide), o 12 (by decide), w9 0 (by decide), w9 1 (by decide), w9 2 (by decide)]
    exact cd.2 k k0 k1
  · rw [o 13 (by decide), g 11 (by decide)]; exact cl.1
  · rw [g 11 (by decide)] at k1 ⊢
    have w9 : gr (drawR r) k c = gr r k c := g _ (by omega)
    rw [o 14 (by decide), w9]
    exact cl.2 k c k0 k1 c0 c1
  · rw [o 15 (by decide), g _ (by omega)]; exact cs j j0 j1
theorem RW_set {S : Nat → Int → Int} {w : Nat} {r : Int → Int} {i v : Int} (hR : RW S w r) (hi : 0 ≤ i ∧ i < 5) : RW (upS S (w + 15) i v) w (putR r (6 + i) v) := by
  obtain ⟨⟨c0, c1, c2, c3⟩, cf, cp, cd, cl, cs⟩ := hR
  have o : ∀ k : Nat, k ≠ 15 → upS S (w + 15) i v (w + k) = S (w + k) := fun k hk => if_neg (by omega)
  have o0 : upS S (w + 15) i v w = S w := if_neg (by omega)
  have g : ∀ j, j < 6 ∨ 10 < j → putR r (6 + i) v j = r j := fun j hj => if_neg (by omega)
  refine ⟨?_, fun f f0 f1 => ?_, fun q q0 q1 => ?_, ⟨?_, fun k k0 k1 => ?_⟩, ⟨?_, fun k c k0 k1 c0 c1 => ?_⟩, fun j j0 j1 => ?_⟩
  · rw [o0, g 3 (by omega), g 4 (by omega), g 12 (by omega), g 0 (by omega)]; exact ⟨c0, c1, c2, c3⟩
  · rw [g 3 (by omega)] at f1
    have w9 : ∀ a, 0 ≤ a → fr (putR r (6 + i) v) f a = fr r f a := fun a a0 => g _ (by omega)
    rw [o 1 (by decide), o 2 (by decide), o 3 (by decide), w9 0 (by decide), w9 1 (by decide), w9 2 (by decide)]
    exact cf f f0 f1
  · rw [g 4 (by omega)] at q1
    have w9 : ∀ a, 0 ≤ a → pr (putR r (6 + i) v) q a = pr r q a := fun a a0 => g _ (by omega)
    obtain ⟨d1, d2, d3, d4⟩ := cp q q0 q1
    rw [o 4 (by decide), o 5 (by decide), o 6 (by decide), o 7 (by decide), o 8 (by decide), w9 0 (by decide), w9 1 (by decide)]
    refine ⟨d1, d2, fun k k0 k1 => ?_, fun hq k k0 k1 => ?_⟩
    · rw [w9 _ (by omega)]; exact d3 k k0 k1
    · rw [w9 _ (by omega), w9 _ (by omega)]; exact d4 hq k k0 k1
  · rw [o 9 (by decide), g 5 (by omega)]; exact cd.1
  · rw [g 5 (by omega)] at k1
    have w9 : ∀ a, 0 ≤ a → dr (putR r (6 + i) v) k a = dr r k a := fun a a0 => g _ (by omega)
    rw [o 10 (by decide), o 11 (by decide), o 12 (by decide), w9 0 (by decide), w9 1 (by decide), w9 2 (by decide)]
    exact cd.2 k k0 k1
  · rw [o 13 (by decide), g 11 (by omega)]; exact cl.1
  · rw [g 11 (by omega)] at k1 ⊢
    have w9 : gr (putR r (6 + i) v) k c = gr r k c := g _ (by omega)
    rw [o 14 (by decide), w9]
    exact cl.2 k c k0 k1 c0 c1
  · rw [upS_at]
    by_cases z : j = i
    · rw [if_pos ⟨rfl, z⟩, z]; exact (if_pos rfl).symm
    · rw [if_neg (fun y => z y.2)]
      exact (cs j j0 j1).trans (if_neg (show ¬ 6 + j = 6 + i by omega)).symm
section Days1
variable {tb : Tab} {d : Nat} {m : AM} {K : Out → AM → Prop} {S : Nat → Int → Int} {w : Nat} {r : Int → Int}
theorem k2_0 : pg.1 2 0 = [.aload 0, .bipush 1103515245, .aload 0, .getfield 813, .imul, .bipush 12345, .iadd, .putfield 813, .aload 0, .getfield 813, .bipush 16, .iushr, .bipush 32767, .iand, .ireturn] := rfl
theorem a2_0 {tb : Tab} {d : Nat} {K : Out → AM → Prop} {ls st : List AV} {m : AM} : At tb d 2 K 0 ls st m = wpB tb (pg.2.1 2) (Runs tb pg d) K (At tb d 2 K) [.aload 0, .bipush 1103515245, .aload 0, .getfield 813, .imul, .bipush 12345, .iadd, .putfield 813, .aload 0, .getfield 813, .bipush 16, .iushr, .bipush 32767, .iand, .ireturn] ls st m := At.eq k2_0
theorem w_2 (hw : isW w) (hR : RW S w r) (hA : AB r) (hK : ∀ T, RW T w (drawR r) → EW S T w → T w 15 = S w 15 → K (.inl (some (vi (drawV r)))) (X T m)) : Runs tb pg (d + 1) 2 [vr w] (X S m) K := by
  refine Runs.of (al := [vr w]) (n := 0) trivial rfl rfl trivial ?_
  have b3 := hA.2.1.1
  have b4 := hA.2.1.2.1
  have b5 := hA.2.1.2.2.1
  have e0 := hR.1.1
  have e4 := hR.1.2.1
  have es := hR.1.2.2.1
  have h2 := hK _ (RW_draw (v := 1103515245 * S w 13 + 12345) hR (by rw [es])) (EW_u0 EW_r) (by rw [upS_at, if_neg (by omega)])
  unfold drawV at h2
  rw [← es] at h2
  repeat' (first | omega | (exact h2) | simp only [w_aload, w_iconst, x_g813_w0, w_imul, w_iadd, x_p813_w0, w_iushr, w_iand, w_ireturn, a2_0, R32, List.getElem?_cons_zero, List.getElem?_cons_succ, List.set_cons_zero, List.set_cons_succ, List.cons_append, List.nil_append, List.replicate_succ, List.replicate_zero, List.take_succ_cons, List.take_zero, List.drop_succ_cons, List.drop_zero, List.reverse_cons, List.reverse_nil, List.length_cons, List.length_nil, Option.toList, true_and, and_true, eq_self, ↓reduceIte, not_true_eq_false, not_false_eq_true, true_or, or_true, hw, ux_s] | with_reducible refine And.intro ?_ ?_ | with_reducible intro _)
  all_goals (try (first | omega | (exfalso; assumption) | skip))
theorem k3_0 : pg.1 3 0 = [.aload 0, .getfield 812, .bipush 4, .bipush 9999, .aload 0, .getfield 812, .bipush 4, .iaload, .bipush 1, .iadd, .invokestatic 0, .iastore, .return_] := rfl
theorem a3_0 {tb : Tab} {d : Nat} {K : Out → AM → Prop} {ls st : List AV} {m : AM} : At tb d 3 K 0 ls st m = wpB tb (pg.2.1 3) (Runs tb pg d) K (At tb d 3 K) [.aload 0, .getfield 812, .bipush 4, .bipush 9999, .aload 0, .getfield 812, .bipush 4, .iaload, .bipush 1, .iadd, .invokestatic 0, .iastore, .return_] ls st m := At.eq k3_0
theorem w_3 (hw : isW w) (hR : RW S w r) (hA : AB r) (hK : ∀ T, RW T w (st4 r) → EW S T w → T w 15 = S w 15 → K (.inl none) (X T m)) : Runs tb pg (d + 1) 3 [vr w] (X S m) K := by
  refine Runs.of (al := [vr w]) (n := 0) trivial rfl rfl trivial ?_
  have b3 := hA.2.1.1
  have b4 := hA.2.1.2.1
  have b5 := hA.2.1.2.2.1
  have e0 := hR.1.1
  have e4 := hR.1.2.1
  have es := hR.2.2.2.2.2 4 (by omega) (by omega)
  have b10 := hA.2.1.2.2.2.2.2.2.2.2
  have es2 : S (w + 15) 4 = r 10 := es
  have h4 : ∀ v, v = (if 9999 < r 10 + 1 then 9999 else r 10 + 1) → K (.inl none) (X (upS S (w + 15) 4 v) m) := fun v hv => hK _ (by rw [hv]; exact RW_set (i := 4) hR (by omega)) (EW_u EW_r (by omega)) (by rw [show upS S (w + 15) 4 v w = S w from if_neg (by omega)])
  repeat' (first | omega | (refine h4 _ ?_) | simp only [w_aload, x_g812_w0, w_iconst, x_iald, w_ialoads, w_ialoadw, w_iadd, w_min, x_iast, w_return, isA_w1, isA_w2, isA_w3, isA_w4, isA_w5, isA_w6, isA_w7, isA_w8, isA_w10, isA_w11, isA_w12, isA_w14, isA_w15, isA_w16, len_w1, len_w2, len_w3, len_w4, len_w5, len_w6, len_w7, len_w8, len_w10, len_w11, len_w12, len_w14, len_w15, len_w16, Int.cast_ofNat_Int, a3_0, R32, List.getElem?_cons_zero, List.getElem?_cons_succ, List.set_cons_zero, List.set_cons_succ, List.cons_append, List.nil_append, List.replicate_succ, List.replicate_zero, List.take_succ_cons, List.take_zero, List.drop_succ_cons, List.drop_zero, List.reverse_cons, List.reverse_nil, List.length_cons, List.length_nil, Option.toList, true_and, and_true, eq_self, ↓reduceIte, not_true_eq_false, not_false_eq_true, true_or, or_true, hw] | with_reducible refine And.intro ?_ ?_ | with_reducible intro _)
  all_goals (try (first | omega | (exfalso; assumption) | grind))
end Days1
