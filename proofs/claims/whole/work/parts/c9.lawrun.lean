/-! ===== THE LAW WHOLE, in the abstract machine ===== -/
theorem swB_c {J : Nat → Prop} {d x k t : Int} {ps : List (Int × Int)} (h : J t.toNat) (g : swB J d ps x) : swB J d ((k, t) :: ps) x := ⟨fun _ => h, fun _ => g⟩
theorem gr_s {a b c0 j : Nat} (h : a ≤ c0 + 600 * j) (g : b ≤ a + 600) : b ≤ c0 + 600 * (j + 1) := by
  rw [Nat.mul_succ, ← Nat.add_assoc]
  exact Nat.le_trans g (Nat.add_le_add_right h _)
theorem law_loop {tb : Tab} {d c0 : Nat} (h0 : c0 + 600 * 513 ≤ 7293034) {K : Out → AM → Prop} (hX : tb.2.1 = strB) (hD : tb.1 2 = [vi 0, vn, vn, vn, vn, vn]) (hf : ∀ j, R32 (tb.2.2.2 j)) (hn : tb.2.2.1 ≤ 3072) (hK : ∀ S m, m.2.2.1 ≤ 601024 → m.2.2.2 ≤ 7293034 → K (.inl (some (vi 1))) (X S m)) :
    ∀ (k j : Nat) (r : Int → Int) (S : Nat → Int → Int) (m : AM) (z5 z6 : AV), j + k = 513 → TOP r S m → m.2.2.1 ≤ 317 + 7 * j → m.2.2.2 ≤ c0 + 600 * j → AtL tb (d + 80) K 23 [vx 0, vr 0, vr 300, vr 316, vi (6 * (j : Int)), z5, z6] [] (X S m) := by
  intro k
  induction k with
  | zero =>
    intro j r S m z5 z6 hj h hc hw
    rw [AtL.eq kl_23]
    simp only [w_alens, w_isub, w_aload, w_iload, w_iconst, w_lconst, w_iadd, w_ialoads, w_call, w_istore, w_goto, w_fall, w_if, w_ifc, w_i2l, w_lcmp, w_zreturn, x_lald isA_316x, len_316x, cI, Int.reduceToNat, Option.toList, List.getElem?_cons_zero, List.getElem?_cons_succ, List.set_cons_zero, List.set_cons_succ, List.cons_append, List.nil_append, List.replicate_succ, List.replicate_zero, List.take_succ_cons, List.take_zero, List.drop_succ_cons, List.drop_zero, List.reverse_cons, List.reverse_nil, List.length_cons, List.length_nil, Option.toList, true_and, and_true, eq_self, ↓reduceIte, not_true_eq_false, not_false_eq_true, true_or, or_true, List.append_eq]
    refine ⟨Or.inl ⟨by unfold R32; omega, by unfold R32; omega⟩, fun _ => ?_, fun z => absurd (show (tb.2.2.1 : Int) - 6 < 6 * (j : Int) by omega) z⟩
    rw [AtL.eq kl_2865]
    simp only [w_aload, w_iload, w_iconst, w_lconst, w_iadd, w_ialoads, w_call, w_istore, w_goto, w_fall, w_if, w_ifc, w_i2l, w_lcmp, w_zreturn, x_lald isA_316x, len_316x, cI, Int.reduceToNat, Option.toList, List.getElem?_cons_zero, List.getElem?_cons_succ, List.set_cons_zero, List.set_cons_succ, List.cons_append, List.nil_append, List.replicate_succ, List.replicate_zero, List.take_succ_cons, List.take_zero, List.drop_succ_cons, List.drop_zero, List.reverse_cons, List.reverse_nil, List.length_cons, List.length_nil, Option.toList, true_and, and_true, eq_self, ↓reduceIte, not_true_eq_false, not_false_eq_true, true_or, or_true, List.append_eq]
    exact hK S m (by omega) (by omega)
  | succ k ih =>
    intro j r S m z5 z6 hj h hc hw
    rw [AtL.eq kl_23]
    simp only [w_alens, w_isub, w_aload, w_iload, w_iconst, w_lconst, w_iadd, w_ialoads, w_call, w_istore, w_goto, w_fall, w_if, w_ifc, w_i2l, w_lcmp, w_zreturn, x_lald isA_316x, len_316x, cI, Int.reduceToNat, Option.toList, List.getElem?_cons_zero, List.getElem?_cons_succ, List.set_cons_zero, List.set_cons_succ, List.cons_append, List.nil_append, List.replicate_succ, List.replicate_zero, List.take_succ_cons, List.take_zero, List.drop_succ_cons, List.drop_zero, List.reverse_cons, List.reverse_nil, List.length_cons, List.length_nil, Option.toList, true_and, and_true, eq_self, ↓reduceIte, not_true_eq_false, not_false_eq_true, true_or, or_true, List.append_eq]
    refine ⟨Or.inl ⟨by unfold R32; omega, by unfold R32; omega⟩, fun _ => ?_, fun z => ?_⟩
    · rw [AtL.eq kl_2865]
      simp only [w_aload, w_iload, w_iconst, w_lconst, w_iadd, w_ialoads, w_call, w_istore, w_goto, w_fall, w_if, w_ifc, w_i2l, w_lcmp, w_zreturn, x_lald isA_316x, len_316x, cI, Int.reduceToNat, Option.toList, List.getElem?_cons_zero, List.getElem?_cons_succ, List.set_cons_zero, List.set_cons_succ, List.cons_append, List.nil_append, List.replicate_succ, List.replicate_zero, List.take_succ_cons, List.take_zero, List.drop_succ_cons, List.drop_zero, List.reverse_cons, List.reverse_nil, List.length_cons, List.length_nil, Option.toList, true_and, and_true, eq_self, ↓reduceIte, not_true_eq_false, not_false_eq_true, true_or, or_true, List.append_eq]
      exact hK S m (by omega) (by omega)
    · have zi : 6 * (j : Int) + 6 ≤ (tb.2.2.1 : Int) := by omega
      have go : ∀ r2 T m2 y5 y6, TOP r2 T m2 → GRW m m2 → AtL tb (d + 80) K 2859 [vx 0, vr 0, vr 300, vr 316, vi (6 * (j : Int)), y5, y6] [] (X T m2) := fun r2 T m2 y5 y6 h2 g => by
        rw [AtL.eq kl_2859]
        simp only [w_iinc, lgB, Nat.reduceSub, w_aload, w_iload, w_iconst, w_lconst, w_iadd, w_ialoads, w_call, w_istore, w_goto, w_fall, w_if, w_ifc, w_i2l, w_lcmp, w_zreturn, x_lald isA_316x, len_316x, cI, Int.reduceToNat, Option.toList, List.getElem?_cons_zero, List.getElem?_cons_succ, List.set_cons_zero, List.set_cons_succ, List.cons_append, List.nil_append, List.replicate_succ, List.replicate_zero, List.take_succ_cons, List.take_zero, List.drop_succ_cons, List.drop_zero, List.reverse_cons, List.reverse_nil, List.length_cons, List.length_nil, Option.toList, true_and, and_true, eq_self, ↓reduceIte, not_true_eq_false, not_false_eq_true, true_or, or_true, List.append_eq]
        try refine ⟨trivial, ?_⟩
        rw [show 6 * (j : Int) + 6 = 6 * ((j + 1 : Nat) : Int) by omega]
        exact ih (j + 1) r2 T m2 y5 y6 (by omega) h2 (by obtain ⟨g1, g2⟩ := g; omega) (gr_s hw g.2)
      refine ⟨⟨by omega, by omega⟩, ?_⟩
      simp only [w_iand, w_aload, w_iload, w_iconst, w_lconst, w_iadd, w_ialoads, w_call, w_istore, w_goto, w_fall, w_if, w_ifc, w_i2l, w_lcmp, w_zreturn, x_lald isA_316x, len_316x, cI, Int.reduceToNat, Option.toList, List.getElem?_cons_zero, List.getElem?_cons_succ, List.set_cons_zero, List.set_cons_succ, List.cons_append, List.nil_append, List.replicate_succ, List.replicate_zero, List.take_succ_cons, List.take_zero, List.drop_succ_cons, List.drop_zero, List.reverse_cons, List.reverse_nil, List.length_cons, List.length_nil, Option.toList, true_and, and_true, eq_self, ↓reduceIte, not_true_eq_false, not_false_eq_true, true_or, or_true, List.append_eq]
      rw [w_switch]
      have hq := andI_R (tb.2.2.2 (6 * (j : Int)).toNat) 63
      refine And.intro hq ?_
      refine swB_c (s_264 hX hD (by omega) (by omega) hf _ _ _ _ _ h go) ?_
      refine swB_c (s_337 hX hD (by omega) (by omega) hf _ _ _ _ _ h go) ?_
      refine swB_c (s_362 hX hD (by omega) (by omega) hf _ _ _ _ _ h go) ?_
      refine swB_c (s_406 hX hD (by omega) (by omega) hf _ _ _ _ _ h go) ?_
      refine swB_c (s_450 hX hD (by omega) (by omega) hf _ _ _ _ _ h go) ?_
      refine swB_c (s_463 hX hD (by omega) (by omega) hf _ _ _ _ _ h go) ?_
      refine swB_c (s_531 hX hD (by omega) (by omega) hf _ _ _ _ _ h go) ?_
      refine swB_c (s_599 hX hD (by omega) (by omega) hf _ _ _ _ _ h go) ?_
      refine swB_c (s_679 hX hD (by omega) (by omega) hf _ _ _ _ _ h go) ?_
      refine swB_c (s_747 hX hD (by omega) (by omega) hf _ _ _ _ _ h go) ?_
      refine swB_c (s_815 hX hD (by omega) (by omega) hf _ _ _ _ _ h go) ?_
      refine swB_c (s_883 hX hD (by omega) (by omega) hf _ _ _ _ _ h go) ?_
      refine swB_c (s_939 hX hD (by omega) (by omega) hf _ _ _ _ _ h go) ?_
      refine swB_c (s_1007 hX hD (by omega) (by omega) hf _ _ _ _ _ h go) ?_
      refine swB_c (s_1063 hX hD (by omega) (by omega) hf _ _ _ _ _ h go) ?_
      refine swB_c (s_1131 hX hD (by omega) (by omega) hf _ _ _ _ _ h go) ?_
      refine swB_c (s_1211 hX hD (by omega) (by omega) hf _ _ _ _ _ h go) ?_
      refine swB_c (s_1267 hX hD (by omega) (by omega) hf _ _ _ _ _ h go) ?_
      refine swB_c (s_1335 hX hD (by omega) (by omega) hf _ _ _ _ _ h go) ?_
      refine swB_c (s_1403 hX hD (by omega) (by omega) hf _ _ _ _ _ h go) ?_
      refine swB_c (s_1471 hX hD (by omega) (by omega) hf _ _ _ _ _ h go) ?_
      refine swB_c (s_1515 hX hD (by omega) (by omega) hf _ _ _ _ _ h go) ?_
      refine swB_c (s_1559 hX hD (by omega) (by omega) hf _ _ _ _ _ h go) ?_
      refine swB_c (s_1603 hX hD (by omega) (by omega) hf _ _ _ _ _ h go) ?_
      refine swB_c (s_1616 hX hD (by omega) (by omega) hf _ _ _ _ _ h go) ?_
      refine swB_c (s_1684 hX hD (by omega) (by omega) hf _ _ _ _ _ h go) ?_
      refine swB_c (s_1759 hX hD (by omega) (by omega) hf _ _ _ _ _ h go) ?_
      refine swB_c (s_1772 hX hD (by omega) (by omega) hf _ _ _ _ _ h go) ?_
      refine swB_c (s_1852 hX hD (by omega) (by omega) hf _ _ _ _ _ h go) ?_
      refine swB_c (s_1865 hX hD (by omega) (by omega) hf _ _ _ _ _ h go) ?_
      refine swB_c (s_1878 hX hD (by omega) (by omega) hf _ _ _ _ _ h go) ?_
      refine swB_c (s_1891 hX hD (by omega) (by omega) hf _ _ _ _ _ h go) ?_
      refine swB_c (s_1904 hX hD (by omega) (by omega) hf _ _ _ _ _ h go) ?_
      refine swB_c (s_1917 hX hD (by omega) (by omega) hf _ _ _ _ _ h go) ?_
      refine swB_c (s_1930 hX hD (by omega) (by omega) hf _ _ _ _ _ h go) ?_
      refine swB_c (s_1986 hX hD (by omega) (by omega) hf _ _ _ _ _ h go) ?_
      refine swB_c (s_2054 hX hD (by omega) (by omega) hf _ _ _ _ _ h go) ?_
      refine swB_c (s_2122 hX hD (by omega) (by omega) hf _ _ _ _ _ h go) ?_
      refine swB_c (s_2190 hX hD (by omega) (by omega) hf _ _ _ _ _ h go) ?_
      refine swB_c (s_2246 hX hD (by omega) (by omega) hf _ _ _ _ _ h go) ?_
      refine swB_c (s_2287 hX hD (by omega) (by omega) hf _ _ _ _ _ h go) ?_
      refine swB_c (s_2300 hX hD (by omega) (by omega) hf _ _ _ _ _ h go) ?_
      refine swB_c (s_2356 hX hD (by omega) (by omega) hf _ _ _ _ _ h go) ?_
      refine swB_c (s_2452 hX hD (by omega) (by omega) hf _ _ _ _ _ h go) ?_
      refine swB_c (s_2536 hX hD (by omega) (by omega) hf _ _ _ _ _ h go) ?_
      refine swB_c (s_2620 hX hD (by omega) (by omega) hf _ _ _ _ _ h go) ?_
      refine swB_c (s_2704 hX hD (by omega) (by omega) hf _ _ _ _ _ h go) ?_
      refine swB_c (s_2772 hX hD (by omega) (by omega) hf _ _ _ _ _ h go) ?_
      refine swB_c (s_2797 hX hD (by omega) (by omega) hf _ _ _ _ _ h go) ?_
      refine swB_c (s_2810 hX hD (by omega) (by omega) hf _ _ _ _ _ h go) ?_
      refine swB_c (s_2821 hX hD (by omega) (by omega) hf _ _ _ _ _ h go) ?_
      refine swB_c (s_2834 hX hD (by omega) (by omega) hf _ _ _ _ _ h go) ?_
      exact go r S m z5 z6 h GRW_r
/-- the row behind the constructors -/
theorem S0_301 (j : Int) : S0 301 j = if j = 1 then -1 else if j = 6 then 5 else if j = 7 then 50 else if j = 12 then 1 else 0 := rfl
theorem S0_r0 {j : Int} (h : j ≠ 1) (h6 : j ≠ 6) (h7 : j ≠ 7) (h12 : j ≠ 12) : S0 301 j = 0 := by rw [S0_301, if_neg h, if_neg h6, if_neg h7, if_neg h12]
theorem RI_0 : RI (S0 301) := by
  have e5 : S0 301 5 = 0 := rfl
  have e4 : S0 301 4 = 0 := rfl
  refine ⟨⟨fun j hj => ?_, ?_, fun p p0 p1 => ?_, fun f f0 f1 => ?_, fun k k0 k1 => by rw [e5] at k1; omega, fun p p0 p1 => by rw [e4] at p1; omega⟩, fun k k0 k1 => by rw [e5] at k1; omega, fun p k p0 p1 => by rw [e4] at p1; omega, fun k k0 k1 => by rw [e5] at k1; omega, Or.inl (by show (-1 : Int) < 1; decide)⟩
  · rw [S0_301]
    split
    · omega
    · split
      · omega
      · split
        · omega
        · first | omega | (split <;> omega)
  · unfold B1
    refine ⟨?_, ?_, ?_, ?_, ?_, ?_, ?_, ?_, ?_⟩ <;> decide
  · rw [show pr (S0 301) p 0 = 0 from S0_r0 (by omega) (by omega) (by omega) (by omega), show pr (S0 301) p 1 = 0 from S0_r0 (by omega) (by omega) (by omega) (by omega)]
    refine ⟨by decide, by decide, fun k k0 k1 => ?_⟩
    rw [show pr (S0 301) p (14 + k) = 0 from S0_r0 (by omega) (by omega) (by omega) (by omega), show pr (S0 301) p (2 + k) = 0 from S0_r0 (by omega) (by omega) (by omega) (by omega)]
    exact ⟨by decide, by decide⟩
  · rw [show fr (S0 301) f 0 = 0 from S0_r0 (by omega) (by omega) (by omega) (by omega), show fr (S0 301) f 1 = 0 from S0_r0 (by omega) (by omega) (by omega) (by omega), show fr (S0 301) f 2 = 0 from S0_r0 (by omega) (by omega) (by omega) (by omega)]
    exact ⟨by decide, by decide, by decide⟩
theorem TOP_0 {m : AM} (hm : 317 ≤ m.2.1) : TOP (S0 301) S0 m := by
  have e3 : S0 301 3 = 0 := rfl
  have e4 : S0 301 4 = 0 := rfl
  have e5 : S0 301 5 = 0 := rfl
  have e11 : S0 301 11 = 0 := rfl
  refine ⟨⟨rfl, RI_0, ⟨⟨rfl, rfl, rfl, rfl⟩, fun f f0 f1 => by rw [e3] at f1; omega, fun p p0 p1 => by rw [e4] at p1; omega, ⟨rfl, fun k k0 k1 => by rw [e5] at k1; omega⟩, ⟨rfl, fun k c k0 k1 => by rw [e11] at k1; omega⟩, fun j j0 j1 => ?_⟩, Or.inl ⟨rfl, rfl⟩⟩, ⟨rfl, by decide, rfl, fun j j0 j1 => ?_⟩, rfl, ⟨rfl, Or.inl rfl, fun z => absurd z (by decide), fun j hj => S0_r0 (by omega) (by omega) (by omega) (by omega), fun j hj => rfl⟩, ⟨rfl, by decide, by decide, fun k k0 k1 => ?_⟩, fun i i0 i1 => ?_, hm⟩
  · have c : j = 0 ∨ j = 1 ∨ j = 2 ∨ j = 3 ∨ j = 4 := by omega
    rcases c with c | c | c | c | c <;> subst c <;> rfl
  · show 0 ≤ (0 : Int) ∧ (0 : Int) < 256
    decide
  · have : S0 300 6 = 0 := rfl
    omega
  · show (if 0 ≤ i ∧ i < 7 then worthT i.toNat else 0) = worthT i.toNat
    rw [if_pos ⟨i0, i1⟩]
/-- the empty memory -/
def m00 : AM := (fun _ => co 999 [], (0, 0, 0))
theorem law_all {n : Nat} {f : Nat → Int} {d : Nat} {K : Out → AM → Prop} (hf : ∀ j, R32 (f j)) (hn : n ≤ 3072) (hK : ∀ S m, m.2.2.1 ≤ 601024 → m.2.2.2 ≤ 7293034 → K (.inl (some (vi 1))) (X S m)) : AtL (tbS n f) (d + 80) K 0 [vx 0, vu, vu, vu, vu, vu, vu] [] m00 := by
  have hT : (tbS n f).1 = dfl := rfl
  rw [AtL.eq kl_0, w_new, w_dupr, w_call]
  refine ⟨⟨by simp, by simp⟩, ?_⟩
  refine c_127 (d := d + 76) hT _ _ ⟨rfl, rfl, by show 0 + (dfl 9).length ≤ 5000 * (0 + 1); decide⟩ rfl (fun m1 a1 a2 a3 => ?_)
  simp only [w_astore, w_aload, w_iload, w_iconst, w_lconst, w_iadd, w_ialoads, w_call, w_istore, w_goto, w_fall, w_if, w_ifc, w_i2l, w_lcmp, w_zreturn, x_lald isA_316x, len_316x, cI, Int.reduceToNat, Option.toList, List.getElem?_cons_zero, List.getElem?_cons_succ, List.set_cons_zero, List.set_cons_succ, List.cons_append, List.nil_append, List.replicate_succ, List.replicate_zero, List.take_succ_cons, List.take_zero, List.drop_succ_cons, List.drop_zero, List.reverse_cons, List.reverse_nil, List.length_cons, List.length_nil, Option.toList, true_and, and_true, eq_self, ↓reduceIte, not_true_eq_false, not_false_eq_true, true_or, or_true, List.append_eq]
  rw [w_new, w_dupr, w_call, a1.1]
  refine ⟨⟨by simp, by simp⟩, ?_⟩
  refine c_198 (d := d + 78) hT _ _ ⟨by show m1.2.1 + 1 = 301; rw [a1.1], by show m1.2.2.1 + 1 = 301; rw [a1.2.1], by show m1.2.2.2 + _ ≤ 5000 * 301; have := a1.2.2; exact Nat.le_trans (Nat.add_le_add_right this _) (by show 5000 * (0 + 300) + (dfl 10).length ≤ 5000 * 301; decide)⟩ (by rw [mnew_1, if_pos a1.1.symm]; rfl) (fun m2 b1 b2 b3 => ?_)
  simp only [w_astore, w_aload, w_iload, w_iconst, w_lconst, w_iadd, w_ialoads, w_call, w_istore, w_goto, w_fall, w_if, w_ifc, w_i2l, w_lcmp, w_zreturn, x_lald isA_316x, len_316x, cI, Int.reduceToNat, Option.toList, List.getElem?_cons_zero, List.getElem?_cons_succ, List.set_cons_zero, List.set_cons_succ, List.cons_append, List.nil_append, List.replicate_succ, List.replicate_zero, List.take_succ_cons, List.take_zero, List.drop_succ_cons, List.drop_zero, List.reverse_cons, List.reverse_nil, List.length_cons, List.length_nil, Option.toList, true_and, and_true, eq_self, ↓reduceIte, not_true_eq_false, not_false_eq_true, true_or, or_true, List.append_eq]
  rw [w_newl, b1.1]
  refine ⟨by decide, ?_⟩
  simp only [w_astore, w_aload, w_iload, w_iconst, w_lconst, w_iadd, w_ialoads, w_call, w_istore, w_goto, w_fall, w_if, w_ifc, w_i2l, w_lcmp, w_zreturn, x_lald isA_316x, len_316x, cI, Int.reduceToNat, Option.toList, List.getElem?_cons_zero, List.getElem?_cons_succ, List.set_cons_zero, List.set_cons_succ, List.cons_append, List.nil_append, List.replicate_succ, List.replicate_zero, List.take_succ_cons, List.take_zero, List.drop_succ_cons, List.drop_zero, List.reverse_cons, List.reverse_nil, List.length_cons, List.length_nil, Option.toList, true_and, and_true, eq_self, ↓reduceIte, not_true_eq_false, not_false_eq_true, true_or, or_true, List.append_eq]
  have hM : mnew m2 (ca 1 (1 : Int).toNat (fun _ => 0)) (1 : Int).toNat = X S0 (mnew m2 (ca 1 (1 : Int).toNat (fun _ => 0)) (1 : Int).toNat) := by
    refine Prod.ext (funext fun a => ?_) rfl
    show (if a = m2.2.1 then _ else m2.1 a) = if a < 317 then cX a (S0 a) else (if a = m2.2.1 then _ else m2.1 a)
    by_cases z : a < 317
    · rw [if_pos z, b1.1]
      by_cases y : a = 316
      · rw [if_pos y, y]; rfl
      · rw [if_neg y]
        by_cases x : a < 300
        · rw [b2 a x, mnew_1, if_neg (by rw [a1.1]; omega)]
          exact a3 a (Nat.zero_le _) (by omega)
        · exact b3 a (by omega) (by omega)
    · rw [if_neg z]
  have hL := law_loop (tb := tbS n f) (d := d) (c0 := 5000 * 316 + 1) (by decide) rfl rfl hf hn hK 513 0 (S0 301) S0 (mnew m2 (ca 1 (1 : Int).toNat (fun _ => 0)) (1 : Int).toNat) vu vu rfl (TOP_0 (by show 317 ≤ m2.2.1 + 1; rw [b1.1]; exact Nat.le_refl _)) (by show m2.2.2.1 + 1 ≤ _; rw [b1.2.1]; exact Nat.le_refl _) (by show m2.2.2.2 + 1 ≤ _; have := b1.2.2; omega)
  rw [← hM] at hL
  exact hL
