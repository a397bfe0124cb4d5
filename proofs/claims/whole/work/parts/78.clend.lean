/-! ===== THE CLASS: debts made and paid ===== -/
theorem up_ne {S : Nat → Int → Int} {w k l : Nat} {i x : Int} (h : k ≠ l) : upS S (w + l) i x (w + k) = S (w + k) := if_neg (by omega)
theorem up_n0 {S : Nat → Int → Int} {w l : Nat} {i x : Int} (h : l ≠ 0) : upS S (w + l) i x w = S w := if_neg (by omega)
/-- one row of the debts more -/
def addS (S : Nat → Int → Int) (w : Nat) (a b c : Int) : Nat → Int → Int := upS (upS (upS (upS S (w + 10) (S (w + 9) 0) a) (w + 11) (S (w + 9) 0) b) (w + 12) (S (w + 9) 0) c) (w + 9) 0 (S (w + 9) 0 + 1)
theorem addS_o {S : Nat → Int → Int} {w k : Nat} {a b c : Int} (h : k < 9 ∨ 12 < k) : addS S w a b c (w + k) = S (w + k) := by
  unfold addS
  rw [up_ne (by omega), up_ne (by omega), up_ne (by omega), up_ne (by omega)]
theorem addS_0 {S : Nat → Int → Int} {w : Nat} {a b c : Int} : addS S w a b c w = S w := by
  unfold addS
  rw [up_n0 (by omega), up_n0 (by omega), up_n0 (by omega), up_n0 (by omega)]
theorem addS_EW {S : Nat → Int → Int} {w : Nat} {a b c : Int} : EW S (addS S w a b c) w := EW_u (EW_u (EW_u (EW_u EW_r (by omega)) (by omega)) (by omega)) (by omega)
theorem RW_ln {S : Nat → Int → Int} {w : Nat} {r : Int → Int} {p o n : Int} (hA : AB r) (hR : RW S w r) (h5 : r 5 < 8) : RW (addS S w p o n) w (lendR r p o n) := by
  obtain ⟨⟨c0, c1, c2, c3⟩, cf, cp, cd, cl, cs⟩ := hR
  have b3 := hA.2.1.1
  have b4 := hA.2.1.2.1
  have b5 := hA.2.1.2.2.1
  have b11 := hA.2.1.2.2.2.2.2.2.1
  have e : ∀ j, j < 151 ∨ 175 ≤ j → j ≠ 5 → lendR r p o n j = r j := fun j h1 h2 => lendR_o b5.1 h1 h2 h5
  have d9 := cd.1
  refine ⟨?_, fun g g0 g1 => ?_, fun q q0 q1 => ?_, ⟨?_, fun k k0 k1 => ?_⟩, ⟨?_, fun k c k0 k1 c0 c1 => ?_⟩, fun j j0 j1 => ?_⟩
  · rw [addS_0, e 3 (by omega) (by omega), e 4 (by omega) (by omega), e 12 (by omega) (by omega), e 0 (by omega) (by omega)]
    exact ⟨c0, c1, c2, c3⟩
  · rw [e 3 (by omega) (by omega)] at g1
    have w9 : ∀ v9, 0 ≤ v9 → v9 < 3 → fr (lendR r p o n) g v9 = fr r g v9 := fun v9 v0 v1 => e _ (by omega) (by omega)
    rw [addS_o (by omega), addS_o (by omega), addS_o (by omega), w9 0 (by decide) (by decide), w9 1 (by decide) (by decide), w9 2 (by decide) (by decide)]
    exact cf g g0 g1
  · rw [e 4 (by omega) (by omega)] at q1
    have zq := AB_pp hA q0 q1
    have w9 : ∀ v9, 0 ≤ v9 → v9 < 20 → pr (lendR r p o n) q v9 = pr r q v9 := fun v9 v0 v1 => e _ (by omega) (by omega)
    obtain ⟨d1, d2, d3, d4⟩ := cp q q0 q1
    rw [addS_o (by omega), addS_o (by omega), addS_o (by omega), addS_o (by omega), addS_o (by omega), w9 0 (by decide) (by decide), w9 1 (by decide) (by decide)]
    refine ⟨d1, d2, fun k k0 k1 => ?_, fun hq k k0 k1 => ?_⟩
    · rw [w9 _ (by omega) (by omega)]; exact d3 k k0 k1
    · rw [w9 _ (by omega) (by omega), w9 _ (by omega) (by omega)]; exact d4 hq k k0 k1
  · show addS S w p o n (w + 9) 0 = r 5 + 1
    unfold addS
    rw [upS_at, if_pos ⟨rfl, rfl⟩, d9]
  · have k1 : k < r 5 + 1 := k1
    have g10 : addS S w p o n (w + 10) k = if k = r 5 then p else S (w + 10) k := by
      unfold addS
      rw [up_ne (by omega), up_ne (by omega), up_ne (by omega), upS_at, d9]
      by_cases z : k = r 5
      · rw [if_pos ⟨rfl, z⟩, if_pos z]
      · rw [if_neg (fun y => z y.2), if_neg z]
    have g11 : addS S w p o n (w + 11) k = if k = r 5 then o else S (w + 11) k := by
      unfold addS
      rw [up_ne (by omega), up_ne (by omega), upS_at, d9]
      by_cases z : k = r 5
      · rw [if_pos ⟨rfl, z⟩, if_pos z]
      · rw [if_neg (fun y => z y.2), if_neg z, up_ne (by omega)]
    have g12 : addS S w p o n (w + 12) k = if k = r 5 then n else S (w + 12) k := by
      unfold addS
      rw [up_ne (by omega), upS_at, d9]
      by_cases z : k = r 5
      · rw [if_pos ⟨rfl, z⟩, if_pos z]
      · rw [if_neg (fun y => z y.2), if_neg z, up_ne (by omega), up_ne (by omega)]
    have h0 : dr (lendR r p o n) k 0 = if k = r 5 then p else dr r k 0 := by
      show lendR r p o n (151 + 3 * k + 0) = _
      rw [lendR_e, if_neg (by omega)]
      by_cases z : k = r 5
      · rw [if_pos (by omega), if_pos z]
      · rw [if_neg (by omega), if_neg (by omega), if_neg (by omega), if_neg z]; rfl
    have h1 : dr (lendR r p o n) k 1 = if k = r 5 then o else dr r k 1 := by
      show lendR r p o n (151 + 3 * k + 1) = _
      rw [lendR_e, if_neg (by omega), if_neg (by omega)]
      by_cases z : k = r 5
      · rw [if_pos (by omega), if_pos z]
      · rw [if_neg (by omega), if_neg (by omega), if_neg z]; rfl
    have h2 : dr (lendR r p o n) k 2 = if k = r 5 then n else dr r k 2 := by
      show lendR r p o n (151 + 3 * k + 2) = _
      rw [lendR_e, if_neg (by omega), if_neg (by omega), if_neg (by omega)]
      by_cases z : k = r 5
      · rw [if_pos (by omega), if_pos z]
      · rw [if_neg (by omega), if_neg z]; rfl
    rw [g10, g11, g12, h0, h1, h2]
    by_cases z : k = r 5
    · rw [if_pos z, if_pos z, if_pos z, if_pos z, if_pos z, if_pos z]; exact ⟨rfl, rfl, rfl⟩
    · rw [if_neg z, if_neg z, if_neg z, if_neg z, if_neg z, if_neg z]
      exact cd.2 k k0 (by omega)
  · rw [addS_o (by omega), e 11 (by omega) (by omega)]; exact cl.1
  · rw [e 11 (by omega) (by omega)] at k1 ⊢
    have w9 : gr (lendR r p o n) k c = gr r k c := e _ (by omega) (by omega)
    rw [addS_o (by omega), w9]
    exact cl.2 k c k0 k1 c0 c1
  · rw [addS_o (by omega), e (6 + j) (by omega) (by omega)]
    exact cs j j0 j1
section World7
variable {tb : Tab} {d : Nat} {m : AM} {K : Out → AM → Prop} {S : Nat → Int → Int} {w : Nat} {r : Int → Int}
theorem a14_0 {tb : Tab} {d : Nat} {K : Out → AM → Prop} {ls st : List AV} {m : AM} : At tb d 14 K 0 ls st m = wpB tb (pg.2.1 14) (Runs tb pg d) K (At tb d 14 K) [.aload 0, .getfield 0, .bipush 8, .if_icmp .ge 49, .aload 0, .getfield 1, .aload 0, .getfield 0, .iload 1, .iastore, .aload 0, .getfield 2, .aload 0, .getfield 0, .iload 2, .iastore, .aload 0, .getfield 3, .aload 0, .getfield 0, .iload 3, .iastore, .aload 0, .dup, .getfield 0, .bipush 1, .iadd, .putfield 0, .jsr 49] ls st m := At.eq k14_0
theorem a14_49 {tb : Tab} {d : Nat} {K : Out → AM → Prop} {ls st : List AV} {m : AM} : At tb d 14 K 49 ls st m = wpB tb (pg.2.1 14) (Runs tb pg d) K (At tb d 14 K) [.return_] ls st m := At.eq k14_49
theorem w_14 {a b c : Int} (hw : isW w) (hs : 0 ≤ S (w + 9) 0 ∧ S (w + 9) 0 < 8) (hK : K (.inl none) (X (addS S w a b c) m)) : Runs tb pg (d + 1) 14 [vr (w + 9), vi a, vi b, vi c] (X S m) K := by
  refine Runs.of (al := [vr (w + 9), vi a, vi b, vi c]) (n := 0) ⟨w + 9, _, _, rfl, xo_w9 hw⟩ rfl rfl trivial ?_
  repeat' (first | omega | (exact hK) | simp only [w_aload, x_g0_w9, w_iconst, w_ifc, cI, Int.reduceToNat, x_g1_w9, w_iload, x_iast, x_g2_w9, x_g3_w9, w_dupi, w_dupr, w_iadd, x_p0_w9, w_fall, w_return, isA_w1, isA_w2, isA_w3, isA_w4, isA_w5, isA_w6, isA_w7, isA_w8, isA_w10, isA_w11, isA_w12, isA_w14, isA_w15, isA_w16, len_w1, len_w2, len_w3, len_w4, len_w5, len_w6, len_w7, len_w8, len_w10, len_w11, len_w12, len_w14, len_w15, len_w16, Int.cast_ofNat_Int, a14_0, a14_49, R32, List.getElem?_cons_zero, List.getElem?_cons_succ, List.set_cons_zero, List.set_cons_succ, List.cons_append, List.nil_append, List.replicate_succ, List.replicate_zero, List.take_succ_cons, List.take_zero, List.drop_succ_cons, List.drop_zero, List.reverse_cons, List.reverse_nil, List.length_cons, List.length_nil, Option.toList, true_and, and_true, eq_self, ↓reduceIte, not_true_eq_false, not_false_eq_true, true_or, or_true, hw, up_ne, ne_eq, Nat.reduceEqDiff, not_false_eq_true] | with_reducible refine And.intro ?_ ?_ | with_reducible intro _)
  all_goals (try (first | omega | (exfalso; assumption) | skip))
end World7
