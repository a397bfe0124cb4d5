/-! ===== THE CLASS: the snow of all fields ===== -/
/-- the snow of the first i fields is new -/
def snS (S : Nat → Int → Int) (w : Nat) (g : Int → Int) (i : Int) : Nat → Int → Int := fun b => if b = w + 2 then (fun j => if 0 ≤ j ∧ j < i then g j else S (w + 2) j) else S b
theorem snS_2 {S : Nat → Int → Int} {w : Nat} {g : Int → Int} {i j : Int} : snS S w g i (w + 2) j = if 0 ≤ j ∧ j < i then g j else S (w + 2) j := by unfold snS; rw [if_pos rfl]
theorem snS_o {S : Nat → Int → Int} {w b : Nat} {g : Int → Int} {i : Int} (h : b ≠ w + 2) : snS S w g i b = S b := if_neg h
theorem snS_0 {S : Nat → Int → Int} {w : Nat} {g : Int → Int} : S = snS S w g 0 := by
  funext b j
  by_cases h : b = w + 2
  · subst h; rw [snS_2, if_neg (by omega)]
  · rw [snS_o h]
theorem snS_s {S T : Nat → Int → Int} {w : Nat} {g : Int → Int} {i v : Int} (hi : 0 ≤ i) (hT : T = snS S w g i) (hv : v = g i) : upS T (w + 2) i v = snS S w g (i + 1) := by
  subst hT
  funext b j
  rw [upS_at]
  by_cases h : b = w + 2
  · subst h
    rw [snS_2, snS_2]
    by_cases z : j = i
    · rw [if_pos ⟨rfl, z⟩, if_pos (by omega), hv, z]
    · rw [if_neg (fun y => z y.2)]
      by_cases y : 0 ≤ j ∧ j < i
      · rw [if_pos y, if_pos (by omega)]
      · rw [if_neg y, if_neg (by omega)]
  · rw [if_neg (fun y => h y.1), snS_o h, snS_o h]
theorem snS_EW {S : Nat → Int → Int} {w : Nat} {g : Int → Int} {i : Int} : EW S (snS S w g i) w := fun a ha => snS_o (by omega)
theorem RW_sn {S : Nat → Int → Int} {w : Nat} {r : Int → Int} {g : (Int → Int) → Int → Int} (hA : AB r) (hR : RW S w r) : RW (snS S w (fun f => g r (14 + 3 * f)) (r 3)) w (snwP g r (r 3)) := by
  obtain ⟨⟨c0, c1, c2, c3⟩, cf, cp, cd, cl, cs⟩ := hR
  have b3 := hA.2.1.1
  have b4 := hA.2.1.2.1
  have b5 := hA.2.1.2.2.1
  have b11 := hA.2.1.2.2.2.2.2.2.1
  have ee : ∀ j, snwP g r (r 3) j = if 14 ≤ j ∧ j < 13 + 3 * r 3 ∧ (j - 14) % 3 = 0 then g r j else r j := fun j => rfl
  have e : ∀ j, j < 14 ∨ 31 ≤ j → snwP g r (r 3) j = r j := fun j h => by rw [ee, if_neg (by omega)]
  obtain ⟨G, hG⟩ : ∃ G, G = fun f => g r (14 + 3 * f) := ⟨_, rfl⟩
  rw [← hG]
  have o : ∀ k : Nat, k ≠ 2 → snS S w G (r 3) (w + k) = S (w + k) := fun k hk => snS_o (by omega)
  have o0 : snS S w G (r 3) w = S w := snS_o (by omega)
  refine ⟨?_, fun f f0 f1 => ?_, fun q q0 q1 => ?_, ⟨?_, fun k k0 k1 => ?_⟩, ⟨?_, fun k c k0 k1 c0 c1 => ?_⟩, fun j j0 j1 => ?_⟩
  · rw [o0, e 3 (by omega), e 4 (by omega), e 12 (by omega), e 0 (by omega)]; exact ⟨c0, c1, c2, c3⟩
  · rw [e 3 (by omega)] at f1
    have h0 : fr (snwP g r (r 3)) f 0 = fr r f 0 := by show snwP g r (r 3) (13 + 3 * f + 0) = _; rw [ee, if_neg (by omega)]; rfl
    have h1 : fr (snwP g r (r 3)) f 1 = g r (14 + 3 * f) := by show snwP g r (r 3) (13 + 3 * f + 1) = _; rw [ee, if_pos (by omega), show 13 + 3 * f + 1 = 14 + 3 * f by omega]
    have h2 : fr (snwP g r (r 3)) f 2 = fr r f 2 := by show snwP g r (r 3) (13 + 3 * f + 2) = _; rw [ee, if_neg (by omega)]; rfl
    rw [o 1 (by decide), o 3 (by decide), snS_2, if_pos ⟨f0, f1⟩, h0, h1, h2, hG]
    exact ⟨(cf f f0 f1).1, rfl, (cf f f0 f1).2.2⟩
  · rw [e 4 (by omega)] at q1
    have w9 : ∀ a, 0 ≤ a → pr (snwP g r (r 3)) q a = pr r q a := fun a a0 => e _ (by omega)
    obtain ⟨d1, d2, d3, d4⟩ := cp q q0 q1
    rw [o 4 (by decide), o 5 (by decide), o 6 (by decide), o 7 (by decide), o 8 (by decide), w9 0 (by decide), w9 1 (by decide)]
    refine ⟨d1, d2, fun k k0 k1 => ?_, fun hq k k0 k1 => ?_⟩
    · rw [w9 _ (by omega)]; exact d3 k k0 k1
    · rw [w9 _ (by omega), w9 _ (by omega)]; exact d4 hq k k0 k1
  · rw [o 9 (by decide), e 5 (by omega)]; exact cd.1
  · rw [e 5 (by omega)] at k1
    have w9 : ∀ a, 0 ≤ a → dr (snwP g r (r 3)) k a = dr r k a := fun a a0 => e _ (by omega)
    rw [o 10 (by decide), o 11 (by decide), o 12 (by decide), w9 0 (by decide), w9 1 (by decide), w9 2 (by decide)]
    exact cd.2 k k0 k1
  · rw [o 13 (by decide), e 11 (by omega)]; exact cl.1
  · rw [e 11 (by omega)] at k1 ⊢
    have w9 : gr (snwP g r (r 3)) k c = gr r k c := e _ (by omega)
    rw [o 14 (by decide), w9]
    exact cl.2 k c k0 k1 c0 c1
  · rw [o 15 (by decide), e _ (by omega)]; exact cs j j0 j1
section Days3
variable {tb : Tab} {d : Nat} {m : AM} {K : Out → AM → Prop} {S : Nat → Int → Int} {w : Nat} {r : Int → Int}
theorem k6_0 : pg.1 6 0 = [.bipush 0, .aload 0, .getfield 802, .iload 1, .iaload, .aload 0, .getfield 801, .iload 1, .iaload, .isub, .bipush 1, .isub, .invokestatic 1, .ireturn] := rfl
theorem a6_0 {tb : Tab} {d : Nat} {K : Out → AM → Prop} {ls st : List AV} {m : AM} : At tb d 6 K 0 ls st m = wpB tb (pg.2.1 6) (Runs tb pg d) K (At tb d 6 K) [.bipush 0, .aload 0, .getfield 802, .iload 1, .iaload, .aload 0, .getfield 801, .iload 1, .iaload, .isub, .bipush 1, .isub, .invokestatic 1, .ireturn] ls st m := At.eq k6_0
theorem w_6 {f : Int} (hw : isW w) (hR : RW S w r) (hA : AB r) (hf : 0 ≤ f ∧ f < r 3) (hK : ∀ v, v = thV r (14 + 3 * f) → 0 ≤ v → v ≤ 99 → K (.inl (some (vi v))) (X S m)) : Runs tb pg (d + 1) 6 [vr w, vi f] (X S m) K := by
  refine Runs.of (al := [vr w, vi f]) (n := 0) trivial rfl rfl trivial ?_
  have b3 := hA.2.1.1
  have b4 := hA.2.1.2.1
  have b5 := hA.2.1.2.2.1
  have e0 := hR.1.1
  have e4 := hR.1.2.1
  obtain ⟨q1, q2, q3⟩ := hR.2.1 f hf.1 hf.2
  have z := AB_ff hA hf.1 hf.2
  have te : thV r (14 + 3 * f) = if fr r f 1 - fr r f 0 - 1 < 0 then 0 else fr r f 1 - fr r f 0 - 1 := by
    unfold thV
    rw [show (14 + 3 * f - 1 : Int) = 13 + 3 * f + 0 by omega, show (14 + 3 * f : Int) = 13 + 3 * f + 1 by omega]
    rfl
  repeat' (first | omega | (refine hK _ ?_ ?_ ?_) | simp only [w_iconst, w_aload, x_g802_w0, w_iload, x_iald, w_ialoads, w_ialoadw, x_g801_w0, w_isub, w_max, w_ireturn, isA_w1, isA_w2, isA_w3, isA_w4, isA_w5, isA_w6, isA_w7, isA_w8, isA_w10, isA_w11, isA_w12, isA_w14, isA_w15, isA_w16, len_w1, len_w2, len_w3, len_w4, len_w5, len_w6, len_w7, len_w8, len_w10, len_w11, len_w12, len_w14, len_w15, len_w16, Int.cast_ofNat_Int, a6_0, R32, List.getElem?_cons_zero, List.getElem?_cons_succ, List.set_cons_zero, List.set_cons_succ, List.cons_append, List.nil_append, List.replicate_succ, List.replicate_zero, List.take_succ_cons, List.take_zero, List.drop_succ_cons, List.drop_zero, List.reverse_cons, List.reverse_nil, List.length_cons, List.length_nil, Option.toList, true_and, and_true, eq_self, ↓reduceIte, not_true_eq_false, not_false_eq_true, true_or, or_true, hw] | with_reducible refine And.intro ?_ ?_ | with_reducible intro _)
  all_goals (try (first | omega | (exfalso; assumption) | (rw [te]; grind) | grind))
end Days3
