/-! ===== THE CLASS: a row of the log, debts made and paid ===== -/
/-- a row is added to the log -/
def LGT (S T : Nat → Int → Int) (w : Nat) (a b c e : Int) : Prop := (∀ x, x ≠ w + 13 → x ≠ w + 14 → T x = S x) ∧ T (w + 13) 0 = (if 60 ≤ S (w + 13) 0 then 60 else S (w + 13) 0 + 1) ∧ (∀ j, T (w + 14) j = if j = 4 * (if 60 ≤ S (w + 13) 0 then 59 else S (w + 13) 0) then a else if j = 4 * (if 60 ≤ S (w + 13) 0 then 59 else S (w + 13) 0) + 1 then b else if j = 4 * (if 60 ≤ S (w + 13) 0 then 59 else S (w + 13) 0) + 2 then c else if j = 4 * (if 60 ≤ S (w + 13) 0 then 59 else S (w + 13) 0) + 3 then e else if 60 ≤ S (w + 13) 0 ∧ 0 ≤ j ∧ j < 236 then S (w + 14) (j + 4) else S (w + 14) j)
theorem LGT_n {S : Nat → Int → Int} {w : Nat} {a b c e s : Int} (hs : s = S (w + 13) 0) (h : s < 60) : LGT S (upS (upS (upS (upS (upS S (w + 14) (4 * s) a) (w + 14) (4 * s + 1) b) (w + 14) (4 * s + 2) c) (w + 14) (4 * s + 3) e) (w + 13) 0 (s + 1)) w a b c e := by
  refine ⟨fun x h1 h2 => ?_, ?_, fun j => ?_⟩
  · funext j
    rw [upS_at, if_neg (fun z => h1 z.1), upS_at, if_neg (fun z => h2 z.1), upS_at, if_neg (fun z => h2 z.1), upS_at, if_neg (fun z => h2 z.1), upS_at, if_neg (fun z => h2 z.1)]
  · rw [upS_at, if_pos ⟨rfl, rfl⟩, if_neg (by omega), hs]
  · rw [← hs, upS_at, if_neg (fun z => by omega), upS_at, upS_at, upS_at, upS_at]
    grind
theorem LGT_y {S : Nat → Int → Int} {w : Nat} {a b c e : Int} (h : 60 ≤ S (w + 13) 0) : LGT S (upS (upS (upS (upS (upS (upS (cpyS S (w + 14) (w + 14) 4 0 236) (w + 13) 0 59) (w + 14) (4 * 59) a) (w + 14) (4 * 59 + 1) b) (w + 14) (4 * 59 + 2) c) (w + 14) (4 * 59 + 3) e) (w + 13) 0 (59 + 1)) w a b c e := by
  refine ⟨fun x h1 h2 => ?_, ?_, fun j => ?_⟩
  · funext j
    rw [upS_at, if_neg (fun z => h1 z.1), upS_at, if_neg (fun z => h2 z.1), upS_at, if_neg (fun z => h2 z.1), upS_at, if_neg (fun z => h2 z.1), upS_at, if_neg (fun z => h2 z.1), upS_at, if_neg (fun z => h1 z.1)]
    exact congrFun (if_neg h2) j
  · rw [upS_at, if_pos ⟨rfl, rfl⟩, if_pos h]; rfl
  · rw [if_pos h, upS_at, if_neg (fun z => by omega), upS_at, upS_at, upS_at, upS_at, upS_at, if_neg (fun z : w + 14 = w + 13 ∧ j = 0 => by omega)]
    rw [show cpyS S (w + 14) (w + 14) 4 0 236 (w + 14) j = if 0 ≤ j ∧ j < 236 then S (w + 14) (j + 4) else S (w + 14) j by
      unfold cpyS
      rw [if_pos rfl]
      by_cases z : 0 ≤ j ∧ j < 236
      · rw [if_pos z, if_pos (by omega), show 4 + (j - 0) = j + 4 by omega]
      · rw [if_neg z, if_neg (by omega)]]
    grind
theorem RW_lg {S T : Nat → Int → Int} {w : Nat} {r : Int → Int} {p h f : Int} (hA : AB r) (hR : RW S w r) (hT : LGT S T w (r 10) p h f) : RW T w (logsR r p h f) := by
  obtain ⟨⟨c0, c1, c2, c3⟩, cf, cp, cd, cl, cs⟩ := hR
  obtain ⟨t1, t2, t3⟩ := hT
  have b3 := hA.2.1.1
  have b4 := hA.2.1.2.1
  have b5 := hA.2.1.2.2.1
  have b11 := hA.2.1.2.2.2.2.2.2.1
  have e : ∀ j, j ≠ 11 → j < 175 ∨ 415 ≤ j → logsR r p h f j = r j := fun j h1 h2 => logsR_o h1 h2
  have e11 : logsR r p h f 11 = if 60 < r 11 + 1 then 60 else r 11 + 1 := rfl
  have o : ∀ k : Nat, k < 13 ∨ 14 < k → T (w + k) = S (w + k) := fun k hk => t1 _ (by omega) (by omega)
  have o0 : T w = S w := t1 _ (by omega) (by omega)
  refine ⟨?_, fun g g0 g1 => ?_, fun q q0 q1 => ?_, ?_, ?_, fun j j0 j1 => ?_⟩
  · rw [o0, e 3 (by omega) (by omega), e 4 (by omega) (by omega), e 12 (by omega) (by omega), e 0 (by omega) (by omega)]
    exact ⟨c0, c1, c2, c3⟩
  · rw [e 3 (by omega) (by omega)] at g1
    have w9 : ∀ v9, 0 ≤ v9 → v9 < 3 → fr (logsR r p h f) g v9 = fr r g v9 := fun v9 v0 v1 => e _ (by omega) (by omega)
    rw [o 1 (by omega), o 2 (by omega), o 3 (by omega), w9 0 (by decide) (by decide), w9 1 (by decide) (by decide), w9 2 (by decide) (by decide)]
    exact cf g g0 g1
  · rw [e 4 (by omega) (by omega)] at q1
    have zq := AB_pp hA q0 q1
    have w9 : ∀ v9, 0 ≤ v9 → v9 < 20 → pr (logsR r p h f) q v9 = pr r q v9 := fun v9 v0 v1 => logsR_p q0 zq.2.2 v0 v1
    obtain ⟨d1, d2, d3, d4⟩ := cp q q0 q1
    rw [o 4 (by omega), o 5 (by omega), o 6 (by omega), o 7 (by omega), o 8 (by omega), w9 0 (by decide) (by decide), w9 1 (by decide) (by decide)]
    refine ⟨d1, d2, fun k k0 k1 => ?_, fun hq k k0 k1 => ?_⟩
    · rw [w9 _ (by omega) (by omega)]; exact d3 k k0 k1
    · rw [w9 _ (by omega) (by omega), w9 _ (by omega) (by omega)]; exact d4 hq k k0 k1
  · refine ⟨by rw [o 9 (by omega), e 5 (by omega) (by omega)]; exact cd.1, fun k k0 k1 => ?_⟩
    rw [e 5 (by omega) (by omega)] at k1
    have w9 : ∀ v9, 0 ≤ v9 → v9 < 3 → dr (logsR r p h f) k v9 = dr r k v9 := fun v9 v0 v1 => e _ (by omega) (by omega)
    rw [o 10 (by omega), o 11 (by omega), o 12 (by omega), w9 0 (by decide) (by decide), w9 1 (by decide) (by decide), w9 2 (by decide) (by decide)]
    exact cd.2 k k0 k1
  · have l0 := cl.1
    refine ⟨by rw [t2, e11, l0]; split <;> split <;> omega, fun k c k0 k1 c0 c1 => ?_⟩
    have s9 : (if 60 ≤ S (w + 13) 0 then 59 else S (w + 13) 0) = logsR r p h f 11 - 1 := by rw [e11, l0]; split <;> split <;> omega
    rw [t3, s9]
    obtain ⟨n, hn⟩ : ∃ n, n = logsR r p h f 11 := ⟨_, rfl⟩
    rw [← hn] at k1 s9 ⊢
    have hn1 : n = if 60 < r 11 + 1 then 60 else r 11 + 1 := hn.trans e11
    have g9 : gr (logsR r p h f) k c = if 4 ≤ 4 * k + c then gr r (k - 1) c else if c = 0 then r 10 else if c = 1 then p else if c = 2 then h else f := by
      show (if 175 + 4 * k + c = 11 then _ else if 179 ≤ 175 + 4 * k + c ∧ 175 + 4 * k + c < 415 then r (175 + 4 * k + c - 4) else _) = _
      rw [if_neg (by omega)]
      by_cases y : 4 ≤ 4 * k + c
      · rw [if_pos (by split at hn1 <;> omega), if_pos y]
        show r _ = r (175 + 4 * (k - 1) + c)
        exact congrArg r (by omega)
      · rw [if_neg (by omega), if_neg y]
        have hc : c = 0 ∨ c = 1 ∨ c = 2 ∨ c = 3 := by omega
        have hk : k = 0 := by omega
        subst hk
        rcases hc with z | z | z | z <;> subst z <;> rfl
    by_cases hk : k = 0
    · subst hk
      have hc : c = 0 ∨ c = 1 ∨ c = 2 ∨ c = 3 := by omega
      rw [if_neg (by omega)] at g9
      rw [g9]
      rcases hc with z | z | z | z <;> subst z
      · rw [if_pos (by omega), if_pos rfl]
      · rw [if_neg (by omega), if_pos (by omega), if_neg (by decide), if_pos rfl]
      · rw [if_neg (by omega), if_neg (by omega), if_pos (by omega), if_neg (by decide), if_neg (by decide), if_pos rfl]
      · rw [if_neg (by omega), if_neg (by omega), if_neg (by omega), if_pos (by omega), if_neg (by decide), if_neg (by decide), if_neg (by decide)]
    · rw [if_pos (by omega)] at g9
      rw [g9, if_neg (by omega), if_neg (by omega), if_neg (by omega), if_neg (by omega)]
      have cl2 := cl.2 (k - 1) c (by omega) (by split at hn1 <;> omega) c0 c1
      rw [← cl2]
      by_cases y : 60 ≤ S (w + 13) 0
      · rw [if_pos (by rw [if_pos y] at s9; omega)]
        exact congrArg (S (w + 14)) (by rw [if_pos y] at s9; split at hn1 <;> omega)
      · rw [if_neg (fun x => y x.1)]
        exact congrArg (S (w + 14)) (by rw [if_neg y] at s9; omega)
  · rw [o 15 (by omega), e (6 + j) (by omega) (by omega)]
    exact cs j j0 j1
theorem LGT_EW {S T : Nat → Int → Int} {w : Nat} {a b c e : Int} (h : LGT S T w a b c e) : EW S T w := fun x hx => h.1 x (by omega) (by omega)
section World5
variable {tb : Tab} {d : Nat} {m : AM} {K : Out → AM → Prop} {S : Nat → Int → Int} {w : Nat} {r : Int → Int}
theorem ux_s {S : Nat → Int → Int} {a : Nat} {i v : Int} : upS S a i v a i = v := by rw [upS_at, if_pos ⟨rfl, rfl⟩]
theorem ux_1413 {S : Nat → Int → Int} {w : Nat} {i v : Int} : upS S (w + 14) i v (w + 13) = S (w + 13) := if_neg (by omega)
theorem uc_1413 {S : Nat → Int → Int} {w a : Nat} {i j n : Int} : cpyS S a (w + 14) i j n (w + 13) = S (w + 13) := if_neg (by omega)
theorem a50_0 {tb : Tab} {d : Nat} {K : Out → AM → Prop} {ls st : List AV} {m : AM} : At tb d 50 K 0 ls st m = wpB tb (pg.2.1 50) (Runs tb pg d) K (At tb d 50 K) [.aload 0, .getfield 400, .bipush 60, .if_icmp .lt 31, .aload 0, .getfield 401, .bipush 4, .aload 0, .getfield 401, .bipush 0, .bipush 236, .invokestatic 2, .aload 0, .bipush 59, .putfield 400, .jsr 31] ls st m := At.eq k50_0
theorem a50_31 {tb : Tab} {d : Nat} {K : Out → AM → Prop} {ls st : List AV} {m : AM} : At tb d 50 K 31 ls st m = wpB tb (pg.2.1 50) (Runs tb pg d) K (At tb d 50 K) [.bipush 4, .aload 0, .getfield 400, .imul, .istore 5, .aload 0, .getfield 401, .iload 5, .iload 1, .iastore, .aload 0, .getfield 401, .iload 5, .bipush 1, .iadd, .iload 2, .iastore, .aload 0, .getfield 401, .iload 5, .bipush 2, .iadd, .iload 3, .iastore, .aload 0, .getfield 401, .iload 5, .bipush 3, .iadd, .iload 4, .iastore, .aload 0, .dup, .getfield 400, .bipush 1, .iadd, .putfield 400, .return_] ls st m := At.eq k50_31
theorem w_50 {a b c e : Int} (hw : isW w) (hs : 0 ≤ S (w + 13) 0 ∧ S (w + 13) 0 ≤ 60) (hK : ∀ T, LGT S T w a b c e → K (.inl none) (X T m)) : Runs tb pg (d + 1) 50 [vr (w + 13), vi a, vi b, vi c, vi e] (X S m) K := by
  refine Runs.of (al := [vr (w + 13), vi a, vi b, vi c, vi e]) (n := 1) ⟨w + 13, _, _, rfl, xo_w13 hw⟩ rfl rfl trivial ?_
  repeat' (first | omega | (refine hK _ (LGT_n rfl ?_)) | (refine hK _ (LGT_y ?_)) | simp only [w_aload, x_g400_w13, w_iconst, w_ifc, cI, Int.reduceToNat, x_g401_w13, x_copy, x_p400_w13, w_fall, w_imul, w_istore, w_iload, x_iast, w_iadd, w_dupi, w_dupr, w_return, isA_w1, isA_w2, isA_w3, isA_w4, isA_w5, isA_w6, isA_w7, isA_w8, isA_w10, isA_w11, isA_w12, isA_w14, isA_w15, isA_w16, len_w1, len_w2, len_w3, len_w4, len_w5, len_w6, len_w7, len_w8, len_w10, len_w11, len_w12, len_w14, len_w15, len_w16, Int.cast_ofNat_Int, a50_0, a50_31, R32, List.getElem?_cons_zero, List.getElem?_cons_succ, List.set_cons_zero, List.set_cons_succ, List.cons_append, List.nil_append, List.replicate_succ, List.replicate_zero, List.take_succ_cons, List.take_zero, List.drop_succ_cons, List.drop_zero, List.reverse_cons, List.reverse_nil, List.length_cons, List.length_nil, Option.toList, true_and, and_true, eq_self, ↓reduceIte, not_true_eq_false, not_false_eq_true, true_or, or_true, hw, ux_s, ux_1413, uc_1413] | with_reducible refine And.intro ?_ ?_ | with_reducible intro _)
  all_goals (try (first | omega | (exfalso; assumption) | skip))
end World5
