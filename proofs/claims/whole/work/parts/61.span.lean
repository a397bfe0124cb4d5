/-! ===== THE REFERENCE: span, longestOf ===== -/
/-- how many are whole behind n days by draws of a seed -/
noncomputable def whN (ev : LawD → Int → (Int → Int) → Int) (r : Int → Int) (n s : Int) : Int := bitsM (setZ (goN ev 1 (putR r 12 s) n.toNat 4) (fun p => wholeM (pr (goN ev 1 (putR r 12 s) n.toNat)) p (pr (goN ev 1 (putR r 12 s) n.toNat) p 0))) 31
noncomputable def spN (c : Int → Int) (w : Int) : Nat → Int
  | 0 => -1
  | j + 1 => if spN c w j = -1 then c (j + 1) else if w = 0 then (if spN c w j < c (j + 1) then spN c w j else c (j + 1)) else (if c (j + 1) < spN c w j then spN c w j else c (j + 1))
theorem seed_AB {r : Int → Int} {s : Int} (h : AB r) : AB (putR r 12 s) := by
  have e : ∀ j, j ≠ 12 → putR r 12 s j = r j := fun j hj => by unfold putR; rw [if_neg hj]
  obtain ⟨b0, b1, b2, b3, b4, b5⟩ := h
  have b3' := b1.2.1
  refine ⟨fun j hj => by rw [e j hj]; exact b0 j hj, ?_, fun q q0 q1 => ?_, fun q q0 q1 => ?_, fun k k0 k1 => ?_, fun q q0 q1 => ?_⟩
  · unfold B1 at b1 ⊢
    rw [e 3 (by decide), e 4 (by decide), e 5 (by decide), e 0 (by decide), e 1 (by decide), e 8 (by decide), e 11 (by decide), e 6 (by decide), e 10 (by decide)]
    exact b1
  · have := b2 q q0 q1
    have w : ∀ v, 0 ≤ v → pr (putR r 12 s) q v = pr r q v := fun v v0 => e _ (by omega)
    rw [w 0 (by decide), w 1 (by decide)]
    exact ⟨this.1, this.2.1, fun k k0 k1 => by rw [w _ (by omega), w _ (by omega)]; exact this.2.2 k k0 k1⟩
  · have w : ∀ v, 0 ≤ v → fr (putR r 12 s) q v = fr r q v := fun v v0 => e _ (by omega)
    rw [w 0 (by decide), w 1 (by decide), w 2 (by decide)]
    exact b3 q q0 q1
  · rw [e 5 (by decide)] at k1
    have w : ∀ v, 0 ≤ v → dr (putR r 12 s) k v = dr r k v := fun v v0 => e _ (by omega)
    rw [w 0 (by decide), w 1 (by decide)]
    exact b4 k k0 k1
  · rw [e 4 (by decide)] at q1
    have w : ∀ v, 0 ≤ v → pr (putR r 12 s) q v = pr r q v := fun v v0 => e _ (by omega)
    rw [w 0 (by decide), w 1 (by decide), e 3 (by decide)]
    exact b5 q q0 q1
/-- tried, laid back: as it was laid aside -/
theorem SR_back {S T U : Nat → Int → Int} {q : Int → Int} (h : SR (asS S 415) T) (g : SR (sR T q) U) (hq : LQ (S 301) q) : SR (asS S 415) (sR U (bkR (U 301) (U 303) 415)) := by
  have e1 : U 301 = q := by rw [SR_m g, sR_r]
  have e3 : U 303 = asS S 415 303 := (g.1 303 (by decide) (by decide)).trans (h.1 303 (by decide) (by decide))
  refine ⟨fun a h1 h3 => ?_, fun j h1 => (g.2 j h1).trans (h.2 j h1)⟩
  by_cases e : a = 301
  · subst e
    show bkR (U 301) (U 303) 415 = S 301
    funext j
    unfold bkR
    rw [e1, e3]
    by_cases z : 0 ≤ j ∧ j < 415
    · rw [if_pos z]
      show (if 0 ≤ j ∧ j < 415 then S 301 j else S 303 j) = S 301 j
      rw [if_pos z]
    · rw [if_neg z]
      exact hq j (by omega)
  · rw [show sR U (bkR (U 301) (U 303) 415) a = U a from if_neg e, g.1 a h1 h3]
    show (if a = 301 then q else T a) = _
    rw [if_neg e]
    exact h.1 a h1 h3
theorem SQ_asd {S T : Nat → Int → Int} (h : SR (asS S 415) T) : SQ S T := SQ_t SQ_as (SQ_of h)
theorem spN_s {c : Int → Int} {w i x y : Int} (h : 0 ≤ i) (hx : x = spN c w i.toNat) (hy : (x = -1 ∧ y = c (i + 1)) ∨ (x ≠ -1 ∧ w = 0 ∧ y = if x < c (i + 1) then x else c (i + 1)) ∨ (x ≠ -1 ∧ w ≠ 0 ∧ y = if c (i + 1) < x then x else c (i + 1))) : y = spN c w (i + 1).toNat := by
  rw [show (i + 1).toNat = i.toNat + 1 by omega]
  show y = if spN c w i.toNat = -1 then c ((i.toNat : Int) + 1) else if w = 0 then (if spN c w i.toNat < c ((i.toNat : Int) + 1) then spN c w i.toNat else c ((i.toNat : Int) + 1)) else (if c ((i.toNat : Int) + 1) < spN c w i.toNat then spN c w i.toNat else c ((i.toNat : Int) + 1))
  rw [Int.toNat_of_nonneg h, ← hx]
  rcases hy with ⟨h1, h2⟩ | ⟨h1, h2, h3⟩ | ⟨h1, h2, h3⟩
  · rw [if_pos h1]; exact h2
  · rw [if_neg h1, if_pos h2]; exact h3
  · rw [if_neg h1, if_neg h2]; exact h3
section Ref34
variable {tb : Tab} {d : Nat} {m : AM} {K : Out → AM → Prop} {S : Nat → Int → Int} {ev : LawD → Int → (Int → Int) → Int} {good : LawD → Prop}
theorem k339_0 : pg.1 339 0 = [.aload 0, .iload 1, .bipush 0, .bipush 60, .invokeinterface 200 3, .ifCond .ne 15, .bipush 1, .goto 16] := rfl
theorem a339_0 {tb : Tab} {d : Nat} {K : Out → AM → Prop} {ls st : List AV} {m : AM} : At tb d 339 K 0 ls st m = wpB tb (pg.2.1 339) (Runs tb pg d) K (At tb d 339 K) [.aload 0, .iload 1, .bipush 0, .bipush 60, .invokeinterface 200 3, .ifCond .ne 15, .bipush 1, .goto 16] ls st m := At.eq k339_0
theorem k339_15 : pg.1 339 15 = [.bipush 0, .jsr 16] := rfl
theorem a339_15 {tb : Tab} {d : Nat} {K : Out → AM → Prop} {ls st : List AV} {m : AM} : At tb d 339 K 15 ls st m = wpB tb (pg.2.1 339) (Runs tb pg d) K (At tb d 339 K) [.bipush 0, .jsr 16] ls st m := At.eq k339_15
theorem k339_16 : pg.1 339 16 = [.putfield 1000, .aload 0, .getfield 1000, .ifCond .le 28, .bipush 0, .ireturn] := rfl
theorem a339_16 {tb : Tab} {d : Nat} {K : Out → AM → Prop} {ls st : List AV} {m : AM} : At tb d 339 K 16 ls st m = wpB tb (pg.2.1 339) (Runs tb pg d) K (At tb d 339 K) [.putfield 1000, .aload 0, .getfield 1000, .ifCond .le 28, .bipush 0, .ireturn] ls st m := At.eq k339_16
theorem k339_28 : pg.1 339 28 = [.aload 0, .invokeinterface 237 1, .bipush (-1), .istore 3, .bipush 1, .istore 4, .jsr 37] := rfl
theorem a339_28 {tb : Tab} {d : Nat} {K : Out → AM → Prop} {ls st : List AV} {m : AM} : At tb d 339 K 28 ls st m = wpB tb (pg.2.1 339) (Runs tb pg d) K (At tb d 339 K) [.aload 0, .invokeinterface 237 1, .bipush (-1), .istore 3, .bipush 1, .istore 4, .jsr 37] ls st m := At.eq k339_28
theorem k339_37 : pg.1 339 37 = [.iload 4, .bipush 6, .if_icmp .gt 110, .aload 0, .getfield 1001, .bipush 12, .iload 4, .iastore, .aload 0, .iload 1, .bipush 1, .invokeinterface 265 3, .istore 5, .aload 0, .invokeinterface 260 1, .invokeinterface 204 1, .istore 6, .aload 0, .invokeinterface 238 1, .iload 3, .bipush (-1), .if_icmp .ne 84, .iload 6, .goto 103] := rfl
theorem a339_37 {tb : Tab} {d : Nat} {K : Out → AM → Prop} {ls st : List AV} {m : AM} : At tb d 339 K 37 ls st m = wpB tb (pg.2.1 339) (Runs tb pg d) K (At tb d 339 K) [.iload 4, .bipush 6, .if_icmp .gt 110, .aload 0, .getfield 1001, .bipush 12, .iload 4, .iastore, .aload 0, .iload 1, .bipush 1, .invokeinterface 265 3, .istore 5, .aload 0, .invokeinterface 260 1, .invokeinterface 204 1, .istore 6, .aload 0, .invokeinterface 238 1, .iload 3, .bipush (-1), .if_icmp .ne 84, .iload 6, .goto 103] ls st m := At.eq k339_37
theorem k339_84 : pg.1 339 84 = [.iload 2, .ifCond .eq 97, .iload 3, .iload 6, .invokeinterface 202 2, .goto 103] := rfl
theorem a339_84 {tb : Tab} {d : Nat} {K : Out → AM → Prop} {ls st : List AV} {m : AM} : At tb d 339 K 84 ls st m = wpB tb (pg.2.1 339) (Runs tb pg d) K (At tb d 339 K) [.iload 2, .ifCond .eq 97, .iload 3, .iload 6, .invokeinterface 202 2, .goto 103] ls st m := At.eq k339_84
theorem k339_97 : pg.1 339 97 = [.iload 3, .iload 6, .invokeinterface 201 2, .jsr 103] := rfl
theorem a339_97 {tb : Tab} {d : Nat} {K : Out → AM → Prop} {ls st : List AV} {m : AM} : At tb d 339 K 97 ls st m = wpB tb (pg.2.1 339) (Runs tb pg d) K (At tb d 339 K) [.iload 3, .iload 6, .invokeinterface 201 2, .jsr 103] ls st m := At.eq k339_97
theorem k339_103 : pg.1 339 103 = [.istore 3, .iinc 4 1, .goto 37] := rfl
theorem a339_103 {tb : Tab} {d : Nat} {K : Out → AM → Prop} {ls st : List AV} {m : AM} : At tb d 339 K 103 ls st m = wpB tb (pg.2.1 339) (Runs tb pg d) K (At tb d 339 K) [.istore 3, .iinc 4 1, .goto 37] ls st m := At.eq k339_103
theorem k339_110 : pg.1 339 110 = [.iload 3, .ireturn] := rfl
theorem a339_110 {tb : Tab} {d : Nat} {K : Out → AM → Prop} {ls st : List AV} {m : AM} : At tb d 339 K 110 ls st m = wpB tb (pg.2.1 339) (Runs tb pg d) K (At tb d 339 K) [.iload 3, .ireturn] ls st m := At.eq k339_110
theorem q_339 {n w : Int} (hM : AskM tb ev good) (hA : AB (S 301)) (hG : good (lawD (S 301))) (hn : R32 n) (hw : R32 w) (hK1 : ¬ (0 ≤ n ∧ n ≤ 60) → K (.inl (some (vi 0))) (X (upS S 300 0 1) m)) (hK : ∀ T r, (0 ≤ n ∧ n ≤ 60) → r = spN (whN ev (S 301) n) w 6 → SQ (upS S 300 0 0) T → K (.inl (some (vi r))) (X T m)) : Runs tb pg (d + 64) 339 [vr 300, vi n, vi w] (X S m) K := by
  unfold R32 at hn hw
  have hL : (0 ≤ n ∧ n ≤ 60) → ∀ z5 z6, At tb (d + 63) 339 K 37 [vr 300, vi n, vi w, vi (-1), vi 1, z5, z6] [] (X (asS (upS S 300 0 0) 415) m) := by
    intro hn9 z5 z6
    have hL37 : (fun i : Int => ∀ (z5 : AV) (z6 : AV) (T : Nat → Int → Int) (s : Int) (x : Int), (SR (asS (upS S 300 0 0) 415) T) → s = i + 1 → x = spN (whN ev (S 301) n) w i.toNat → (-1 ≤ x ∧ x ≤ 31) → At tb (d + 63) 339 K 37 [vr 300, vi n, vi w, vi x, vi s, z5, z6] [] (X T m)) 0 := by
      refine loopZ (fun i : Int => ∀ (z5 : AV) (z6 : AV) (T : Nat → Int → Int) (s : Int) (x : Int), (SR (asS (upS S 300 0 0) 415) T) → s = i + 1 → x = spN (whN ev (S 301) n) w i.toNat → (-1 ≤ x ∧ x ≤ 31) → At tb (d + 63) 339 K 37 [vr 300, vi n, vi w, vi x, vi s, z5, z6] [] (X T m)) (6) (by omega) ?_ ?_
      · intro i h0 h1 h9 z5 z6 T s x hT hs hx hx9
        have hTm : T 301 = S 301 := by rw [SR_m hT]; rfl
        have sA := seed_AB (s := s) hA
        obtain ⟨g1, g2⟩ := goN_AB (ev := ev) (w := 1) sA n.toNat
        have lq : LQ (S 301) (goN ev 1 (putR (S 301) 12 s) n.toNat) := LQ_t (LQ_put (by decide)) g2
        obtain ⟨q, hq⟩ : ∃ q, q = goN ev 1 (putR (S 301) 12 s) n.toNat := ⟨_, rfl⟩
        have cw : whN ev (S 301) n s = bitsM (setZ (q 4) (fun p => wholeM (pr q) p (pr q p 0))) 31 := by unfold whN; rw [hq]
        have cb := bits_le (setZ (q 4) (fun p => wholeM (pr q) p (pr q p 0)))
        rw [← hq] at g1 lq
        rw [a339_37]
        repeat' (first | refine h9 _ _ _ _ _ ?_ ?_ ?_ ?_ | simp only [w_aload, w_iload, w_iconst, w_call, w_if, cI, Int.reduceToNat, w_goto, w_fall, x_p1000_300, x_g1000_300, w_ireturn, w_istore, w_ifc, x_g1001_300, x_iast, w_iinc, lgB, Nat.reduceSub, isA_301, isA_302, isA_303, isA_304, isA_305, isA_306, isA_307, isA_308, isA_309, isA_310, isA_311, isA_312, isA_313, isA_314, isA_315, len_301, len_302, len_303, len_304, len_305, len_306, len_307, len_308, len_309, len_310, len_311, len_312, len_313, len_314, len_315, Int.cast_ofNat_Int, a339_0, a339_15, a339_16, a339_28, a339_84, a339_97, a339_103, a339_110, R32, List.getElem?_cons_zero, List.getElem?_cons_succ, List.set_cons_zero, List.set_cons_succ, List.cons_append, List.nil_append, List.replicate_succ, List.replicate_zero, List.take_succ_cons, List.take_zero, List.drop_succ_cons, List.drop_zero, List.reverse_cons, List.reverse_nil, List.length_cons, List.length_nil, Option.toList, true_and, and_true, eq_self, ↓reduceIte, not_true_eq_false, not_false_eq_true, true_or, or_true, upS_upS, upS_at, up300, up300b, oR3, fR3, dR3, lgR3, valM3, Int.reduceEq, Nat.reduceEqDiff, and_self, and_true, and_false, false_and, if_true, if_false, upS_301, sR_sR, sR_r, sR_0] | refine q_201 ?_ ?_ ?_ | refine q_202 ?_ ?_ ?_ | refine q_265 (S := sR T _) hM (by rw [sR_r, hTm]; exact sA) (by rw [sR_r, hTm, lawD_LQ (LQ_put (by decide))]; exact hG) (Or.inr rfl) ?_ (fun T1 x1 e9 e8 => ?_) | (rw [sR_r, hTm, ← hq] at e9; have e10 := e9; rw [sR_sR] at e9; clear e10) | refine q_260 (S := T1) (BRs e9 (ABs g1)) (fun r7 e7 => ?_) | refine q_204 (fun r6 e6 => ?_) | refine q_238 (S := T1) ?_ | with_reducible refine And.intro ?_ ?_ | with_reducible intro _)
        all_goals (try (first | omega | contradiction | ((try clear hK); (try clear hK0); (try clear hB); (try clear h9); (try clear h8); (try clear h7); (try simp only [oR3, fR3, dR3, lgR3, valM3, up300, up300b] at *); (try simp only [SR_o hT, SR_f hT, SR_d hT, SR_l hT, SR_v hT, SR_m hT, SR_g hT, oR3, fR3, dR3, lgR3, valM3, up300, up300b] at *); first | done | omega | (exact SR_back hT e9 lq) | omega | (have o2 : r7 = setZ (q 4) (fun p => wholeM (pr q) p (pr q p 0)) := (by rw [e7, SR_o e9, SR_m e9]; rfl); rw [o2] at e6; refine spN_s h0 hx ?_; rw [← hs, cw]; grind) | (have o2 : r7 = setZ (q 4) (fun p => wholeM (pr q) p (pr q p 0)) := (by rw [e7, SR_o e9, SR_m e9]; rfl); rw [o2] at e6; grind))))
      · intro z5 z6 T s x hT hs hx hx9
        rw [a339_37]
        repeat' (first | refine hK _ _ hn9 hx (SQ_asd hT) | simp only [w_aload, w_iload, w_iconst, w_call, w_if, cI, Int.reduceToNat, w_goto, w_fall, x_p1000_300, x_g1000_300, w_ireturn, w_istore, w_ifc, x_g1001_300, x_iast, w_iinc, lgB, Nat.reduceSub, isA_301, isA_302, isA_303, isA_304, isA_305, isA_306, isA_307, isA_308, isA_309, isA_310, isA_311, isA_312, isA_313, isA_314, isA_315, len_301, len_302, len_303, len_304, len_305, len_306, len_307, len_308, len_309, len_310, len_311, len_312, len_313, len_314, len_315, Int.cast_ofNat_Int, a339_0, a339_15, a339_16, a339_28, a339_84, a339_97, a339_103, a339_110, R32, List.getElem?_cons_zero, List.getElem?_cons_succ, List.set_cons_zero, List.set_cons_succ, List.cons_append, List.nil_append, List.replicate_succ, List.replicate_zero, List.take_succ_cons, List.take_zero, List.drop_succ_cons, List.drop_zero, List.reverse_cons, List.reverse_nil, List.length_cons, List.length_nil, Option.toList, true_and, and_true, eq_self, ↓reduceIte, not_true_eq_false, not_false_eq_true, true_or, or_true, upS_upS, upS_at, up300, up300b, oR3, fR3, dR3, lgR3, valM3, Int.reduceEq, Nat.reduceEqDiff, and_self, and_true, and_false, false_and, if_true, if_false, upS_301, sR_sR, sR_r, sR_0] | refine q_201 ?_ ?_ ?_ | refine q_202 ?_ ?_ ?_ | refine q_265 (S := sR T _) hM (by rw [sR_r, hTm]; exact sA) (by rw [sR_r, hTm, lawD_LQ (LQ_put (by decide))]; exact hG) (Or.inr rfl) ?_ (fun T1 x1 e9 e8 => ?_) | (rw [sR_r, hTm, ← hq] at e9; have e10 := e9; rw [sR_sR] at e9; clear e10) | refine q_260 (S := T1) (BRs e9 (ABs g1)) (fun r7 e7 => ?_) | refine q_204 (fun r6 e6 => ?_) | refine q_238 (S := T1) ?_ | with_reducible refine And.intro ?_ ?_ | with_reducible intro _)
        all_goals (try (first | omega | contradiction | ((try clear hK); (try clear hK0); (try clear hB); (try clear h9); (try clear h8); (try clear h7); (try simp only [oR3, fR3, dR3, lgR3, valM3, up300, up300b] at *); (try simp only [SR_o hT, SR_f hT, SR_d hT, SR_l hT, SR_v hT, SR_m hT, SR_g hT, oR3, fR3, dR3, lgR3, valM3, up300, up300b] at *); first | done | omega | grind)))
    exact hL37 _ _ _ _ _ SR_refl (by decide) rfl (by decide)
  refine Runs.of (al := [vr 300, vi n, vi w]) (n := 4) ⟨300, _, _, rfl, xo_300⟩ rfl rfl trivial ?_
  repeat' (first | refine hL ?_ _ _ | refine hK1 ?_ | simp only [w_aload, w_iload, w_iconst, w_call, w_if, cI, Int.reduceToNat, w_goto, w_fall, x_p1000_300, x_g1000_300, w_ireturn, w_istore, w_ifc, x_g1001_300, x_iast, w_iinc, lgB, Nat.reduceSub, isA_301, isA_302, isA_303, isA_304, isA_305, isA_306, isA_307, isA_308, isA_309, isA_310, isA_311, isA_312, isA_313, isA_314, isA_315, len_301, len_302, len_303, len_304, len_305, len_306, len_307, len_308, len_309, len_310, len_311, len_312, len_313, len_314, len_315, Int.cast_ofNat_Int, a339_0, a339_15, a339_16, a339_28, a339_84, a339_97, a339_103, a339_110, R32, List.getElem?_cons_zero, List.getElem?_cons_succ, List.set_cons_zero, List.set_cons_succ, List.cons_append, List.nil_append, List.replicate_succ, List.replicate_zero, List.take_succ_cons, List.take_zero, List.drop_succ_cons, List.drop_zero, List.reverse_cons, List.reverse_nil, List.length_cons, List.length_nil, Option.toList, true_and, and_true, eq_self, ↓reduceIte, not_true_eq_false, not_false_eq_true, true_or, or_true, upS_upS, upS_at, up300, up300b, oR3, fR3, dR3, lgR3, valM3, Int.reduceEq, Nat.reduceEqDiff, and_self, and_true, and_false, false_and, if_true, if_false] | refine q_200 ?_ ?_ ?_ ?_ | refine q_237 ?_ | with_reducible refine And.intro ?_ ?_ | with_reducible intro _)
  all_goals (try (first | omega | contradiction | ((try clear hK); (try clear hK0); (try clear hB); (try clear h9); (try clear h8); (try clear h7); (try simp only [oR3, fR3, dR3, lgR3, valM3, up300, up300b] at *); (try simp only [SR_o hT, SR_f hT, SR_d hT, SR_l hT, SR_v hT, SR_m hT, SR_g hT, oR3, fR3, dR3, lgR3, valM3, up300, up300b] at *); first | done | omega | grind)))
end Ref34
