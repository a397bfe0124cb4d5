/-! ===== THE REFERENCE: passes, goes ===== -/
section Ref23
variable {tb : Tab} {d : Nat} {m : AM} {K : Out → AM → Prop} {S : Nat → Int → Int} {ev : LawD → Int → (Int → Int) → Int} {good : LawD → Prop}
theorem q_262 (hA : AB (S 301)) (hs : onS (S 301) ≠ 0) (hK : K (.inl none) (X (sR S (haresR (S 301))) m)) : Runs tb pg (d + 4) 262 [vr 300] (X S m) K := q_262a hA hs (fun T e => by rw [e]; exact hK)
theorem k264_0 : pg.1 264 0 = [.iload 1, .ifCond .eq 24, .aload 0, .bipush 100, .invokeinterface 252 2, .aload 0, .getfield 1001, .bipush 7, .iaload, .if_icmp .ge 24, .bipush 1, .goto 25] := rfl
theorem a264_0 {tb : Tab} {d : Nat} {K : Out → AM → Prop} {ls st : List AV} {m : AM} : At tb d 264 K 0 ls st m = wpB tb (pg.2.1 264) (Runs tb pg d) K (At tb d 264 K) [.iload 1, .ifCond .eq 24, .aload 0, .bipush 100, .invokeinterface 252 2, .aload 0, .getfield 1001, .bipush 7, .iaload, .if_icmp .ge 24, .bipush 1, .goto 25] ls st m := At.eq k264_0
theorem k264_24 : pg.1 264 24 = [.bipush 0, .jsr 25] := rfl
theorem a264_24 {tb : Tab} {d : Nat} {K : Out → AM → Prop} {ls st : List AV} {m : AM} : At tb d 264 K 24 ls st m = wpB tb (pg.2.1 264) (Runs tb pg d) K (At tb d 264 K) [.bipush 0, .jsr 25] ls st m := At.eq k264_24
theorem k264_25 : pg.1 264 25 = [.istore 2, .iload 2, .ifCond .eq 37, .aload 0, .invokeinterface 257 1, .goto 41] := rfl
theorem a264_25 {tb : Tab} {d : Nat} {K : Out → AM → Prop} {ls st : List AV} {m : AM} : At tb d 264 K 25 ls st m = wpB tb (pg.2.1 264) (Runs tb pg d) K (At tb d 264 K) [.istore 2, .iload 2, .ifCond .eq 37, .aload 0, .invokeinterface 257 1, .goto 41] ls st m := At.eq k264_25
theorem k264_37 : pg.1 264 37 = [.aload 0, .invokeinterface 258 1, .jsr 41] := rfl
theorem a264_37 {tb : Tab} {d : Nat} {K : Out → AM → Prop} {ls st : List AV} {m : AM} : At tb d 264 K 37 ls st m = wpB tb (pg.2.1 264) (Runs tb pg d) K (At tb d 264 K) [.aload 0, .invokeinterface 258 1, .jsr 41] ls st m := At.eq k264_37
theorem k264_41 : pg.1 264 41 = [.iload 1, .ifCond .eq 72, .aload 0, .bipush 100, .invokeinterface 252 2, .aload 0, .getfield 1001, .bipush 8, .iaload, .if_icmp .ge 72, .aload 0, .invokeinterface 259 1, .ifCond .eq 72, .aload 0, .invokeinterface 262 1, .jsr 72] := rfl
theorem a264_41 {tb : Tab} {d : Nat} {K : Out → AM → Prop} {ls st : List AV} {m : AM} : At tb d 264 K 41 ls st m = wpB tb (pg.2.1 264) (Runs tb pg d) K (At tb d 264 K) [.iload 1, .ifCond .eq 72, .aload 0, .bipush 100, .invokeinterface 252 2, .aload 0, .getfield 1001, .bipush 8, .iaload, .if_icmp .ge 72, .aload 0, .invokeinterface 259 1, .ifCond .eq 72, .aload 0, .invokeinterface 262 1, .jsr 72] ls st m := At.eq k264_41
theorem k264_72 : pg.1 264 72 = [.iload 1, .ifCond .eq 96, .aload 0, .bipush 100, .invokeinterface 252 2, .aload 0, .getfield 1001, .bipush 9, .iaload, .if_icmp .ge 96, .aload 0, .invokeinterface 263 1, .jsr 96] := rfl
theorem a264_72 {tb : Tab} {d : Nat} {K : Out → AM → Prop} {ls st : List AV} {m : AM} : At tb d 264 K 72 ls st m = wpB tb (pg.2.1 264) (Runs tb pg d) K (At tb d 264 K) [.iload 1, .ifCond .eq 96, .aload 0, .bipush 100, .invokeinterface 252 2, .aload 0, .getfield 1001, .bipush 9, .iaload, .if_icmp .ge 96, .aload 0, .invokeinterface 263 1, .jsr 96] ls st m := At.eq k264_72
theorem k264_96 : pg.1 264 96 = [.aload 0, .getfield 1001, .bipush 10, .bipush 9999, .aload 0, .getfield 1001, .bipush 10, .iaload, .bipush 1, .iadd, .invokeinterface 201 2, .iastore, .iload 2, .freturn] := rfl
theorem a264_96 {tb : Tab} {d : Nat} {K : Out → AM → Prop} {ls st : List AV} {m : AM} : At tb d 264 K 96 ls st m = wpB tb (pg.2.1 264) (Runs tb pg d) K (At tb d 264 K) [.aload 0, .getfield 1001, .bipush 10, .bipush 9999, .aload 0, .getfield 1001, .bipush 10, .iaload, .bipush 1, .iadd, .invokeinterface 201 2, .iastore, .iload 2, .freturn] ls st m := At.eq k264_96
theorem q_264 {w : Int} (hM : AskM tb ev good) (hA : AB (S 301)) (hG : good (lawD (S 301))) (hw : w = 0 ∨ w = 1) (hK : ∀ T x, SR (sR S (passR ev w (S 301))) T → yn x (snB w (S 301)) → K (.inl (some (vi x))) (X T m)) : Runs tb pg (d + 62) 264 [vr 300, vi w] (X S m) K := by
  have h96 : ∀ T r sn, SR (sR S r) T → AB r → LQ (S 301) r → st4 r = passR ev w (S 301) → yn sn (snB w (S 301)) → At tb (d + 61) 264 K 96 [vr 300, vi w, vi sn] [] (X T m) := by
    intro T r sn hT hr hl he hs
    have hTm := SR_m hT
    rw [sR_r] at hTm
    have hA2 : AB (T 301) := by rw [hTm]; exact hr
    have hB := AB_B hA2
    have dv := drawV_rg (T 301)
    have dA := drawR_AB hA2
    have dAr := drawR_AB hr
    have b4 := hA2.2.1.2.1
    have og := on_rg dA
    have b10 := hA2.2.1.2.2.2.2.2.2.2.2
    rw [a264_96]
    repeat' (first | refine hK _ _ ?_ hs | simp only [w_iload, w_if, cI, Int.reduceToNat, w_aload, w_iconst, w_call, x_g1001_300, x_iald, w_ialoads, w_ialoadw, w_ifc, w_goto, w_fall, w_istore, w_iadd, x_iast, w_zreturn, isA_301, isA_302, isA_303, isA_304, isA_305, isA_306, isA_307, isA_308, isA_309, isA_310, isA_311, isA_312, isA_313, isA_314, isA_315, len_301, len_302, len_303, len_304, len_305, len_306, len_307, len_308, len_309, len_310, len_311, len_312, len_313, len_314, len_315, Int.cast_ofNat_Int, a264_0, a264_24, a264_25, a264_37, a264_41, a264_72, a264_96, R32, List.getElem?_cons_zero, List.getElem?_cons_succ, List.set_cons_zero, List.set_cons_succ, List.cons_append, List.nil_append, List.replicate_succ, List.replicate_zero, List.take_succ_cons, List.take_zero, List.drop_succ_cons, List.drop_zero, List.reverse_cons, List.reverse_nil, List.length_cons, List.length_nil, Option.toList, true_and, and_true, eq_self, ↓reduceIte, not_true_eq_false, not_false_eq_true, true_or, or_true, upS_upS, upS_at, up300, up300b, oR3, fR3, dR3, lgR3, valM3, Int.reduceEq, Nat.reduceEqDiff, and_self, and_true, and_false, false_and, if_true, if_false, upS_301, sR_sR, sR_r, sR_0] | refine q_201 ?_ ?_ ?_ | with_reducible refine And.intro ?_ ?_ | with_reducible intro _)
    all_goals (try (first | omega | contradiction | ((try clear hK); (try clear hK0); (try clear hB); (try clear h9); (try clear h8); (try clear h7); (try simp only [oR3, fR3, dR3, lgR3, valM3, up300, up300b] at *); (try simp only [SR_o hT, SR_f hT, SR_d hT, SR_l hT, SR_v hT, SR_m hT, SR_g hT, oR3, fR3, dR3, lgR3, valM3, up300, up300b] at *); first | done | omega | (first | done | omega | ((try simp only [sR_r] at *); rw [← he, show ∀ x, x = (if 9999 < r 10 + 1 then 9999 else r 10 + 1) → putR r 10 x = st4 r from fun x hx => by rw [hx]; rfl] <;> first | exact SR_q hT | assumption) | (simp only [yn] at hs; omega)))))
  have h72 : ∀ T r sn, SR (sR S r) T → AB r → LQ (S 301) r → st4 (st3 w r) = passR ev w (S 301) → yn sn (snB w (S 301)) → At tb (d + 61) 264 K 72 [vr 300, vi w, vi sn] [] (X T m) := by
    intro T r sn hT hr hl he hs
    have hTm := SR_m hT
    rw [sR_r] at hTm
    have hA2 : AB (T 301) := by rw [hTm]; exact hr
    have hB := AB_B hA2
    have dv := drawV_rg (T 301)
    have dA := drawR_AB hA2
    have dAr := drawR_AB hr
    have b4 := hA2.2.1.2.1
    have og := on_rg dA
    have b9 := hB.1 9 (by decide)
    have o9 : drawR (T 301) 9 = T 301 9 := drawR_o (by decide)
    rw [a264_72]
    repeat' (first | refine h96 _ (st3 w r) sn ?_ (st3_AB hr) (LQ_t hl (LQ_st3 hr)) he hs | simp only [w_iload, w_if, cI, Int.reduceToNat, w_aload, w_iconst, w_call, x_g1001_300, x_iald, w_ialoads, w_ialoadw, w_ifc, w_goto, w_fall, w_istore, w_iadd, x_iast, w_zreturn, isA_301, isA_302, isA_303, isA_304, isA_305, isA_306, isA_307, isA_308, isA_309, isA_310, isA_311, isA_312, isA_313, isA_314, isA_315, len_301, len_302, len_303, len_304, len_305, len_306, len_307, len_308, len_309, len_310, len_311, len_312, len_313, len_314, len_315, Int.cast_ofNat_Int, a264_0, a264_24, a264_25, a264_37, a264_41, a264_72, R32, List.getElem?_cons_zero, List.getElem?_cons_succ, List.set_cons_zero, List.set_cons_succ, List.cons_append, List.nil_append, List.replicate_succ, List.replicate_zero, List.take_succ_cons, List.take_zero, List.drop_succ_cons, List.drop_zero, List.reverse_cons, List.reverse_nil, List.length_cons, List.length_nil, Option.toList, true_and, and_true, eq_self, ↓reduceIte, not_true_eq_false, not_false_eq_true, true_or, or_true, upS_upS, upS_at, up300, up300b, oR3, fR3, dR3, lgR3, valM3, Int.reduceEq, Nat.reduceEqDiff, and_self, and_true, and_false, false_and, if_true, if_false, upS_301, sR_sR, sR_r, sR_0] | refine q_252 ?_ ?_ | refine q_252 (S := sR _ _) ?_ ?_ | refine q_263 (S := sR _ _) dA ?_ | refine q_262 (S := sR _ _) dA ?_ ?_ | refine q_257 hA2 ?_ | refine q_257 (S := sR _ _) dA ?_ | refine q_259' (s := onS (drawR (T 301))) (S := sR _ _) (ABs dA) rfl ?_ | with_reducible refine And.intro ?_ ?_ | with_reducible intro _)
    all_goals (try (first | omega | contradiction | ((try clear hK); (try clear hK0); (try clear hB); (try clear h9); (try clear h8); (try clear h7); (try simp only [oR3, fR3, dR3, lgR3, valM3, up300, up300b] at *); (try simp only [SR_o hT, SR_f hT, SR_d hT, SR_l hT, SR_v hT, SR_m hT, SR_g hT, oR3, fR3, dR3, lgR3, valM3, up300, up300b] at *); first | done | omega | ((try simp only [o9] at *); first | done | omega | (unfold st3; first | (rw [if_pos (by omega)]; exact hT) | (rw [if_neg (by omega), if_pos (by rw [← hTm]; omega), ← hTm]; rw [← hTm] at hT; exact SR_q hT) | (rw [if_neg (by omega), if_neg (by rw [← hTm]; omega), ← hTm]; rw [← hTm] at hT; exact SR_q hT))))))
  have h41 : ∀ T r sn, SR (sR S r) T → AB r → LQ (S 301) r → st4 (st3 w (st2 w r)) = passR ev w (S 301) → yn sn (snB w (S 301)) → At tb (d + 61) 264 K 41 [vr 300, vi w, vi sn] [] (X T m) := by
    intro T r sn hT hr hl he hs
    have hTm := SR_m hT
    rw [sR_r] at hTm
    have hA2 : AB (T 301) := by rw [hTm]; exact hr
    have hB := AB_B hA2
    have dv := drawV_rg (T 301)
    have dA := drawR_AB hA2
    have dAr := drawR_AB hr
    have b4 := hA2.2.1.2.1
    have og := on_rg dA
    have b9 := hB.1 8 (by decide)
    have o9 : drawR (T 301) 8 = T 301 8 := drawR_o (by decide)
    have oe : onS (drawR (T 301)) = onS (T 301) := onS_draw hA2
    have hh : onS (drawR r) ≠ 0 → AB (haresR (drawR r)) := fun z => haresR_AB dAr z
    obtain ⟨os, hos⟩ : ∃ os, os = onS (drawR (T 301)) := ⟨_, rfl⟩
    rw [← hos] at og oe
    rw [a264_41]
    repeat' (first | refine h72 _ (st2 w r) sn ?_ (st2_AB hr) (LQ_t hl (LQ_st2 hr)) he hs | simp only [w_iload, w_if, cI, Int.reduceToNat, w_aload, w_iconst, w_call, x_g1001_300, x_iald, w_ialoads, w_ialoadw, w_ifc, w_goto, w_fall, w_istore, w_iadd, x_iast, w_zreturn, isA_301, isA_302, isA_303, isA_304, isA_305, isA_306, isA_307, isA_308, isA_309, isA_310, isA_311, isA_312, isA_313, isA_314, isA_315, len_301, len_302, len_303, len_304, len_305, len_306, len_307, len_308, len_309, len_310, len_311, len_312, len_313, len_314, len_315, Int.cast_ofNat_Int, a264_0, a264_24, a264_25, a264_37, a264_41, a264_96, R32, List.getElem?_cons_zero, List.getElem?_cons_succ, List.set_cons_zero, List.set_cons_succ, List.cons_append, List.nil_append, List.replicate_succ, List.replicate_zero, List.take_succ_cons, List.take_zero, List.drop_succ_cons, List.drop_zero, List.reverse_cons, List.reverse_nil, List.length_cons, List.length_nil, Option.toList, true_and, and_true, eq_self, ↓reduceIte, not_true_eq_false, not_false_eq_true, true_or, or_true, upS_upS, upS_at, up300, up300b, oR3, fR3, dR3, lgR3, valM3, Int.reduceEq, Nat.reduceEqDiff, and_self, and_true, and_false, false_and, if_true, if_false, upS_301, sR_sR, sR_r, sR_0] | refine q_252 ?_ ?_ | refine q_252 (S := sR _ _) ?_ ?_ | refine q_263 (S := sR _ _) dA ?_ | refine q_262 (S := sR _ _) dA ?_ ?_ | refine q_257 hA2 ?_ | refine q_257 (S := sR _ _) dA ?_ | refine q_259' (s := os) (S := sR _ _) (ABs dA) hos ?_ | with_reducible refine And.intro ?_ ?_ | with_reducible intro _)
    all_goals (try (first | omega | contradiction | ((try clear hK); (try clear hK0); (try clear hB); (try clear h9); (try clear h8); (try clear h7); (try simp only [oR3, fR3, dR3, lgR3, valM3, up300, up300b] at *); (try simp only [SR_o hT, SR_f hT, SR_d hT, SR_l hT, SR_v hT, SR_m hT, SR_g hT, oR3, fR3, dR3, lgR3, valM3, up300, up300b] at *); first | done | omega | ((try simp only [o9] at *); first | done | omega | (rw [← hos]; omega) | (unfold st2; first | (rw [if_pos (by omega)]; exact hT) | (rw [if_neg (by omega), if_pos (by rw [← hTm]; omega), ← hTm]; rw [← hTm] at hT; exact SR_q hT) | (rw [if_neg (by omega), if_neg (by rw [← hTm]; omega), ← hTm]; rw [← hTm] at hT; exact SR_q hT))))))
  have hB := AB_B hA
  have dA := drawR_AB hA
  have dv := drawV_rg (S 301)
  have b9 := hB.1 7 (by decide)
  have o9 : drawR (S 301) 7 = S 301 7 := drawR_o (by decide)
  have hG2 : good (lawD (drawR (S 301))) := by rw [lawD_LQ LQ_draw]; exact hG
  refine Runs.of (al := [vr 300, vi w]) (n := 1) ⟨300, _, _, rfl, xo_300⟩ rfl rfl trivial ?_
  repeat' (first | refine h41 _ (st1 ev w (S 301)) _ ?_ (st1_AB hA) (LQ_st1 hA) rfl ?_ | simp only [w_iload, w_if, cI, Int.reduceToNat, w_aload, w_iconst, w_call, x_g1001_300, x_iald, w_ialoads, w_ialoadw, w_ifc, w_goto, w_fall, w_istore, w_iadd, x_iast, w_zreturn, isA_301, isA_302, isA_303, isA_304, isA_305, isA_306, isA_307, isA_308, isA_309, isA_310, isA_311, isA_312, isA_313, isA_314, isA_315, len_301, len_302, len_303, len_304, len_305, len_306, len_307, len_308, len_309, len_310, len_311, len_312, len_313, len_314, len_315, Int.cast_ofNat_Int, a264_0, a264_24, a264_25, a264_37, a264_72, a264_96, R32, List.getElem?_cons_zero, List.getElem?_cons_succ, List.set_cons_zero, List.set_cons_succ, List.cons_append, List.nil_append, List.replicate_succ, List.replicate_zero, List.take_succ_cons, List.take_zero, List.drop_succ_cons, List.drop_zero, List.reverse_cons, List.reverse_nil, List.length_cons, List.length_nil, Option.toList, true_and, and_true, eq_self, ↓reduceIte, not_true_eq_false, not_false_eq_true, true_or, or_true, upS_upS, upS_at, up300, up300b, oR3, fR3, dR3, lgR3, valM3, Int.reduceEq, Nat.reduceEqDiff, and_self, and_true, and_false, false_and, if_true, if_false, upS_301, sR_sR, sR_r, sR_0] | refine q_252 ?_ ?_ | refine q_257 hA ?_ | refine q_257 (S := sR _ _) dA ?_ | refine q_258 hM hA hG (fun T9 e9 => ?_) | refine q_258 (S := sR _ _) hM dA hG2 (fun T9 e9 => ?_) | with_reducible refine And.intro ?_ ?_ | with_reducible intro _)
  all_goals (try (first | omega | contradiction | ((try clear hK); (try clear hK0); (try clear hB); (try clear h9); (try clear h8); (try clear h7); (try simp only [oR3, fR3, dR3, lgR3, valM3, up300, up300b] at *); (try simp only [SR_o hT, SR_f hT, SR_d hT, SR_l hT, SR_v hT, SR_m hT, SR_g hT, oR3, fR3, dR3, lgR3, valM3, up300, up300b] at *); first | done | omega | ((try simp only [o9] at *); first | done | omega | (clear h96 h72 h41; grind [snB, yn]) | (rw [st1_y (by simp only [snB]; omega), st0_1 (by omega)]; exact SR_refl) | (rw [st1_n (by simp only [snB]; omega), st0_0 (by omega)]; exact e9) | (rw [st1_n (by simp only [snB]; omega), st0_1 (by omega)]; rw [sR_sR] at e9; exact e9) | grind))))
noncomputable def goN (ev : LawD → Int → (Int → Int) → Int) (w : Int) (r : Int → Int) : Nat → Int → Int
  | 0 => r
  | k + 1 => passR ev w (goN ev w r k)
/-- on how many of the first days it snows -/
noncomputable def goC (ev : LawD → Int → (Int → Int) → Int) (w : Int) (r : Int → Int) : Nat → Int
  | 0 => 0
  | k + 1 => goC ev w r k + @ite _ (snB w (goN ev w r k)) (Classical.propDecidable _) 1 0
theorem goN_AB {ev : LawD → Int → (Int → Int) → Int} {w : Int} {r : Int → Int} (h : AB r) : ∀ k : Nat, AB (goN ev w r k) ∧ LQ r (goN ev w r k)
  | 0 => ⟨h, LQ_r⟩
  | k + 1 => ⟨passR_AB (goN_AB h k).1, LQ_t (goN_AB h k).2 (LQ_pass (goN_AB h k).1)⟩
theorem goC_rg {ev : LawD → Int → (Int → Int) → Int} {w : Int} {r : Int → Int} : ∀ k : Nat, 0 ≤ goC ev w r k ∧ goC ev w r k ≤ k
  | 0 => by show 0 ≤ (0 : Int) ∧ (0 : Int) ≤ ((0 : Nat) : Int); omega
  | k + 1 => by
    have := goC_rg (ev := ev) (w := w) (r := r) k
    unfold goC
    split <;> omega
theorem goC_s {ev : LawD → Int → (Int → Int) → Int} {w i x : Int} {r : Int → Int} (h : 0 ≤ i) (hx : yn x (snB w (goN ev w r i.toNat))) : goC ev w r (i + 1).toNat = goC ev w r i.toNat + x := by
  rw [show (i + 1).toNat = i.toNat + 1 by omega]
  show goC ev w r i.toNat + @ite _ (snB w (goN ev w r i.toNat)) (Classical.propDecidable _) 1 0 = _
  rcases hx with ⟨h1, h2⟩ | ⟨h1, h2⟩
  · rw [if_pos h2, h1]
  · rw [if_neg h2, h1]
theorem goN_s {ev : LawD → Int → (Int → Int) → Int} {w i : Int} {r : Int → Int} (h : 0 ≤ i) : goN ev w r (i + 1).toNat = passR ev w (goN ev w r i.toNat) := by
  rw [show (i + 1).toNat = i.toNat + 1 by omega]
  rfl
theorem k265_0 : pg.1 265 0 = [.bipush 0, .istore 3, .bipush 0, .istore 4, .jsr 5] := rfl
theorem a265_0 {tb : Tab} {d : Nat} {K : Out → AM → Prop} {ls st : List AV} {m : AM} : At tb d 265 K 0 ls st m = wpB tb (pg.2.1 265) (Runs tb pg d) K (At tb d 265 K) [.bipush 0, .istore 3, .bipush 0, .istore 4, .jsr 5] ls st m := At.eq k265_0
theorem k265_5 : pg.1 265 5 = [.iload 4, .iload 1, .if_icmp .ge 33, .iload 3, .aload 0, .iload 2, .invokeinterface 264 2, .ifCond .eq 24, .bipush 1, .goto 25] := rfl
theorem a265_5 {tb : Tab} {d : Nat} {K : Out → AM → Prop} {ls st : List AV} {m : AM} : At tb d 265 K 5 ls st m = wpB tb (pg.2.1 265) (Runs tb pg d) K (At tb d 265 K) [.iload 4, .iload 1, .if_icmp .ge 33, .iload 3, .aload 0, .iload 2, .invokeinterface 264 2, .ifCond .eq 24, .bipush 1, .goto 25] ls st m := At.eq k265_5
theorem k265_24 : pg.1 265 24 = [.bipush 0, .jsr 25] := rfl
theorem a265_24 {tb : Tab} {d : Nat} {K : Out → AM → Prop} {ls st : List AV} {m : AM} : At tb d 265 K 24 ls st m = wpB tb (pg.2.1 265) (Runs tb pg d) K (At tb d 265 K) [.bipush 0, .jsr 25] ls st m := At.eq k265_24
theorem k265_25 : pg.1 265 25 = [.iadd, .istore 3, .iinc 4 1, .goto 5] := rfl
theorem a265_25 {tb : Tab} {d : Nat} {K : Out → AM → Prop} {ls st : List AV} {m : AM} : At tb d 265 K 25 ls st m = wpB tb (pg.2.1 265) (Runs tb pg d) K (At tb d 265 K) [.iadd, .istore 3, .iinc 4 1, .goto 5] ls st m := At.eq k265_25
theorem k265_33 : pg.1 265 33 = [.iload 3, .ireturn] := rfl
theorem a265_33 {tb : Tab} {d : Nat} {K : Out → AM → Prop} {ls st : List AV} {m : AM} : At tb d 265 K 33 ls st m = wpB tb (pg.2.1 265) (Runs tb pg d) K (At tb d 265 K) [.iload 3, .ireturn] ls st m := At.eq k265_33
theorem q_265 {n w : Int} (hM : AskM tb ev good) (hA : AB (S 301)) (hG : good (lawD (S 301))) (hw : w = 0 ∨ w = 1) (hn : 0 ≤ n ∧ n ≤ 1000) (hK : ∀ T x, SR (sR S (goN ev w (S 301) n.toNat)) T → x = goC ev w (S 301) n.toNat → K (.inl (some (vi x))) (X T m)) : Runs tb pg (d + 63) 265 [vr 300, vi n, vi w] (X S m) K := by
  have hL5 : (fun i : Int => ∀ (T : Nat → Int → Int) (a : Int), (SR (sR S (goN ev w (S 301) i.toNat)) T) → a = goC ev w (S 301) i.toNat → At tb (d + 62) 265 K 5 [vr 300, vi n, vi w, vi a, vi i] [] (X T m)) 0 := by
    refine loopZ (fun i : Int => ∀ (T : Nat → Int → Int) (a : Int), (SR (sR S (goN ev w (S 301) i.toNat)) T) → a = goC ev w (S 301) i.toNat → At tb (d + 62) 265 K 5 [vr 300, vi n, vi w, vi a, vi i] [] (X T m)) (n) (by omega) ?_ ?_
    · intro i h0 h1 h9 T a hT ha
      obtain ⟨g1, g2⟩ := goN_AB (ev := ev) (w := w) hA i.toNat
      have g3 := goC_rg (ev := ev) (w := w) (r := S 301) i.toNat
      have hTm := SR_m hT
      rw [sR_r] at hTm
      have hA2 : AB (T 301) := by rw [hTm]; exact g1
      have hG2 : good (lawD (T 301)) := by rw [hTm, lawD_LQ g2]; exact hG
      rw [a265_5]
      repeat' (first | refine h9 _ _ ?_ ?_ | simp only [w_iconst, w_istore, w_fall, Int.reduceToNat, w_iload, w_ifc, cI, w_aload, w_call, w_if, w_goto, w_iadd, w_iinc, lgB, Nat.reduceSub, w_ireturn, a265_0, a265_24, a265_25, a265_33, R32, List.getElem?_cons_zero, List.getElem?_cons_succ, List.set_cons_zero, List.set_cons_succ, List.cons_append, List.nil_append, List.replicate_succ, List.replicate_zero, List.take_succ_cons, List.take_zero, List.drop_succ_cons, List.drop_zero, List.reverse_cons, List.reverse_nil, List.length_cons, List.length_nil, Option.toList, true_and, and_true, eq_self, ↓reduceIte, not_true_eq_false, not_false_eq_true, true_or, or_true, upS_upS, upS_at, up300, up300b, oR3, fR3, dR3, lgR3, valM3, Int.reduceEq, Nat.reduceEqDiff, and_self, and_true, and_false, false_and, if_true, if_false] | refine q_264 hM hA2 hG2 hw (fun T9 x9 e9 e8 => ?_) | with_reducible refine And.intro ?_ ?_ | with_reducible intro _)
      all_goals (try (first | omega | contradiction | ((try clear hK); (try clear hK0); (try clear hB); (try clear h9); (try clear h8); (try clear h7); (try simp only [oR3, fR3, dR3, lgR3, valM3, up300, up300b] at *); (try simp only [SR_o hT, SR_f hT, SR_d hT, SR_l hT, SR_v hT, SR_m hT, SR_g hT, oR3, fR3, dR3, lgR3, valM3, up300, up300b] at *); first | done | omega | (rw [goN_s h0]; rw [hTm] at e9; exact SR_trans (SR_q hT) e9) | (rw [hTm] at e8; rw [goC_s h0 e8, ha]; first | done | (rcases e8 with e7 | e7 <;> omega)) | (simp only [yn] at e8; omega))))
    · intro T a hT ha
      rw [a265_5]
      repeat' (first | refine hK _ _ ?_ ?_ | simp only [w_iconst, w_istore, w_fall, Int.reduceToNat, w_iload, w_ifc, cI, w_aload, w_call, w_if, w_goto, w_iadd, w_iinc, lgB, Nat.reduceSub, w_ireturn, a265_0, a265_24, a265_25, a265_33, R32, List.getElem?_cons_zero, List.getElem?_cons_succ, List.set_cons_zero, List.set_cons_succ, List.cons_append, List.nil_append, List.replicate_succ, List.replicate_zero, List.take_succ_cons, List.take_zero, List.drop_succ_cons, List.drop_zero, List.reverse_cons, List.reverse_nil, List.length_cons, List.length_nil, Option.toList, true_and, and_true, eq_self, ↓reduceIte, not_true_eq_false, not_false_eq_true, true_or, or_true, upS_upS, upS_at, up300, up300b, oR3, fR3, dR3, lgR3, valM3, Int.reduceEq, Nat.reduceEqDiff, and_self, and_true, and_false, false_and, if_true, if_false] | refine q_264 hM hA2 hG2 hw (fun T9 x9 e9 e8 => ?_) | with_reducible refine And.intro ?_ ?_ | with_reducible intro _)
      all_goals (try (first | omega | contradiction | ((try clear hK); (try clear hK0); (try clear hB); (try clear h9); (try clear h8); (try clear h7); (try simp only [oR3, fR3, dR3, lgR3, valM3, up300, up300b] at *); (try simp only [SR_o hT, SR_f hT, SR_d hT, SR_l hT, SR_v hT, SR_m hT, SR_g hT, oR3, fR3, dR3, lgR3, valM3, up300, up300b] at *); first | done | omega | exact hT | exact ha | (have g3 := goC_rg (ev := ev) (w := w) (r := S 301) n.toNat; omega))))
  refine Runs.of (al := [vr 300, vi n, vi w]) (n := 2) ⟨300, _, _, rfl, xo_300⟩ rfl rfl trivial ?_
  repeat' (first | refine hL5 _ _ ?_ ?_ | simp only [w_iconst, w_istore, w_fall, Int.reduceToNat, w_iload, w_ifc, cI, w_aload, w_call, w_if, w_goto, w_iadd, w_iinc, lgB, Nat.reduceSub, w_ireturn, a265_0, a265_24, a265_25, a265_33, R32, List.getElem?_cons_zero, List.getElem?_cons_succ, List.set_cons_zero, List.set_cons_succ, List.cons_append, List.nil_append, List.replicate_succ, List.replicate_zero, List.take_succ_cons, List.take_zero, List.drop_succ_cons, List.drop_zero, List.reverse_cons, List.reverse_nil, List.length_cons, List.length_nil, Option.toList, true_and, and_true, eq_self, ↓reduceIte, not_true_eq_false, not_false_eq_true, true_or, or_true, upS_upS, upS_at, up300, up300b, oR3, fR3, dR3, lgR3, valM3, Int.reduceEq, Nat.reduceEqDiff, and_self, and_true, and_false, false_and, if_true, if_false] | refine q_264 hM hA2 hG2 hw (fun T9 x9 e9 e8 => ?_) | with_reducible refine And.intro ?_ ?_ | with_reducible intro _)
  all_goals (try (first | omega | contradiction | ((try clear hK); (try clear hK0); (try clear hB); (try clear h9); (try clear h8); (try clear h7); (try simp only [oR3, fR3, dR3, lgR3, valM3, up300, up300b] at *); (try simp only [SR_o hT, SR_f hT, SR_d hT, SR_l hT, SR_v hT, SR_m hT, SR_g hT, oR3, fR3, dR3, lgR3, valM3, up300, up300b] at *); first | done | omega | exact SR_id SR_refl | rfl)))
end Ref23
