/-! ===== THE REFERENCE: tried out and laid back ===== -/
/-- the same but for what is of no use behind a call, the row aside too -/
def SQ (S T : Nat → Int → Int) : Prop := (∀ a, a ≠ 300 → a ≠ 303 → (a < 306 ∨ 311 < a) → T a = S a) ∧ (∀ j, j = 0 ∨ j = 3 ∨ j = 6 ∨ j = 8 ∨ j = 12 → T 300 j = S 300 j)
theorem SQ_of {S T : Nat → Int → Int} (h : SR S T) : SQ S T := ⟨fun a h1 _ h3 => h.1 a h1 h3, h.2⟩
theorem SQ_t {S T U : Nat → Int → Int} (h : SQ S T) (g : SQ T U) : SQ S U := ⟨fun a h1 h2 h3 => (g.1 a h1 h2 h3).trans (h.1 a h1 h2 h3), fun j h1 => (g.2 j h1).trans (h.2 j h1)⟩
theorem SQ_m {S T : Nat → Int → Int} (h : SQ S T) : T 301 = S 301 := h.1 301 (by decide) (by decide) (by decide)
theorem SQ_as {S : Nat → Int → Int} {i : Int} : SQ S (asS S i) := ⟨fun a h1 h2 h3 => if_neg h2, fun j h1 => rfl⟩
/-- laid aside, tried, laid back -/
theorem SQ_back {S T : Nat → Int → Int} {q : Int → Int} (h : SR (sR (asS S 415) q) T) (hq : LQ (S 301) q) : SQ S (sR T (bkR (T 301) (T 303) 415)) := by
  have e1 : T 301 = q := by rw [SR_m h, sR_r]
  have e3 : T 303 = asS S 415 303 := h.1 303 (by decide) (by decide)
  refine ⟨fun a h1 h2 h3 => ?_, fun j h1 => h.2 j h1⟩
  by_cases e : a = 301
  · subst e
    show bkR (T 301) (T 303) 415 = S 301
    funext j
    unfold bkR
    rw [e1, e3]
    by_cases z : 0 ≤ j ∧ j < 415
    · rw [if_pos z]
      show (if 0 ≤ j ∧ j < 415 then S 301 j else S 303 j) = S 301 j
      rw [if_pos z]
    · rw [if_neg z]
      exact hq j (by omega)
  · rw [show sR T (bkR (T 301) (T 303) 415) a = T a from if_neg e, h.1 a h1 h3]
    show (if a = 301 then q else asS S 415 a) = S a
    rw [if_neg e]
    exact if_neg h2
/-- for how many days one is whole: up to 61 -/
def isLst (ev : LawD → Int → (Int → Int) → Int) (r : Int → Int) (p n : Int) : Prop := (0 ≤ n ∧ n ≤ 61) ∧ (∀ k, 0 ≤ k → k < n → wholeM (pr (goN ev 0 r k.toNat)) p (pr (goN ev 0 r k.toNat) p 0)) ∧ (n = 61 ∨ ¬ wholeM (pr (goN ev 0 r n.toNat)) p (pr (goN ev 0 r n.toNat) p 0))
def allW (ev : LawD → Int → (Int → Int) → Int) (r : Int → Int) (p n : Int) : Prop := ∀ k, 0 ≤ k → k < n → wholeM (pr (goN ev 0 r k.toNat)) p (pr (goN ev 0 r k.toNat) p 0)
theorem allW_s {ev : LawD → Int → (Int → Int) → Int} {r : Int → Int} {p n : Int} (h : allW ev r p n) (g : wholeM (pr (goN ev 0 r n.toNat)) p (pr (goN ev 0 r n.toNat) p 0)) : allW ev r p (n + 1) := by
  intro k k0 k1
  by_cases e : k = n
  · subst e; exact g
  · exact h k k0 (by omega)
theorem isLst_n {ev : LawD → Int → (Int → Int) → Int} {r : Int → Int} {p n : Int} (h : allW ev r p n) (h0 : 0 ≤ n ∧ n ≤ 61) (g : n = 61 ∨ ¬ wholeM (pr (goN ev 0 r n.toNat)) p (pr (goN ev 0 r n.toNat) p 0)) : isLst ev r p n := ⟨h0, h, g⟩
theorem isLst_uq {ev : LawD → Int → (Int → Int) → Int} {r : Int → Int} {p n k : Int} (h : isLst ev r p n) (g : isLst ev r p k) : n = k := by
  by_cases e1 : n < k
  · rcases h.2.2 with z | z
    · have := g.1; omega
    · exact absurd (g.2.1 n h.1.1 e1) z
  · by_cases e2 : k < n
    · rcases g.2.2 with z | z
      · have := h.1; omega
      · exact absurd (h.2.1 k g.1.1 e2) z
    · omega
section Ref28
variable {tb : Tab} {d : Nat} {m : AM} {K : Out → AM → Prop} {S : Nat → Int → Int} {ev : LawD → Int → (Int → Int) → Int} {good : LawD → Prop}
theorem k272_0 : pg.1 272 0 = [.bipush 0, .istore 2, .jsr 2] := rfl
theorem a272_0 {tb : Tab} {d : Nat} {K : Out → AM → Prop} {ls st : List AV} {m : AM} : At tb d 272 K 0 ls st m = wpB tb (pg.2.1 272) (Runs tb pg d) K (At tb d 272 K) [.bipush 0, .istore 2, .jsr 2] ls st m := At.eq k272_0
theorem k272_2 : pg.1 272 2 = [.iload 2, .bipush 60, .if_icmp .gt 28, .aload 0, .iload 1, .invokeinterface 214 2, .ifCond .eq 28, .aload 0, .bipush 0, .invokeinterface 264 2, .istore 3, .iinc 2 1, .goto 2] := rfl
theorem a272_2 {tb : Tab} {d : Nat} {K : Out → AM → Prop} {ls st : List AV} {m : AM} : At tb d 272 K 2 ls st m = wpB tb (pg.2.1 272) (Runs tb pg d) K (At tb d 272 K) [.iload 2, .bipush 60, .if_icmp .gt 28, .aload 0, .iload 1, .invokeinterface 214 2, .ifCond .eq 28, .aload 0, .bipush 0, .invokeinterface 264 2, .istore 3, .iinc 2 1, .goto 2] ls st m := At.eq k272_2
theorem k272_28 : pg.1 272 28 = [.iload 2, .ireturn] := rfl
theorem a272_28 {tb : Tab} {d : Nat} {K : Out → AM → Prop} {ls st : List AV} {m : AM} : At tb d 272 K 28 ls st m = wpB tb (pg.2.1 272) (Runs tb pg d) K (At tb d 272 K) [.iload 2, .ireturn] ls st m := At.eq k272_28
theorem q_272 {p : Int} (hM : AskM tb ev good) (hA : AB (S 301)) (hG : good (lawD (S 301))) (hp : 0 ≤ p ∧ p < 6) (hK : ∀ T n, isLst ev (S 301) p n → SR (sR S (goN ev 0 (S 301) n.toNat)) T → K (.inl (some (vi n))) (X T m)) : Runs tb pg (d + 63) 272 [vr 300, vi p] (X S m) K := by
  have hL2 : (fun i : Int => ∀ (z3 : AV) (T : Nat → Int → Int), (SR (sR S (goN ev 0 (S 301) i.toNat)) T) → (allW ev (S 301) p i) → At tb (d + 62) 272 K 2 [vr 300, vi p, vi i, z3] [] (X T m)) 0 := by
    refine loopZ (fun i : Int => ∀ (z3 : AV) (T : Nat → Int → Int), (SR (sR S (goN ev 0 (S 301) i.toNat)) T) → (allW ev (S 301) p i) → At tb (d + 62) 272 K 2 [vr 300, vi p, vi i, z3] [] (X T m)) (61) (by omega) ?_ ?_
    · intro i h0 h1 h9 z3 T hT hw
      obtain ⟨g1, g2⟩ := goN_AB (ev := ev) (w := 0) hA i.toNat
      have hTm := SR_m hT
      rw [sR_r] at hTm
      have hA2 : AB (T 301) := by rw [hTm]; exact g1
      have hG2 : good (lawD (T 301)) := by rw [hTm, lawD_LQ g2]; exact hG
      have hB := AB_B hA2
      have o1 : oR T = pr (goN ev 0 (S 301) i.toNat) := by rw [SR_o hT, oRs]
      obtain ⟨W, hW⟩ : ∃ W : Prop, W ↔ wholeM (pr (goN ev 0 (S 301) i.toNat)) p (pr (goN ev 0 (S 301) i.toNat) p 0) := ⟨_, Iff.rfl⟩
      rw [a272_2]
      repeat' (first | refine h9 _ _ ?_ ?_ | refine hK _ _ ?_ hT | simp only [w_iconst, w_istore, w_fall, Int.reduceToNat, w_iload, w_ifc, cI, w_aload, w_call, w_if, w_iinc, lgB, Nat.reduceSub, w_goto, w_ireturn, a272_0, a272_28, R32, List.getElem?_cons_zero, List.getElem?_cons_succ, List.set_cons_zero, List.set_cons_succ, List.cons_append, List.nil_append, List.replicate_succ, List.replicate_zero, List.take_succ_cons, List.take_zero, List.drop_succ_cons, List.drop_zero, List.reverse_cons, List.reverse_nil, List.length_cons, List.length_nil, Option.toList, true_and, and_true, eq_self, ↓reduceIte, not_true_eq_false, not_false_eq_true, true_or, or_true, upS_upS, upS_at, up300, up300b, oR3, fR3, dR3, lgR3, valM3, Int.reduceEq, Nat.reduceEqDiff, and_self, and_true, and_false, false_and, if_true, if_false] | refine q_214 hB ?_ (fun r7 e7 => ?_) | refine q_214 (BR3 hB) ?_ (fun r7 e7 => ?_) | refine q_214 (BRs hT hB) ?_ (fun r7 e7 => ?_) | refine q_264 hM hA2 hG2 (Or.inl rfl) (fun T9 x9 e9 e8 => ?_) | with_reducible refine And.intro ?_ ?_ | with_reducible intro _)
      all_goals (try (first | omega | contradiction | ((try clear hK); (try clear hK0); (try clear hB); (try clear h9); (try clear h8); (try clear h7); (try simp only [oR3, fR3, dR3, lgR3, valM3, up300, up300b] at *); (try simp only [SR_o hT, SR_f hT, SR_d hT, SR_l hT, SR_v hT, SR_m hT, SR_g hT, oR3, fR3, dR3, lgR3, valM3, up300, up300b] at *); first | done | omega | (refine isLst_n hw ⟨h0, by omega⟩ (Or.inr ?_); rw [← o1]; grind [yn]) | (rw [goN_s h0]; rw [hTm] at e9; exact SR_trans (SR_q hT) e9) | (refine allW_s hw ?_; rw [← o1]; grind [yn]) | (simp only [yn] at *; omega))))
    · intro z3 T hT hw
      rw [a272_2]
      repeat' (first | refine hK _ _ ?_ hT | simp only [w_iconst, w_istore, w_fall, Int.reduceToNat, w_iload, w_ifc, cI, w_aload, w_call, w_if, w_iinc, lgB, Nat.reduceSub, w_goto, w_ireturn, a272_0, a272_28, R32, List.getElem?_cons_zero, List.getElem?_cons_succ, List.set_cons_zero, List.set_cons_succ, List.cons_append, List.nil_append, List.replicate_succ, List.replicate_zero, List.take_succ_cons, List.take_zero, List.drop_succ_cons, List.drop_zero, List.reverse_cons, List.reverse_nil, List.length_cons, List.length_nil, Option.toList, true_and, and_true, eq_self, ↓reduceIte, not_true_eq_false, not_false_eq_true, true_or, or_true, upS_upS, upS_at, up300, up300b, oR3, fR3, dR3, lgR3, valM3, Int.reduceEq, Nat.reduceEqDiff, and_self, and_true, and_false, false_and, if_true, if_false] | refine q_214 hB ?_ (fun r7 e7 => ?_) | refine q_214 (BR3 hB) ?_ (fun r7 e7 => ?_) | refine q_214 (BRs hT hB) ?_ (fun r7 e7 => ?_) | refine q_264 hM hA2 hG2 (Or.inl rfl) (fun T9 x9 e9 e8 => ?_) | with_reducible refine And.intro ?_ ?_ | with_reducible intro _)
      all_goals (try (first | omega | contradiction | ((try clear hK); (try clear hK0); (try clear hB); (try clear h9); (try clear h8); (try clear h7); (try simp only [oR3, fR3, dR3, lgR3, valM3, up300, up300b] at *); (try simp only [SR_o hT, SR_f hT, SR_d hT, SR_l hT, SR_v hT, SR_m hT, SR_g hT, oR3, fR3, dR3, lgR3, valM3, up300, up300b] at *); first | done | omega | exact isLst_n hw (by decide) (Or.inl rfl) | omega)))
  refine Runs.of (al := [vr 300, vi p]) (n := 2) ⟨300, _, _, rfl, xo_300⟩ rfl rfl trivial ?_
  repeat' (first | refine hL2 _ _ ?_ ?_ | simp only [w_iconst, w_istore, w_fall, Int.reduceToNat, w_iload, w_ifc, cI, w_aload, w_call, w_if, w_iinc, lgB, Nat.reduceSub, w_goto, w_ireturn, a272_0, a272_28, R32, List.getElem?_cons_zero, List.getElem?_cons_succ, List.set_cons_zero, List.set_cons_succ, List.cons_append, List.nil_append, List.replicate_succ, List.replicate_zero, List.take_succ_cons, List.take_zero, List.drop_succ_cons, List.drop_zero, List.reverse_cons, List.reverse_nil, List.length_cons, List.length_nil, Option.toList, true_and, and_true, eq_self, ↓reduceIte, not_true_eq_false, not_false_eq_true, true_or, or_true, upS_upS, upS_at, up300, up300b, oR3, fR3, dR3, lgR3, valM3, Int.reduceEq, Nat.reduceEqDiff, and_self, and_true, and_false, false_and, if_true, if_false] | refine q_214 hB ?_ (fun r7 e7 => ?_) | refine q_214 (BR3 hB) ?_ (fun r7 e7 => ?_) | refine q_214 (BRs hT hB) ?_ (fun r7 e7 => ?_) | refine q_264 hM hA2 hG2 (Or.inl rfl) (fun T9 x9 e9 e8 => ?_) | with_reducible refine And.intro ?_ ?_ | with_reducible intro _)
  all_goals (try (first | omega | contradiction | ((try clear hK); (try clear hK0); (try clear hB); (try clear h9); (try clear h8); (try clear h7); (try simp only [oR3, fR3, dR3, lgR3, valM3, up300, up300b] at *); (try simp only [SR_o hT, SR_f hT, SR_d hT, SR_l hT, SR_v hT, SR_m hT, SR_g hT, oR3, fR3, dR3, lgR3, valM3, up300, up300b] at *); first | done | omega | exact SR_id SR_refl | (intro k k0 k1; omega))))
theorem k273_0 : pg.1 273 0 = [.aload 0, .invokeinterface 237 1, .aload 0, .iload 1, .invokeinterface 272 2, .istore 2, .aload 0, .invokeinterface 238 1, .iload 2, .bipush 60, .if_icmp .le 24, .bipush (-1), .goto 25] := rfl
theorem a273_0 {tb : Tab} {d : Nat} {K : Out → AM → Prop} {ls st : List AV} {m : AM} : At tb d 273 K 0 ls st m = wpB tb (pg.2.1 273) (Runs tb pg d) K (At tb d 273 K) [.aload 0, .invokeinterface 237 1, .aload 0, .iload 1, .invokeinterface 272 2, .istore 2, .aload 0, .invokeinterface 238 1, .iload 2, .bipush 60, .if_icmp .le 24, .bipush (-1), .goto 25] ls st m := At.eq k273_0
theorem k273_24 : pg.1 273 24 = [.iload 2, .jsr 25] := rfl
theorem a273_24 {tb : Tab} {d : Nat} {K : Out → AM → Prop} {ls st : List AV} {m : AM} : At tb d 273 K 24 ls st m = wpB tb (pg.2.1 273) (Runs tb pg d) K (At tb d 273 K) [.iload 2, .jsr 25] ls st m := At.eq k273_24
theorem k273_25 : pg.1 273 25 = [.ireturn] := rfl
theorem a273_25 {tb : Tab} {d : Nat} {K : Out → AM → Prop} {ls st : List AV} {m : AM} : At tb d 273 K 25 ls st m = wpB tb (pg.2.1 273) (Runs tb pg d) K (At tb d 273 K) [.ireturn] ls st m := At.eq k273_25
theorem q_273 {p : Int} (hM : AskM tb ev good) (hA : AB (S 301)) (hG : good (lawD (S 301))) (hp : 0 ≤ p ∧ p < 6) (hK : ∀ T n r, isLst ev (S 301) p n → r = (if 60 < n then -1 else n) → SQ S T → K (.inl (some (vi r))) (X T m)) : Runs tb pg (d + 64) 273 [vr 300, vi p] (X S m) K := by
  refine Runs.of (al := [vr 300, vi p]) (n := 1) ⟨300, _, _, rfl, xo_300⟩ rfl rfl trivial ?_
  repeat' (first | refine hK _ _ _ e9 ?_ ?_ | simp only [w_aload, w_call, w_iload, w_istore, w_iconst, w_ifc, cI, Int.reduceToNat, w_goto, w_fall, w_ireturn, a273_0, a273_24, a273_25, R32, List.getElem?_cons_zero, List.getElem?_cons_succ, List.set_cons_zero, List.set_cons_succ, List.cons_append, List.nil_append, List.replicate_succ, List.replicate_zero, List.take_succ_cons, List.take_zero, List.drop_succ_cons, List.drop_zero, List.reverse_cons, List.reverse_nil, List.length_cons, List.length_nil, Option.toList, true_and, and_true, eq_self, ↓reduceIte, not_true_eq_false, not_false_eq_true, true_or, or_true, upS_upS, upS_at, up300, up300b, oR3, fR3, dR3, lgR3, valM3, Int.reduceEq, Nat.reduceEqDiff, and_self, and_true, and_false, false_and, if_true, if_false] | refine q_237 ?_ | refine q_238 ?_ | refine q_272 (S := asS S 415) hM hA hG hp (fun T9 n9 e9 e8 => ?_) | refine q_272 (S := asS S 415) hM hA (GR3 hG) hp (fun T9 n9 e9 e8 => ?_) | refine q_272 (S := asS S 415) hM hA (GRs hT hG) hp (fun T9 n9 e9 e8 => ?_) | with_reducible refine And.intro ?_ ?_ | with_reducible intro _)
  all_goals (try (first | omega | contradiction | ((try clear hK); (try clear hK0); (try clear hB); (try clear h9); (try clear h8); (try clear h7); (try simp only [oR3, fR3, dR3, lgR3, valM3, up300, up300b] at *); (try simp only [SR_o hT, SR_f hT, SR_d hT, SR_l hT, SR_v hT, SR_m hT, SR_g hT, oR3, fR3, dR3, lgR3, valM3, up300, up300b] at *); first | done | omega | exact SQ_back e8 (goN_AB hA _).2 | (have := e9.1; first | omega | (rw [if_pos (by omega)]) | (rw [if_neg (by omega)])))))
end Ref28
