/-! ===== THE REFERENCE: longestOf ===== -/
/-- for how many days one is whole, as a number -/
noncomputable def lstV (ev : LawD → Int → (Int → Int) → Int) (r : Int → Int) (p : Int) : Int := if fstC (fun k => ¬ wholeM (pr (goN ev 0 r k.toNat)) p (pr (goN ev 0 r k.toNat) p 0)) 61 = -1 then 61 else fstC (fun k => ¬ wholeM (pr (goN ev 0 r k.toNat)) p (pr (goN ev 0 r k.toNat) p 0)) 61
theorem lstV_of {ev : LawD → Int → (Int → Int) → Int} {r : Int → Int} {p n : Int} (h : isLst ev r p n) : n = lstV ev r p := by
  obtain ⟨f, hf⟩ : ∃ f, f = fstC (fun k => ¬ wholeM (pr (goN ev 0 r k.toNat)) p (pr (goN ev 0 r k.toNat) p 0)) 61 := ⟨_, rfl⟩
  have i := fstC_is (c := fun k => ¬ wholeM (pr (goN ev 0 r k.toNat)) p (pr (goN ev 0 r k.toNat) p 0)) 61
  unfold lstV
  rw [← hf] at i ⊢
  refine isLst_uq h ?_
  rcases i with ⟨i1, i2⟩ | ⟨i1, i2, i3, i4⟩
  · rw [if_pos i1]
    exact ⟨by decide, fun k k0 k1 => Classical.not_not.mp (i2 k k0 (by omega)), Or.inl rfl⟩
  · rw [if_neg (by omega)]
    exact ⟨by omega, fun k k0 k1 => Classical.not_not.mp (i4 k k0 k1), Or.inr i3⟩
theorem LQ_wrt {r : Int → Int} {p f n i : Int} (h0 : 0 ≤ p) (h1 : p < 6) (i1 : i ≤ 6) : LQ r (wrtP r p f n i) := fun j hj => wrtP_o h0 h1 i1 (by omega)
/-- deep is never below 0 -/
def EvD (ev : LawD → Int → (Int → Int) → Int) (good : LawD → Prop) : Prop := ∀ L fc, good L → 0 ≤ ev L 1 fc
theorem dptR_rg {ev : LawD → Int → (Int → Int) → Int} {good : LawD → Prop} (hE : EvD ev good) {r : Int → Int} {p f : Int} (hG : good (lawD r)) : 0 ≤ dptR ev r p f ∧ dptR ev r p f ≤ 9 := by
  have := hE (lawD r) (fcR r p f) hG
  unfold dptR
  split <;> omega
section Ref35
variable {tb : Tab} {d : Nat} {m : AM} {K : Out → AM → Prop} {S : Nat → Int → Int} {ev : LawD → Int → (Int → Int) → Int} {good : LawD → Prop}
theorem k274_0 : pg.1 274 0 = [.bipush (-1), .istore 2, .bipush (-1), .istore 3, .bipush 0, .istore 4, .jsr 7] := rfl
theorem a274_0 {tb : Tab} {d : Nat} {K : Out → AM → Prop} {ls st : List AV} {m : AM} : At tb d 274 K 0 ls st m = wpB tb (pg.2.1 274) (Runs tb pg d) K (At tb d 274 K) [.bipush (-1), .istore 2, .bipush (-1), .istore 3, .bipush 0, .istore 4, .jsr 7] ls st m := At.eq k274_0
theorem k274_7 : pg.1 274 7 = [.iload 4, .aload 0, .getfield 1001, .bipush 3, .iaload, .if_icmp .ge 74, .aload 0, .iload 4, .bipush 1, .invokeinterface 205 3, .ifCond .ne 31, .goto 68] := rfl
theorem a274_7 {tb : Tab} {d : Nat} {K : Out → AM → Prop} {ls st : List AV} {m : AM} : At tb d 274 K 7 ls st m = wpB tb (pg.2.1 274) (Runs tb pg d) K (At tb d 274 K) [.iload 4, .aload 0, .getfield 1001, .bipush 3, .iaload, .if_icmp .ge 74, .aload 0, .iload 4, .bipush 1, .invokeinterface 205 3, .ifCond .ne 31, .goto 68] ls st m := At.eq k274_7
theorem k274_31 : pg.1 274 31 = [.aload 0, .invokeinterface 237 1, .aload 0, .iload 1, .iload 4, .invokeinterface 254 3, .aload 0, .iload 1, .invokeinterface 272 2, .istore 5, .aload 0, .invokeinterface 238 1, .iload 5, .iload 3, .if_icmp .gt 62, .goto 68] := rfl
theorem a274_31 {tb : Tab} {d : Nat} {K : Out → AM → Prop} {ls st : List AV} {m : AM} : At tb d 274 K 31 ls st m = wpB tb (pg.2.1 274) (Runs tb pg d) K (At tb d 274 K) [.aload 0, .invokeinterface 237 1, .aload 0, .iload 1, .iload 4, .invokeinterface 254 3, .aload 0, .iload 1, .invokeinterface 272 2, .istore 5, .aload 0, .invokeinterface 238 1, .iload 5, .iload 3, .if_icmp .gt 62, .goto 68] ls st m := At.eq k274_31
theorem k274_62 : pg.1 274 62 = [.iload 5, .istore 3, .iload 4, .istore 2, .jsr 68] := rfl
theorem a274_62 {tb : Tab} {d : Nat} {K : Out → AM → Prop} {ls st : List AV} {m : AM} : At tb d 274 K 62 ls st m = wpB tb (pg.2.1 274) (Runs tb pg d) K (At tb d 274 K) [.iload 5, .istore 3, .iload 4, .istore 2, .jsr 68] ls st m := At.eq k274_62
theorem k274_68 : pg.1 274 68 = [.iinc 4 1, .goto 7] := rfl
theorem a274_68 {tb : Tab} {d : Nat} {K : Out → AM → Prop} {ls st : List AV} {m : AM} : At tb d 274 K 68 ls st m = wpB tb (pg.2.1 274) (Runs tb pg d) K (At tb d 274 K) [.iinc 4 1, .goto 7] ls st m := At.eq k274_68
theorem k274_74 : pg.1 274 74 = [.iload 2, .ireturn] := rfl
theorem a274_74 {tb : Tab} {d : Nat} {K : Out → AM → Prop} {ls st : List AV} {m : AM} : At tb d 274 K 74 ls st m = wpB tb (pg.2.1 274) (Runs tb pg d) K (At tb d 274 K) [.iload 2, .ireturn] ls st m := At.eq k274_74
theorem q_274 {p : Int} (hM : AskM tb ev good) (hD : AskD tb ev good) (hE : EvD ev good) (hA : AB (S 301)) (hG : good (lawD (S 301))) (hp : 0 ≤ p ∧ p < 6) (hK : ∀ T r, isMinP (fun f => 0 < fr (S 301) f 1) (fun f => - lstV ev (wrtR ev (S 301) p f) p) (S 301 3) r → SQ S T → K (.inl (some (vi r))) (X T m)) : Runs tb pg (d + 64) 274 [vr 300, vi p] (X S m) K := by
  have b3 := hA.2.1.1
  have pa := hA.2.2.1 p hp.1 hp.2
  have hL7 : (fun i : Int => ∀ (z5 : AV) (T : Nat → Int → Int) (a : Int) (b : Int), (SQ S T) → (isMinP (fun f => 0 < fr (S 301) f 1) (fun f => - lstV ev (wrtR ev (S 301) p f) p) i a) → ((a = -1 ∧ b = -1) ∨ (a ≠ -1 ∧ b = lstV ev (wrtR ev (S 301) p a) p ∧ 0 ≤ b ∧ b ≤ 61)) → At tb (d + 63) 274 K 7 [vr 300, vi p, vi a, vi b, vi i, z5] [] (X T m)) 0 := by
    refine loopZ (fun i : Int => ∀ (z5 : AV) (T : Nat → Int → Int) (a : Int) (b : Int), (SQ S T) → (isMinP (fun f => 0 < fr (S 301) f 1) (fun f => - lstV ev (wrtR ev (S 301) p f) p) i a) → ((a = -1 ∧ b = -1) ∨ (a ≠ -1 ∧ b = lstV ev (wrtR ev (S 301) p a) p ∧ 0 ≤ b ∧ b ≤ 61)) → At tb (d + 63) 274 K 7 [vr 300, vi p, vi a, vi b, vi i, z5] [] (X T m)) (S 301 3) (by omega) ?_ ?_
    · intro i h0 h1 h9 z5 T a b hT ha hb
      have hTm : T 301 = S 301 := SQ_m hT
      have hA2 : AB (T 301) := by rw [hTm]; exact hA
      have hB2 : BR T := AB_B hA2
      have hG2 : good (lawD (T 301)) := by rw [hTm]; exact hG
      have g1 := isMinP_rg ha
      have sn := (hA.2.2.2.1 i h0 (by omega)).2.1
      have o2 : fR T = fr (S 301) := by unfold fR fr; rw [hTm]
      have dd := dptR_rg hE (p := p) (f := i) hG
      have wA := wrtR_AB (ev := ev) (f := i) hp.1 hp.2 ⟨h0, h1⟩ dd hA
      have wL : LQ (S 301) (wrtR ev (S 301) p i) := LQ_wrt hp.1 hp.2 pa.1.2
      have wL2 := fun k => LQ_t wL (goN_AB (ev := ev) (w := 0) wA k).2
      have o3 : T 301 3 = S 301 3 := by rw [hTm]
      rw [a274_7]
      repeat' (first | refine h9 _ _ _ _ ?_ ?_ ?_ | simp only [w_iconst, w_istore, w_fall, Int.reduceToNat, w_iload, w_aload, x_g1001_300, x_iald, w_ialoads, w_ialoadw, w_ifc, cI, w_call, w_if, w_goto, w_iinc, lgB, Nat.reduceSub, w_ireturn, isA_301, isA_302, isA_303, isA_304, isA_305, isA_306, isA_307, isA_308, isA_309, isA_310, isA_311, isA_312, isA_313, isA_314, isA_315, len_301, len_302, len_303, len_304, len_305, len_306, len_307, len_308, len_309, len_310, len_311, len_312, len_313, len_314, len_315, Int.cast_ofNat_Int, a274_0, a274_31, a274_62, a274_68, a274_74, R32, List.getElem?_cons_zero, List.getElem?_cons_succ, List.set_cons_zero, List.set_cons_succ, List.cons_append, List.nil_append, List.replicate_succ, List.replicate_zero, List.take_succ_cons, List.take_zero, List.drop_succ_cons, List.drop_zero, List.reverse_cons, List.reverse_nil, List.length_cons, List.length_nil, Option.toList, true_and, and_true, eq_self, ↓reduceIte, not_true_eq_false, not_false_eq_true, true_or, or_true, upS_upS, upS_at, up300, up300b, oR3, fR3, dR3, lgR3, valM3, Int.reduceEq, Nat.reduceEqDiff, and_self, and_true, and_false, false_and, if_true, if_false] | refine q_205 hB2 ?_ ?_ (fun _ _ => ?_) | refine q_237 (S := T) ?_ | refine q_254 (S := asS T 415) hD hA2 hG2 hp (by show 0 ≤ i ∧ i < T 301 3; rw [hTm]; exact ⟨h0, h1⟩) (fun T1 (e1 : SR (sR (asS T 415) (wrtR ev (T 301) p i)) T1) => ?_) | (rw [hTm] at e1; have e0 := e1; clear e0; fail) | refine q_272 (S := T1) hM (by rw [SR_m e1, sR_r, hTm]; exact wA) (by rw [SR_m e1, sR_r, hTm, lawD_LQ wL]; exact hG) hp (fun T2 n2 e2 e3 => ?_) | refine q_238 (S := T2) ?_ | with_reducible refine And.intro ?_ ?_ | with_reducible intro _)
      all_goals (try (first | omega | contradiction | ((try clear hK); (try clear hK0); (try clear hB); (try clear h9); (try clear h8); (try clear h7); (try simp only [oR3, fR3, dR3, lgR3, valM3, up300, up300b] at *); (try simp only [SR_o hT, SR_f hT, SR_d hT, SR_l hT, SR_v hT, SR_m hT, SR_g hT, oR3, fR3, dR3, lgR3, valM3, up300, up300b] at *); first | done | omega | ((try simp only [o2] at *); first | done | omega | exact hT | (have e := SQ_back (SR_trans (SR_q e1) e3) (by rw [SR_m e1, sR_r, hTm]; exact wL2 _); exact SQ_t hT e) | (rw [SR_m e1, sR_r, hTm] at e2; have n1 := e2.1; first | omega | (have n2 := lstV_of e2; first | exact isMinP_y h0 ha (by omega) (by omega) | exact isMinP_n ha (Or.inr ⟨by omega, by omega⟩) | exact isMinP_n ha (Or.inl (by omega)) | omega)) | exact isMinP_n ha (Or.inl (by omega))))))
    · intro z5 T a b hT ha hb
      have hTm : T 301 = S 301 := SQ_m hT
      have o3 : T 301 3 = S 301 3 := by rw [hTm]
      rw [a274_7]
      repeat' (first | refine hK _ _ ha hT | simp only [w_iconst, w_istore, w_fall, Int.reduceToNat, w_iload, w_aload, x_g1001_300, x_iald, w_ialoads, w_ialoadw, w_ifc, cI, w_call, w_if, w_goto, w_iinc, lgB, Nat.reduceSub, w_ireturn, isA_301, isA_302, isA_303, isA_304, isA_305, isA_306, isA_307, isA_308, isA_309, isA_310, isA_311, isA_312, isA_313, isA_314, isA_315, len_301, len_302, len_303, len_304, len_305, len_306, len_307, len_308, len_309, len_310, len_311, len_312, len_313, len_314, len_315, Int.cast_ofNat_Int, a274_0, a274_31, a274_62, a274_68, a274_74, R32, List.getElem?_cons_zero, List.getElem?_cons_succ, List.set_cons_zero, List.set_cons_succ, List.cons_append, List.nil_append, List.replicate_succ, List.replicate_zero, List.take_succ_cons, List.take_zero, List.drop_succ_cons, List.drop_zero, List.reverse_cons, List.reverse_nil, List.length_cons, List.length_nil, Option.toList, true_and, and_true, eq_self, ↓reduceIte, not_true_eq_false, not_false_eq_true, true_or, or_true, upS_upS, upS_at, up300, up300b, oR3, fR3, dR3, lgR3, valM3, Int.reduceEq, Nat.reduceEqDiff, and_self, and_true, and_false, false_and, if_true, if_false] | refine q_205 hB2 ?_ ?_ (fun _ _ => ?_) | refine q_237 (S := T) ?_ | refine q_254 (S := asS T 415) hD hA2 hG2 hp (by show 0 ≤ i ∧ i < T 301 3; rw [hTm]; exact ⟨h0, h1⟩) (fun T1 (e1 : SR (sR (asS T 415) (wrtR ev (T 301) p i)) T1) => ?_) | (rw [hTm] at e1; have e0 := e1; clear e0; fail) | refine q_272 (S := T1) hM (by rw [SR_m e1, sR_r, hTm]; exact wA) (by rw [SR_m e1, sR_r, hTm, lawD_LQ wL]; exact hG) hp (fun T2 n2 e2 e3 => ?_) | refine q_238 (S := T2) ?_ | with_reducible refine And.intro ?_ ?_ | with_reducible intro _)
      all_goals (try (first | omega | contradiction | ((try clear hK); (try clear hK0); (try clear hB); (try clear h9); (try clear h8); (try clear h7); (try simp only [oR3, fR3, dR3, lgR3, valM3, up300, up300b] at *); (try simp only [SR_o hT, SR_f hT, SR_d hT, SR_l hT, SR_v hT, SR_m hT, SR_g hT, oR3, fR3, dR3, lgR3, valM3, up300, up300b] at *); first | done | omega | grind)))
  refine Runs.of (al := [vr 300, vi p]) (n := 4) ⟨300, _, _, rfl, xo_300⟩ rfl rfl trivial ?_
  repeat' (first | refine hL7 _ _ _ _ ?_ ?_ ?_ | simp only [w_iconst, w_istore, w_fall, Int.reduceToNat, w_iload, w_aload, x_g1001_300, x_iald, w_ialoads, w_ialoadw, w_ifc, cI, w_call, w_if, w_goto, w_iinc, lgB, Nat.reduceSub, w_ireturn, isA_301, isA_302, isA_303, isA_304, isA_305, isA_306, isA_307, isA_308, isA_309, isA_310, isA_311, isA_312, isA_313, isA_314, isA_315, len_301, len_302, len_303, len_304, len_305, len_306, len_307, len_308, len_309, len_310, len_311, len_312, len_313, len_314, len_315, Int.cast_ofNat_Int, a274_0, a274_31, a274_62, a274_68, a274_74, R32, List.getElem?_cons_zero, List.getElem?_cons_succ, List.set_cons_zero, List.set_cons_succ, List.cons_append, List.nil_append, List.replicate_succ, List.replicate_zero, List.take_succ_cons, List.take_zero, List.drop_succ_cons, List.drop_zero, List.reverse_cons, List.reverse_nil, List.length_cons, List.length_nil, Option.toList, true_and, and_true, eq_self, ↓reduceIte, not_true_eq_false, not_false_eq_true, true_or, or_true, upS_upS, upS_at, up300, up300b, oR3, fR3, dR3, lgR3, valM3, Int.reduceEq, Nat.reduceEqDiff, and_self, and_true, and_false, false_and, if_true, if_false] | with_reducible refine And.intro ?_ ?_ | with_reducible intro _)
  all_goals (try (first | omega | contradiction | ((try clear hK); (try clear hK0); (try clear hB); (try clear h9); (try clear h8); (try clear h7); (try simp only [oR3, fR3, dR3, lgR3, valM3, up300, up300b] at *); (try simp only [SR_o hT, SR_f hT, SR_d hT, SR_l hT, SR_v hT, SR_m hT, SR_g hT, oR3, fR3, dR3, lgR3, valM3, up300, up300b] at *); first | done | omega | exact isMinP_0 | exact SQ_of SR_refl | exact Or.inl ⟨rfl, rfl⟩)))
end Ref35
