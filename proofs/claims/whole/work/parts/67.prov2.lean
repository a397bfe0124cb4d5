/-! ===== THE REFERENCE: the province ===== -/
theorem wdL {t : Int → Int} {n b : Int} {w : List Int} (hb : b ≤ 1000) (hn : n ≤ 400) (y : wdP t n b w) : b + w.length ≤ 1000 := by
  have z1 := y.1
  have z2 := ltE_rg (t := t) (n := n) (a := b)
  omega
theorem q_223b {tb : Tab} {d : Nat} {m : AM} {K : Out → AM → Prop} {S : Nat → Int → Int} {b f : Int} {t : Int → Int} {n : Int} {k : Nat} (hX : tb.2.1 = strB) (hk : k < 39) (hT : TX t n S) (hb : skp t n b = b) (hb2 : 0 ≤ b ∧ b ≤ 1000) (hN : ¬ wdP t n b (strB k) → K (.inl (some (vi 0))) (X (tS S b f) m)) (hY : wdP t n b (strB k) → K (.inl (some (vi 1))) (X (tS S (b + (strB k).length) f) m)) : Runs tb pg (d + 5) 223 [vr 300, vx (2 * k + 2)] (X (tS S b f) m) K := by
  refine q_223 hX hk hT hb2 (fun c e1 e2 => ?_) (fun c e e1 e2 e3 => ?_)
  · rw [hb] at e1; subst e1; exact hN e2
  · rw [hb] at e1; subst e1 e3; exact hY e2
theorem rdN_s {α : Type} {line : α → Int → PR α} {t : Int → Int} {n a i : Int} {r : α} (h : i < 14) : rdN line t n (14 - i).toNat r a = bnd (line r (skp t n a)) fun q e => if skp t n e = n then .inr (q, skp t n e) else if t (skp t n e) = 59 then rdN line t n (14 - (i + 1)).toNat q (skp t n e + 1) else .inl (skp t n e) := by
  rw [show (14 - i).toNat = (14 - (i + 1)).toNat + 1 by omega]
  rfl
section rd
variable {α : Type} {line : α → Int → PR α} {t : Int → Int} {n a i b e : Int} {r q : α} {p : PR α}
theorem rdN_f (h : i < 14) (z : line r (skp t n a) = .inl b) (y : rdN line t n (14 - i).toNat r a = p) : p = .inl b := by rw [← y, rdN_s h, z]; rfl
theorem rdN_e (h : i < 14) (z : line r (skp t n a) = .inr (q, e)) (y : rdN line t n (14 - i).toNat r a = p) (g : skp t n e = n) : p = .inr (q, skp t n e) := by
  rw [← y, rdN_s h, z]; exact if_pos g
theorem rdN_c (h : i < 14) (z : line r (skp t n a) = .inr (q, e)) (y : rdN line t n (14 - i).toNat r a = p) (g : skp t n e ≠ n) (g2 : t (skp t n e) = 59) : rdN line t n (14 - (i + 1)).toNat q (skp t n e + 1) = p := by
  rw [← y, rdN_s h, z]; exact ((if_neg g).trans (if_pos g2)).symm
theorem rdN_w (h : i < 14) (z : line r (skp t n a) = .inr (q, e)) (y : rdN line t n (14 - i).toNat r a = p) (g : skp t n e ≠ n) (g2 : t (skp t n e) ≠ 59) : p = .inl (skp t n e) := by
  rw [← y, rdN_s h, z]; exact (if_neg g).trans (if_neg g2)
end rd
/-- a text begins -/
def bgS (S : Nat → Int → Int) : Nat → Int → Int := upS (upS (upS (upS S 300 9 (-1)) 300 10 (S 300 8)) 300 8 0) 300 13 0
section Ref40
variable {tb : Tab} {d : Nat} {m : AM} {K : Out → AM → Prop} {S : Nat → Int → Int} {a f : Int} {t : Int → Int} {n : Int} {ev : LawD → Int → (Int → Int) → Int} {good : LawD → Prop}
theorem k234_0 : pg.1 234 0 = [.aload 0, .invokeinterface 225 1, .istore 1, .aload 0, .ldc 0, .invokeinterface 223 2, .ifCond .eq 22, .aload 0, .iload 1, .invokeinterface 228 2, .goto 170] := rfl
theorem a234_0 {tb : Tab} {d : Nat} {K : Out → AM → Prop} {ls st : List AV} {m : AM} : At tb d 234 K 0 ls st m = wpB tb (pg.2.1 234) (Runs tb pg d) K (At tb d 234 K) [.aload 0, .invokeinterface 225 1, .istore 1, .aload 0, .ldc 0, .invokeinterface 223 2, .ifCond .eq 22, .aload 0, .iload 1, .invokeinterface 228 2, .goto 170] ls st m := At.eq k234_0
theorem k234_22 : pg.1 234 22 = [.aload 0, .ldc 4, .invokeinterface 223 2, .ifCond .eq 39, .aload 0, .iload 1, .invokeinterface 229 2, .goto 170] := rfl
theorem a234_22 {tb : Tab} {d : Nat} {K : Out → AM → Prop} {ls st : List AV} {m : AM} : At tb d 234 K 22 ls st m = wpB tb (pg.2.1 234) (Runs tb pg d) K (At tb d 234 K) [.aload 0, .ldc 4, .invokeinterface 223 2, .ifCond .eq 39, .aload 0, .iload 1, .invokeinterface 229 2, .goto 170] ls st m := At.eq k234_22
theorem k234_39 : pg.1 234 39 = [.aload 0, .ldc 6, .invokeinterface 223 2, .ifCond .eq 56, .aload 0, .iload 1, .invokeinterface 231 2, .goto 170] := rfl
theorem a234_39 {tb : Tab} {d : Nat} {K : Out → AM → Prop} {ls st : List AV} {m : AM} : At tb d 234 K 39 ls st m = wpB tb (pg.2.1 234) (Runs tb pg d) K (At tb d 234 K) [.aload 0, .ldc 6, .invokeinterface 223 2, .ifCond .eq 56, .aload 0, .iload 1, .invokeinterface 231 2, .goto 170] ls st m := At.eq k234_39
theorem k234_56 : pg.1 234 56 = [.aload 0, .ldc 7, .invokeinterface 223 2, .ifCond .eq 77, .aload 0, .bipush 6, .bipush 1, .bipush 9, .invokeinterface 233 4, .goto 170] := rfl
theorem a234_56 {tb : Tab} {d : Nat} {K : Out → AM → Prop} {ls st : List AV} {m : AM} : At tb d 234 K 56 ls st m = wpB tb (pg.2.1 234) (Runs tb pg d) K (At tb d 234 K) [.aload 0, .ldc 7, .invokeinterface 223 2, .ifCond .eq 77, .aload 0, .bipush 6, .bipush 1, .bipush 9, .invokeinterface 233 4, .goto 170] ls st m := At.eq k234_56
theorem k234_77 : pg.1 234 77 = [.aload 0, .ldc 8, .invokeinterface 223 2, .ifCond .eq 98, .aload 0, .bipush 7, .bipush 0, .bipush 100, .invokeinterface 233 4, .goto 170] := rfl
theorem a234_77 {tb : Tab} {d : Nat} {K : Out → AM → Prop} {ls st : List AV} {m : AM} : At tb d 234 K 77 ls st m = wpB tb (pg.2.1 234) (Runs tb pg d) K (At tb d 234 K) [.aload 0, .ldc 8, .invokeinterface 223 2, .ifCond .eq 98, .aload 0, .bipush 7, .bipush 0, .bipush 100, .invokeinterface 233 4, .goto 170] ls st m := At.eq k234_77
theorem k234_98 : pg.1 234 98 = [.aload 0, .ldc 9, .invokeinterface 223 2, .ifCond .eq 119, .aload 0, .bipush 8, .bipush 0, .bipush 100, .invokeinterface 233 4, .goto 170] := rfl
theorem a234_98 {tb : Tab} {d : Nat} {K : Out → AM → Prop} {ls st : List AV} {m : AM} : At tb d 234 K 98 ls st m = wpB tb (pg.2.1 234) (Runs tb pg d) K (At tb d 234 K) [.aload 0, .ldc 9, .invokeinterface 223 2, .ifCond .eq 119, .aload 0, .bipush 8, .bipush 0, .bipush 100, .invokeinterface 233 4, .goto 170] ls st m := At.eq k234_98
theorem k234_119 : pg.1 234 119 = [.aload 0, .ldc 10, .invokeinterface 223 2, .ifCond .eq 140, .aload 0, .bipush 9, .bipush 0, .bipush 100, .invokeinterface 233 4, .goto 170] := rfl
theorem a234_119 {tb : Tab} {d : Nat} {K : Out → AM → Prop} {ls st : List AV} {m : AM} : At tb d 234 K 119 ls st m = wpB tb (pg.2.1 234) (Runs tb pg d) K (At tb d 234 K) [.aload 0, .ldc 10, .invokeinterface 223 2, .ifCond .eq 140, .aload 0, .bipush 9, .bipush 0, .bipush 100, .invokeinterface 233 4, .goto 170] ls st m := At.eq k234_119
theorem k234_140 : pg.1 234 140 = [.aload 0, .ldc 11, .invokeinterface 223 2, .ifCond .eq 162, .aload 0, .bipush 10, .bipush 0, .bipush 999, .invokeinterface 233 4, .goto 170] := rfl
theorem a234_140 {tb : Tab} {d : Nat} {K : Out → AM → Prop} {ls st : List AV} {m : AM} : At tb d 234 K 140 ls st m = wpB tb (pg.2.1 234) (Runs tb pg d) K (At tb d 234 K) [.aload 0, .ldc 11, .invokeinterface 223 2, .ifCond .eq 162, .aload 0, .bipush 10, .bipush 0, .bipush 999, .invokeinterface 233 4, .goto 170] ls st m := At.eq k234_140
theorem k234_162 : pg.1 234 162 = [.aload 0, .aload 0, .getfield 1011, .invokeinterface 224 2, .jsr 170] := rfl
theorem a234_162 {tb : Tab} {d : Nat} {K : Out → AM → Prop} {ls st : List AV} {m : AM} : At tb d 234 K 162 ls st m = wpB tb (pg.2.1 234) (Runs tb pg d) K (At tb d 234 K) [.aload 0, .aload 0, .getfield 1011, .invokeinterface 224 2, .jsr 170] ls st m := At.eq k234_162
theorem k234_170 : pg.1 234 170 = [.return_] := rfl
theorem a234_170 {tb : Tab} {d : Nat} {K : Out → AM → Prop} {ls st : List AV} {m : AM} : At tb d 234 K 170 ls st m = wpB tb (pg.2.1 234) (Runs tb pg d) K (At tb d 234 K) [.return_] ls st m := At.eq k234_170
theorem q_234 (hX : tb.2.1 = strB) (hP : TP t n S) (hD : AskD tb ev good) (hA : AB (S 301)) (hG : good (lawD (S 301))) (ha : 0 ≤ a ∧ a ≤ 1000) (hN : ∀ r e b T, prvP ev t n (S 301) (skp t n a) = .inl b → LQ (S 301) r → 0 ≤ e → e ≤ 1000 → 0 ≤ b → b ≤ 1000 → RT S r e b T → K (.inl none) (X T m)) (hK : ∀ r e T, prvP ev t n (S 301) (skp t n a) = .inr (r, e) → RT S r e (-1) T → K (.inl none) (X T m)) : Runs tb pg (d + 64) 234 [vr 300] (X (tS S a (-1)) m) K := by
  refine Runs.of (al := [vr 300]) (n := 1) ⟨300, _, _, rfl, xo_300⟩ rfl rfl trivial ?_
  have hT := TP_X hP
  have hn := hT.1
  have hn2 := hT.2.1
  have g0 := skp_ge (t := t) (n := n) (a := a)
  have g1 := skp_b (t := t) (n := n) (a := a) ha.2 (by omega)
  obtain ⟨b, hb⟩ : ∃ b, b = skp t n a := ⟨_, rfl⟩
  have hbb : skp t n b = b := by rw [hb, skp_skp]
  rw [← hb] at g0 g1 hK hN
  have hb2 : 0 ≤ b ∧ b ≤ 1000 := by omega
  have hb3 : b ≤ 1000 := hb2.2
  have hn3 : n ≤ 400 := hn2.2
  obtain ⟨P, hp⟩ : ∃ P, prvP ev t n (S 301) b = P := ⟨_, rfl⟩
  rw [hp] at hK hN
  unfold prvP at hp
  have k0 : 0 < 39 := by decide
  have k4 : 4 < 39 := by decide
  have k6 : 6 < 39 := by decide
  have k7 : 7 < 39 := by decide
  have k8 : 8 < 39 := by decide
  have k9 : 9 < 39 := by decide
  have k10 : 10 < 39 := by decide
  have k11 : 11 < 39 := by decide
  repeat' (first | omega | (refine hK r7 e7 _ (hp.symm.trans z1) RT_0) | (refine hN (S 301) _ _ _ (hp.symm.trans z1) LQ_r z2 z3 z4 z5 RT_1) | (refine hN r7 _ _ _ (hp.symm.trans z1) zq z2 z3 z4 z5 zr) | (refine hK r7 e7 _ (hp.symm.trans z1) zr) | (refine hN (S 301) _ _ _ hp.symm LQ_r ?_ ?_ ?_ ?_ RT_1) | simp only [w_aload, w_call, w_istore, w_ldc, w_if, cI, Int.reduceToNat, w_iload, w_goto, w_iconst, x_g1011_300, w_fall, w_return, a234_0, a234_22, a234_39, a234_56, a234_77, a234_98, a234_119, a234_140, a234_162, a234_170, R32, List.getElem?_cons_zero, List.getElem?_cons_succ, List.set_cons_zero, List.set_cons_succ, List.cons_append, List.nil_append, List.replicate_succ, List.replicate_zero, List.take_succ_cons, List.take_zero, List.drop_succ_cons, List.drop_zero, List.reverse_cons, List.reverse_nil, List.length_cons, List.length_nil, Option.toList, true_and, and_true, eq_self, ↓reduceIte, not_true_eq_false, not_false_eq_true, true_or, or_true, tS_11, tS_12, tS_8, tS_9, tS_10, tS_13, tS_15, tS_16, tS_17, tS_18, tS_19, tS_301, tS_303, tS_305, tS_306, tS_u11, tS_u12, tS_tS, tS_u1, sR_sR, sR_r, tS_q] | (rw [wdI_n n0] at hp; clear n0) | (have yl := wdL hb3 hn3 y0; rw [wdI_y y0] at hp; clear y0) | (refine q_225 hT ha (fun b9 e9 => ?_); rw [← hb] at e9; have e8 := e9.symm; clear e9; subst e8) | with_reducible refine q_224n ?_ | with_reducible refine q_223b (k := 0) hX k0 hT hbb hb2 (fun n0 => ?_) (fun y0 => ?_) | with_reducible refine q_223b (k := 4) hX k4 hT hbb hb2 (fun n0 => ?_) (fun y0 => ?_) | with_reducible refine q_223b (k := 6) hX k6 hT hbb hb2 (fun n0 => ?_) (fun y0 => ?_) | with_reducible refine q_223b (k := 7) hX k7 hT hbb hb2 (fun n0 => ?_) (fun y0 => ?_) | with_reducible refine q_223b (k := 8) hX k8 hT hbb hb2 (fun n0 => ?_) (fun y0 => ?_) | with_reducible refine q_223b (k := 9) hX k9 hT hbb hb2 (fun n0 => ?_) (fun y0 => ?_) | with_reducible refine q_223b (k := 10) hX k10 hT hbb hb2 (fun n0 => ?_) (fun y0 => ?_) | with_reducible refine q_223b (k := 11) hX k11 hT hbb hb2 (fun n0 => ?_) (fun y0 => ?_) | with_reducible refine q_228 hX hP hA ?_ ?_ (fun e7 b7 z1 z2 z3 z4 z5 => ?_) (fun r7 e7 z1 => ?_) | with_reducible refine q_229 hX hP hD hA hG ?_ ?_ (fun r7 e7 b7 T7 z1 zq z2 z3 z4 z5 zr => ?_) (fun r7 e7 T7 z1 zr => ?_) | with_reducible refine q_231 hP hA ?_ ?_ (fun e7 b7 z1 z2 z3 z4 z5 => ?_) (fun r7 e7 z1 => ?_) | with_reducible refine q_233 hP ?_ ?_ ?_ (fun e7 b7 z1 z2 z3 z4 z5 => ?_) (fun r7 e7 z1 => ?_) | with_reducible refine And.intro ?_ ?_ | with_reducible intro _)
  all_goals (try (first | omega | contradiction | (unfold R32; omega) | (constructor <;> unfold R32 <;> omega)))
end Ref40
