/-! ===== THE REFERENCE: a law's conditions, nested ===== -/
theorem q_223c {tb : Tab} {d : Nat} {m : AM} {K : Out → AM → Prop} {S : Nat → Int → Int} {a f : Int} {t : Int → Int} {n : Int} {k : Nat} (hX : tb.2.1 = strB) (hk : k < 39) (hT : TX t n S) (ha : 0 ≤ a ∧ a ≤ 1000) (hN : ¬ wdP t n (skp t n a) (strB k) → K (.inl (some (vi 0))) (X (tS S (skp t n a) f) m)) (hY : wdP t n (skp t n a) (strB k) → K (.inl (some (vi 1))) (X (tS S (skp t n a + (strB k).length) f) m)) : Runs tb pg (d + 5) 223 [vr 300, vx (2 * k + 2)] (X (tS S a f) m) K := by
  refine q_223 hX hk hT ha (fun c e1 e2 => ?_) (fun c e e1 e2 e3 => ?_)
  · subst e1; exact hN e2
  · subst e1 e3; exact hY e2
def AtC (tb : Tab) (k : Nat) : Prop := ∀ (d : Nat) (m : AM) (K : Out → AM → Prop) (S : Nat → Int → Int) (a : Int) (t : Int → Int) (n : Int), 3 * k ≤ d → TX t n S → 0 ≤ a ∧ a ≤ n → S 300 13 = 6 - k → okR (atmP t n k a) S n a 1 k m K → Runs tb pg (d + 9) 243 [vr 300] (X (tS S a (-1)) m) K
def EvC (tb : Tab) (k : Nat) : Prop := ∀ (d : Nat) (m : AM) (K : Out → AM → Prop) (S : Nat → Int → Int) (a : Int) (t : Int → Int) (n : Int), 3 * k ≤ d → TX t n S → 0 ≤ a ∧ a ≤ n → S 300 13 = 6 - k → okR (evyP (atmP t n k) t n a) S n a 1 k m K → Runs tb pg (d + 10) 244 [vr 300] (X (tS S a (-1)) m) K
def SoC (tb : Tab) (k : Nat) : Prop := ∀ (d : Nat) (m : AM) (K : Out → AM → Prop) (S : Nat → Int → Int) (a : Int) (t : Int → Int) (n : Int), 3 * k ≤ d → TX t n S → 0 ≤ a ∧ a ≤ n → S 300 13 = 6 - k → okR (somP (atmP t n k) t n a) S n a 1 k m K → Runs tb pg (d + 11) 245 [vr 300] (X (tS S a (-1)) m) K
theorem evyP_0 {A : Int → PR LCs} {t : Int → Int} {n a b : Int} (h : A a = .inl b) : evyP A t n a = .inl b := by unfold evyP; rw [h]; rfl
theorem evyP_1 {A : Int → PR LCs} {t : Int → Int} {n a e : Int} {c : LCs} (h : A a = .inr (c, e)) : evyP A t n a = morP (qWd t n 25) A 2001 t n 401 c e := by unfold evyP; rw [h]; rfl
theorem somP_0 {A : Int → PR LCs} {t : Int → Int} {n a b : Int} (h : evyP A t n a = .inl b) : somP A t n a = .inl b := by unfold somP; rw [h]; rfl
theorem somP_1 {A : Int → PR LCs} {t : Int → Int} {n a e : Int} {c : LCs} (h : evyP A t n a = .inr (c, e)) : somP A t n a = morP (qWd t n 26) (evyP A t n) 2002 t n 401 c e := by unfold somP; rw [h]; rfl
theorem tS_u13 {S : Nat → Int → Int} {a f v : Int} : upS (tS S a f) 300 13 v = tS (upS S 300 13 v) a f := tS_uo (by decide) (by decide)
theorem q_222b {tb : Tab} {d : Nat} {m : AM} {K : Out → AM → Prop} {S : Nat → Int → Int} {b f : Int} {t : Int → Int} {n c : Int} (hT : TX t n S) (hb : skp t n b = b) (ha : 0 ≤ b ∧ b ≤ 1000) (hc : R32 c) (hY : sgP t n b c → K (.inl (some (vi 1))) (X (tS S b f) m)) (hN : ¬ sgP t n b c → K (.inl (some (vi 0))) (X (tS S b f) m)) : Runs tb pg (d + 3) 222 [vr 300, vi c] (X (tS S b f) m) K := by
  refine q_222s hT ha hc (fun y => ?_) (fun y => ?_)
  · rw [hb] at y ⊢; exact hY y
  · rw [hb] at y ⊢; exact hN y
section Ref42
variable {tb : Tab} {d : Nat} {m : AM} {K : Out → AM → Prop} {S : Nat → Int → Int} {a f : Int} {t : Int → Int} {n : Int}
theorem k244_0 : pg.1 244 0 = [.aload 0, .invokeinterface 243 1, .istore 1, .jsr 5] := rfl
theorem a244_0 {tb : Tab} {d : Nat} {K : Out → AM → Prop} {ls st : List AV} {m : AM} : At tb d 244 K 0 ls st m = wpB tb (pg.2.1 244) (Runs tb pg d) K (At tb d 244 K) [.aload 0, .invokeinterface 243 1, .istore 1, .jsr 5] ls st m := At.eq k244_0
theorem k244_5 : pg.1 244 5 = [.aload 0, .getfield 1012, .bipush (-1), .if_icmp .ne 45, .aload 0, .ldc 25, .invokeinterface 223 2, .ifCond .eq 45, .aload 0, .invokeinterface 243 1, .istore 2, .iload 1, .ifCond .eq 40, .iload 2, .ifCond .eq 40, .bipush 1, .goto 41] := rfl
theorem a244_5 {tb : Tab} {d : Nat} {K : Out → AM → Prop} {ls st : List AV} {m : AM} : At tb d 244 K 5 ls st m = wpB tb (pg.2.1 244) (Runs tb pg d) K (At tb d 244 K) [.aload 0, .getfield 1012, .bipush (-1), .if_icmp .ne 45, .aload 0, .ldc 25, .invokeinterface 223 2, .ifCond .eq 45, .aload 0, .invokeinterface 243 1, .istore 2, .iload 1, .ifCond .eq 40, .iload 2, .ifCond .eq 40, .bipush 1, .goto 41] ls st m := At.eq k244_5
theorem k244_40 : pg.1 244 40 = [.bipush 0, .jsr 41] := rfl
theorem a244_40 {tb : Tab} {d : Nat} {K : Out → AM → Prop} {ls st : List AV} {m : AM} : At tb d 244 K 40 ls st m = wpB tb (pg.2.1 244) (Runs tb pg d) K (At tb d 244 K) [.bipush 0, .jsr 41] ls st m := At.eq k244_40
theorem k244_41 : pg.1 244 41 = [.istore 1, .goto 5] := rfl
theorem a244_41 {tb : Tab} {d : Nat} {K : Out → AM → Prop} {ls st : List AV} {m : AM} : At tb d 244 K 41 ls st m = wpB tb (pg.2.1 244) (Runs tb pg d) K (At tb d 244 K) [.istore 1, .goto 5] ls st m := At.eq k244_41
theorem k244_45 : pg.1 244 45 = [.iload 1, .freturn] := rfl
theorem a244_45 {tb : Tab} {d : Nat} {K : Out → AM → Prop} {ls st : List AV} {m : AM} : At tb d 244 K 45 ls st m = wpB tb (pg.2.1 244) (Runs tb pg d) K (At tb d 244 K) [.iload 1, .freturn] ls st m := At.eq k244_45
theorem q_244 {k : Nat} (hX : tb.2.1 = strB) (hd : 3 * k ≤ d) (hAt : AtC tb k) (hT : TX t n S) (ha : 0 ≤ a ∧ a ≤ n) (h13 : S 300 13 = 6 - k) (hK : okR (evyP (atmP t n k) t n a) S n a 1 k m K) : Runs tb pg (d + 10) 244 [vr 300] (X (tS S a (-1)) m) K := by
  have hn2 := hT.2.1
  unfold AtC at hAt
  obtain ⟨hK, hN⟩ := hK
  obtain ⟨P, hp⟩ : ∃ P, evyP (atmP t n k) t n a = P := ⟨_, rfl⟩
  rw [hp] at hK hN
  have k25 : 25 < 39 := by decide
  have hE : ∀ (e b v : Int) (z : AV), 0 ≤ b → b ≤ 1000 → (v = 0 ∨ v = 1) → K (.inl (some (vi v))) (X (tS S e b) m) → At tb (d + 9) 244 K 5 [vr 300, vi v, z] [] (X (tS S e b) m) := by
    intro e b v z b0 b1 hv hk
    rw [a244_5]
    repeat' (first | omega | with_reducible refine hk | simp only [w_aload, w_call, w_istore, w_fall, Int.reduceToNat, x_g1012_300, w_iconst, w_ifc, cI, w_ldc, w_if, w_iload, w_goto, w_zreturn, a244_0, a244_40, a244_41, a244_45, R32, List.getElem?_cons_zero, List.getElem?_cons_succ, List.set_cons_zero, List.set_cons_succ, List.cons_append, List.nil_append, List.replicate_succ, List.replicate_zero, List.take_succ_cons, List.take_zero, List.drop_succ_cons, List.drop_zero, List.reverse_cons, List.reverse_nil, List.length_cons, List.length_nil, Option.toList, true_and, and_true, eq_self, ↓reduceIte, not_true_eq_false, not_false_eq_true, true_or, or_true, tS_11, tS_12, tS_8, tS_9, tS_10, tS_13, tS_15, tS_16, tS_17, tS_18, tS_19, tS_301, tS_303, tS_305, tS_306, tS_u11, tS_u12, tS_u13, tS_tS, skp_skp] | with_reducible refine And.intro ?_ ?_ | with_reducible intro _)
    all_goals (try (first | omega | (exfalso; assumption) | skip))
  have hL : ∀ c e v z, (atmP t n k) a = .inr (c, e) → isV (fcS S) c v → -1 ≤ v → v ≤ 1 → 0 ≤ v → a < e → e ≤ n → At tb (d + 9) 244 K 5 [vr 300, vi v, z] [] (X (tS S e (-1)) m) := by
    intro c0 e0 v0 z0 y1 y2 y3 y4 y5 y6 y7
    have hP0 : morP (qWd t n 25) (atmP t n k) 2001 t n 401 c0 e0 = P := by
      rw [← hp, evyP_1 y1]
    have hL5 : (fun i : Int => ∀ (z : AV) (L : List Int) (c : Int) (v : Int), (a + i < c ∧ c ≤ n) → (0 ≤ v ∧ v ≤ 1) → (isV (fcS S) L v) → (morP (qWd t n 25) (atmP t n k) 2001 t n (401 - i).toNat L c = P) → At tb (d + 9) 244 K 5 [vr 300, vi v, z] [] (X (tS S c (-1)) m)) 0 := by
      refine loopZ (fun i : Int => ∀ (z : AV) (L : List Int) (c : Int) (v : Int), (a + i < c ∧ c ≤ n) → (0 ≤ v ∧ v ≤ 1) → (isV (fcS S) L v) → (morP (qWd t n 25) (atmP t n k) 2001 t n (401 - i).toNat L c = P) → At tb (d + 9) 244 K 5 [vr 300, vi v, z] [] (X (tS S c (-1)) m)) (401) (by omega) ?_ ?_
      · intro i h0 h1 h9 z L c v hc hv hv hm
        have g1 := skp_n (t := t) (n := n) (a := c) (by omega)
        have c1 : 0 ≤ c ∧ c ≤ 1000 := by omega
        rw [a244_5]
        repeat' (first | omega | with_reducible refine h9 _ (L ++ c9 ++ [2001]) _ _ ?_ ?_ ?_ ?_ | with_reducible refine hE _ _ _ _ ?_ ?_ ?_ ?_ | (refine hK _ _ _ (hm.symm.trans (morP_e (qWd_n ns) _)) hv ?_ ?_ ?_ ?_ ?_) | (refine hN _ _ _ (hm.symm.trans (morP_b h1 (qWd_y ys) n1)) ?_ ?_ ?_ ?_ ?_ ?_ ?_) | simp only [w_aload, w_call, w_istore, w_fall, Int.reduceToNat, x_g1012_300, w_iconst, w_ifc, cI, w_ldc, w_if, w_iload, w_goto, w_zreturn, a244_0, a244_40, a244_41, a244_45, R32, List.getElem?_cons_zero, List.getElem?_cons_succ, List.set_cons_zero, List.set_cons_succ, List.cons_append, List.nil_append, List.replicate_succ, List.replicate_zero, List.take_succ_cons, List.take_zero, List.drop_succ_cons, List.drop_zero, List.reverse_cons, List.reverse_nil, List.length_cons, List.length_nil, Option.toList, true_and, and_true, eq_self, ↓reduceIte, not_true_eq_false, not_false_eq_true, true_or, or_true, tS_11, tS_12, tS_8, tS_9, tS_10, tS_13, tS_15, tS_16, tS_17, tS_18, tS_19, tS_301, tS_303, tS_305, tS_306, tS_u11, tS_u12, tS_u13, tS_tS, skp_skp] | with_reducible refine q_223c (k := 25) hX k25 hT c1 (fun ns => ?_) (fun ys => ?_) | (have yl := wdG g1.2 ys (strB_l _ (by decide)); clear ys; have ys := yl; have q0 := ys; fail) | (have yl := wdG g1.2 ys (strB_l _ (by decide)); with_reducible refine hAt _ _ _ _ _ _ _ hd hT ?_ h13 (okR_i (fun c9 e9 v9 y1 y2 y3 y4 y5 y6 y7 => ?_) (fun e9 b9 v9 n1 n2 n3 n4 n5 n6 n7 => ?_))) | with_reducible refine And.intro ?_ ?_ | with_reducible intro _)
        all_goals (try (first | omega | contradiction | (have w := isV_and hv y2; first | (rw [if_pos (by omega)] at w; exact w) | (rw [if_neg (by omega)] at w; exact w)) | (rw [← morP_c h1 (qWd_y ys) y1]; exact hm) | (have w := y5 rfl; omega) | (have w := n4 rfl; omega)))
      · intro z L c v hc hv hv hm
        exfalso; omega
    exact hL5 z0 c0 e0 v0 (by omega) (by omega) y2 hP0
  refine Runs.of (al := [vr 300]) (n := 2) ⟨300, _, _, rfl, xo_300⟩ rfl rfl trivial ?_
  repeat' (first | omega | (refine hL _ _ _ _ y1 y2 ?_ ?_ (y5 rfl) ?_ ?_) | (refine hE _ _ _ _ ?_ ?_ (by have w := n4 rfl; omega) (hN _ _ _ (by rw [← hp]; exact evyP_0 n1) ?_ ?_ n4 ?_ ?_ ?_ ?_)) | simp only [w_aload, w_call, w_istore, w_fall, Int.reduceToNat, x_g1012_300, w_iconst, w_ifc, cI, w_ldc, w_if, w_iload, w_goto, w_zreturn, a244_0, a244_40, a244_41, a244_45, R32, List.getElem?_cons_zero, List.getElem?_cons_succ, List.set_cons_zero, List.set_cons_succ, List.cons_append, List.nil_append, List.replicate_succ, List.replicate_zero, List.take_succ_cons, List.take_zero, List.drop_succ_cons, List.drop_zero, List.reverse_cons, List.reverse_nil, List.length_cons, List.length_nil, Option.toList, true_and, and_true, eq_self, ↓reduceIte, not_true_eq_false, not_false_eq_true, true_or, or_true, tS_11, tS_12, tS_8, tS_9, tS_10, tS_13, tS_15, tS_16, tS_17, tS_18, tS_19, tS_301, tS_303, tS_305, tS_306, tS_u11, tS_u12, tS_u13, tS_tS, skp_skp] | with_reducible refine hAt _ _ _ _ _ _ _ hd hT ?_ h13 (okR_i (fun c9 e9 v9 y1 y2 y3 y4 y5 y6 y7 => ?_) (fun e9 b9 v9 n1 n2 n3 n4 n5 n6 n7 => ?_)) | with_reducible refine And.intro ?_ ?_ | with_reducible intro _)
  all_goals (try (first | omega | (exfalso; assumption) | skip))
theorem evC_of {k : Nat} (hX : tb.2.1 = strB) (h : AtC tb k) : EvC tb k := fun d m K S a t n hd hT ha h13 hK => q_244 hX hd h hT ha h13 hK
theorem k245_0 : pg.1 245 0 = [.aload 0, .invokeinterface 244 1, .istore 1, .jsr 5] := rfl
theorem a245_0 {tb : Tab} {d : Nat} {K : Out → AM → Prop} {ls st : List AV} {m : AM} : At tb d 245 K 0 ls st m = wpB tb (pg.2.1 245) (Runs tb pg d) K (At tb d 245 K) [.aload 0, .invokeinterface 244 1, .istore 1, .jsr 5] ls st m := At.eq k245_0
theorem k245_5 : pg.1 245 5 = [.aload 0, .getfield 1012, .bipush (-1), .if_icmp .ne 45, .aload 0, .ldc 26, .invokeinterface 223 2, .ifCond .eq 45, .aload 0, .invokeinterface 244 1, .istore 2, .iload 1, .ifCond .ne 36, .iload 2, .ifCond .eq 40, .jsr 36] := rfl
theorem a245_5 {tb : Tab} {d : Nat} {K : Out → AM → Prop} {ls st : List AV} {m : AM} : At tb d 245 K 5 ls st m = wpB tb (pg.2.1 245) (Runs tb pg d) K (At tb d 245 K) [.aload 0, .getfield 1012, .bipush (-1), .if_icmp .ne 45, .aload 0, .ldc 26, .invokeinterface 223 2, .ifCond .eq 45, .aload 0, .invokeinterface 244 1, .istore 2, .iload 1, .ifCond .ne 36, .iload 2, .ifCond .eq 40, .jsr 36] ls st m := At.eq k245_5
theorem k245_36 : pg.1 245 36 = [.bipush 1, .goto 41] := rfl
theorem a245_36 {tb : Tab} {d : Nat} {K : Out → AM → Prop} {ls st : List AV} {m : AM} : At tb d 245 K 36 ls st m = wpB tb (pg.2.1 245) (Runs tb pg d) K (At tb d 245 K) [.bipush 1, .goto 41] ls st m := At.eq k245_36
theorem k245_40 : pg.1 245 40 = [.bipush 0, .jsr 41] := rfl
theorem a245_40 {tb : Tab} {d : Nat} {K : Out → AM → Prop} {ls st : List AV} {m : AM} : At tb d 245 K 40 ls st m = wpB tb (pg.2.1 245) (Runs tb pg d) K (At tb d 245 K) [.bipush 0, .jsr 41] ls st m := At.eq k245_40
theorem k245_41 : pg.1 245 41 = [.istore 1, .goto 5] := rfl
theorem a245_41 {tb : Tab} {d : Nat} {K : Out → AM → Prop} {ls st : List AV} {m : AM} : At tb d 245 K 41 ls st m = wpB tb (pg.2.1 245) (Runs tb pg d) K (At tb d 245 K) [.istore 1, .goto 5] ls st m := At.eq k245_41
theorem k245_45 : pg.1 245 45 = [.iload 1, .freturn] := rfl
theorem a245_45 {tb : Tab} {d : Nat} {K : Out → AM → Prop} {ls st : List AV} {m : AM} : At tb d 245 K 45 ls st m = wpB tb (pg.2.1 245) (Runs tb pg d) K (At tb d 245 K) [.iload 1, .freturn] ls st m := At.eq k245_45
theorem q_245 {k : Nat} (hX : tb.2.1 = strB) (hd : 3 * k ≤ d) (hEv : EvC tb k) (hT : TX t n S) (ha : 0 ≤ a ∧ a ≤ n) (h13 : S 300 13 = 6 - k) (hK : okR (somP (atmP t n k) t n a) S n a 1 k m K) : Runs tb pg (d + 11) 245 [vr 300] (X (tS S a (-1)) m) K := by
  have hn2 := hT.2.1
  unfold EvC at hEv
  obtain ⟨hK, hN⟩ := hK
  obtain ⟨P, hp⟩ : ∃ P, somP (atmP t n k) t n a = P := ⟨_, rfl⟩
  rw [hp] at hK hN
  have k26 : 26 < 39 := by decide
  have hE : ∀ (e b v : Int) (z : AV), 0 ≤ b → b ≤ 1000 → (v = 0 ∨ v = 1) → K (.inl (some (vi v))) (X (tS S e b) m) → At tb (d + 10) 245 K 5 [vr 300, vi v, z] [] (X (tS S e b) m) := by
    intro e b v z b0 b1 hv hk
    rw [a245_5]
    repeat' (first | omega | with_reducible refine hk | simp only [w_aload, w_call, w_istore, w_fall, Int.reduceToNat, x_g1012_300, w_iconst, w_ifc, cI, w_ldc, w_if, w_iload, w_goto, w_zreturn, a245_0, a245_36, a245_40, a245_41, a245_45, R32, List.getElem?_cons_zero, List.getElem?_cons_succ, List.set_cons_zero, List.set_cons_succ, List.cons_append, List.nil_append, List.replicate_succ, List.replicate_zero, List.take_succ_cons, List.take_zero, List.drop_succ_cons, List.drop_zero, List.reverse_cons, List.reverse_nil, List.length_cons, List.length_nil, Option.toList, true_and, and_true, eq_self, ↓reduceIte, not_true_eq_false, not_false_eq_true, true_or, or_true, tS_11, tS_12, tS_8, tS_9, tS_10, tS_13, tS_15, tS_16, tS_17, tS_18, tS_19, tS_301, tS_303, tS_305, tS_306, tS_u11, tS_u12, tS_u13, tS_tS, skp_skp] | with_reducible refine And.intro ?_ ?_ | with_reducible intro _)
    all_goals (try (first | omega | (exfalso; assumption) | skip))
  have hL : ∀ c e v z, (evyP (atmP t n k) t n) a = .inr (c, e) → isV (fcS S) c v → -1 ≤ v → v ≤ 1 → 0 ≤ v → a < e → e ≤ n → At tb (d + 10) 245 K 5 [vr 300, vi v, z] [] (X (tS S e (-1)) m) := by
    intro c0 e0 v0 z0 y1 y2 y3 y4 y5 y6 y7
    have hP0 : morP (qWd t n 26) (evyP (atmP t n k) t n) 2002 t n 401 c0 e0 = P := by
      rw [← hp, somP_1 y1]
    have hL5 : (fun i : Int => ∀ (z : AV) (L : List Int) (c : Int) (v : Int), (a + i < c ∧ c ≤ n) → (0 ≤ v ∧ v ≤ 1) → (isV (fcS S) L v) → (morP (qWd t n 26) (evyP (atmP t n k) t n) 2002 t n (401 - i).toNat L c = P) → At tb (d + 10) 245 K 5 [vr 300, vi v, z] [] (X (tS S c (-1)) m)) 0 := by
      refine loopZ (fun i : Int => ∀ (z : AV) (L : List Int) (c : Int) (v : Int), (a + i < c ∧ c ≤ n) → (0 ≤ v ∧ v ≤ 1) → (isV (fcS S) L v) → (morP (qWd t n 26) (evyP (atmP t n k) t n) 2002 t n (401 - i).toNat L c = P) → At tb (d + 10) 245 K 5 [vr 300, vi v, z] [] (X (tS S c (-1)) m)) (401) (by omega) ?_ ?_
      · intro i h0 h1 h9 z L c v hc hv hv hm
        have g1 := skp_n (t := t) (n := n) (a := c) (by omega)
        have c1 : 0 ≤ c ∧ c ≤ 1000 := by omega
        rw [a245_5]
        repeat' (first | omega | with_reducible refine h9 _ (L ++ c9 ++ [2002]) _ _ ?_ ?_ ?_ ?_ | with_reducible refine hE _ _ _ _ ?_ ?_ ?_ ?_ | (refine hK _ _ _ (hm.symm.trans (morP_e (qWd_n ns) _)) hv ?_ ?_ ?_ ?_ ?_) | (refine hN _ _ _ (hm.symm.trans (morP_b h1 (qWd_y ys) n1)) ?_ ?_ ?_ ?_ ?_ ?_ ?_) | simp only [w_aload, w_call, w_istore, w_fall, Int.reduceToNat, x_g1012_300, w_iconst, w_ifc, cI, w_ldc, w_if, w_iload, w_goto, w_zreturn, a245_0, a245_36, a245_40, a245_41, a245_45, R32, List.getElem?_cons_zero, List.getElem?_cons_succ, List.set_cons_zero, List.set_cons_succ, List.cons_append, List.nil_append, List.replicate_succ, List.replicate_zero, List.take_succ_cons, List.take_zero, List.drop_succ_cons, List.drop_zero, List.reverse_cons, List.reverse_nil, List.length_cons, List.length_nil, Option.toList, true_and, and_true, eq_self, ↓reduceIte, not_true_eq_false, not_false_eq_true, true_or, or_true, tS_11, tS_12, tS_8, tS_9, tS_10, tS_13, tS_15, tS_16, tS_17, tS_18, tS_19, tS_301, tS_303, tS_305, tS_306, tS_u11, tS_u12, tS_u13, tS_tS, skp_skp] | with_reducible refine q_223c (k := 26) hX k26 hT c1 (fun ns => ?_) (fun ys => ?_) | (have yl := wdG g1.2 ys (strB_l _ (by decide)); clear ys; have ys := yl; have q0 := ys; fail) | (have yl := wdG g1.2 ys (strB_l _ (by decide)); with_reducible refine hEv _ _ _ _ _ _ _ hd hT ?_ h13 (okR_i (fun c9 e9 v9 y1 y2 y3 y4 y5 y6 y7 => ?_) (fun e9 b9 v9 n1 n2 n3 n4 n5 n6 n7 => ?_))) | with_reducible refine And.intro ?_ ?_ | with_reducible intro _)
        all_goals (try (first | omega | contradiction | (have w := isV_or hv y2; first | (rw [if_pos (by omega)] at w; exact w) | (rw [if_neg (by omega)] at w; exact w)) | (rw [← morP_c h1 (qWd_y ys) y1]; exact hm) | (have w := y5 rfl; omega) | (have w := n4 rfl; omega)))
      · intro z L c v hc hv hv hm
        exfalso; omega
    exact hL5 z0 c0 e0 v0 (by omega) (by omega) y2 hP0
  refine Runs.of (al := [vr 300]) (n := 2) ⟨300, _, _, rfl, xo_300⟩ rfl rfl trivial ?_
  repeat' (first | omega | (refine hL _ _ _ _ y1 y2 ?_ ?_ (y5 rfl) ?_ ?_) | (refine hE _ _ _ _ ?_ ?_ (by have w := n4 rfl; omega) (hN _ _ _ (by rw [← hp]; exact somP_0 n1) ?_ ?_ n4 ?_ ?_ ?_ ?_)) | simp only [w_aload, w_call, w_istore, w_fall, Int.reduceToNat, x_g1012_300, w_iconst, w_ifc, cI, w_ldc, w_if, w_iload, w_goto, w_zreturn, a245_0, a245_36, a245_40, a245_41, a245_45, R32, List.getElem?_cons_zero, List.getElem?_cons_succ, List.set_cons_zero, List.set_cons_succ, List.cons_append, List.nil_append, List.replicate_succ, List.replicate_zero, List.take_succ_cons, List.take_zero, List.drop_succ_cons, List.drop_zero, List.reverse_cons, List.reverse_nil, List.length_cons, List.length_nil, Option.toList, true_and, and_true, eq_self, ↓reduceIte, not_true_eq_false, not_false_eq_true, true_or, or_true, tS_11, tS_12, tS_8, tS_9, tS_10, tS_13, tS_15, tS_16, tS_17, tS_18, tS_19, tS_301, tS_303, tS_305, tS_306, tS_u11, tS_u12, tS_u13, tS_tS, skp_skp] | with_reducible refine hEv _ _ _ _ _ _ _ hd hT ?_ h13 (okR_i (fun c9 e9 v9 y1 y2 y3 y4 y5 y6 y7 => ?_) (fun e9 b9 v9 n1 n2 n3 n4 n5 n6 n7 => ?_)) | with_reducible refine And.intro ?_ ?_ | with_reducible intro _)
  all_goals (try (first | omega | (exfalso; assumption) | skip))
theorem soC_of {k : Nat} (hX : tb.2.1 = strB) (h : EvC tb k) : SoC tb k := fun d m K S a t n hd hT ha h13 hK => q_245 hX hd h hT ha h13 hK
theorem k243_0 : pg.1 243 0 = [.aload 0, .getfield 1012, .bipush (-1), .if_icmp .eq 10, .bipush 0, .freturn] := rfl
theorem a243_0 {tb : Tab} {d : Nat} {K : Out → AM → Prop} {ls st : List AV} {m : AM} : At tb d 243 K 0 ls st m = wpB tb (pg.2.1 243) (Runs tb pg d) K (At tb d 243 K) [.aload 0, .getfield 1012, .bipush (-1), .if_icmp .eq 10, .bipush 0, .freturn] ls st m := At.eq k243_0
theorem k243_10 : pg.1 243 10 = [.aload 0, .invokeinterface 225 1, .istore 1, .aload 0, .ldc 18, .invokeinterface 223 2, .istore 2, .iload 2, .ifCond .ne 40, .aload 0, .bipush 40, .invokeinterface 222 2, .ifCond .ne 40, .aload 0, .invokeinterface 242 1, .freturn] := rfl
theorem a243_10 {tb : Tab} {d : Nat} {K : Out → AM → Prop} {ls st : List AV} {m : AM} : At tb d 243 K 10 ls st m = wpB tb (pg.2.1 243) (Runs tb pg d) K (At tb d 243 K) [.aload 0, .invokeinterface 225 1, .istore 1, .aload 0, .ldc 18, .invokeinterface 223 2, .istore 2, .iload 2, .ifCond .ne 40, .aload 0, .bipush 40, .invokeinterface 222 2, .ifCond .ne 40, .aload 0, .invokeinterface 242 1, .freturn] ls st m := At.eq k243_10
theorem k243_40 : pg.1 243 40 = [.aload 0, .getfield 1013, .bipush 6, .if_icmp .ne 56, .aload 0, .iload 1, .invokeinterface 224 2, .bipush 0, .freturn] := rfl
theorem a243_40 {tb : Tab} {d : Nat} {K : Out → AM → Prop} {ls st : List AV} {m : AM} : At tb d 243 K 40 ls st m = wpB tb (pg.2.1 243) (Runs tb pg d) K (At tb d 243 K) [.aload 0, .getfield 1013, .bipush 6, .if_icmp .ne 56, .aload 0, .iload 1, .invokeinterface 224 2, .bipush 0, .freturn] ls st m := At.eq k243_40
theorem k243_56 : pg.1 243 56 = [.aload 0, .dup, .getfield 1013, .bipush 1, .iadd, .putfield 1013, .bipush 0, .istore 3, .iload 2, .ifCond .eq 88, .aload 0, .invokeinterface 243 1, .ifCond .ne 83, .bipush 1, .goto 84] := rfl
theorem a243_56 {tb : Tab} {d : Nat} {K : Out → AM → Prop} {ls st : List AV} {m : AM} : At tb d 243 K 56 ls st m = wpB tb (pg.2.1 243) (Runs tb pg d) K (At tb d 243 K) [.aload 0, .dup, .getfield 1013, .bipush 1, .iadd, .putfield 1013, .bipush 0, .istore 3, .iload 2, .ifCond .eq 88, .aload 0, .invokeinterface 243 1, .ifCond .ne 83, .bipush 1, .goto 84] ls st m := At.eq k243_56
theorem k243_83 : pg.1 243 83 = [.bipush 0, .jsr 84] := rfl
theorem a243_83 {tb : Tab} {d : Nat} {K : Out → AM → Prop} {ls st : List AV} {m : AM} : At tb d 243 K 83 ls st m = wpB tb (pg.2.1 243) (Runs tb pg d) K (At tb d 243 K) [.bipush 0, .jsr 84] ls st m := At.eq k243_83
theorem k243_84 : pg.1 243 84 = [.istore 3, .goto 138] := rfl
theorem a243_84 {tb : Tab} {d : Nat} {K : Out → AM → Prop} {ls st : List AV} {m : AM} : At tb d 243 K 84 ls st m = wpB tb (pg.2.1 243) (Runs tb pg d) K (At tb d 243 K) [.istore 3, .goto 138] ls st m := At.eq k243_84
theorem k243_88 : pg.1 243 88 = [.aload 0, .dup, .getfield 1011, .bipush 1, .iadd, .putfield 1011, .aload 0, .invokeinterface 245 1, .istore 3, .aload 0, .getfield 1012, .bipush (-1), .if_icmp .ne 128, .aload 0, .bipush 41, .invokeinterface 222 2, .ifCond .ne 128, .aload 0, .aload 0, .getfield 1011, .invokeinterface 224 2, .jsr 128] := rfl
theorem a243_88 {tb : Tab} {d : Nat} {K : Out → AM → Prop} {ls st : List AV} {m : AM} : At tb d 243 K 88 ls st m = wpB tb (pg.2.1 243) (Runs tb pg d) K (At tb d 243 K) [.aload 0, .dup, .getfield 1011, .bipush 1, .iadd, .putfield 1011, .aload 0, .invokeinterface 245 1, .istore 3, .aload 0, .getfield 1012, .bipush (-1), .if_icmp .ne 128, .aload 0, .bipush 41, .invokeinterface 222 2, .ifCond .ne 128, .aload 0, .aload 0, .getfield 1011, .invokeinterface 224 2, .jsr 128] ls st m := At.eq k243_88
theorem k243_128 : pg.1 243 128 = [.aload 0, .dup, .getfield 1011, .bipush 1, .iadd, .putfield 1011, .jsr 138] := rfl
theorem a243_128 {tb : Tab} {d : Nat} {K : Out → AM → Prop} {ls st : List AV} {m : AM} : At tb d 243 K 128 ls st m = wpB tb (pg.2.1 243) (Runs tb pg d) K (At tb d 243 K) [.aload 0, .dup, .getfield 1011, .bipush 1, .iadd, .putfield 1011, .jsr 138] ls st m := At.eq k243_128
theorem k243_138 : pg.1 243 138 = [.aload 0, .dup, .getfield 1013, .bipush 1, .isub, .putfield 1013, .iload 3, .freturn] := rfl
theorem a243_138 {tb : Tab} {d : Nat} {K : Out → AM → Prop} {ls st : List AV} {m : AM} : At tb d 243 K 138 ls st m = wpB tb (pg.2.1 243) (Runs tb pg d) K (At tb d 243 K) [.aload 0, .dup, .getfield 1013, .bipush 1, .isub, .putfield 1013, .iload 3, .freturn] ls st m := At.eq k243_138
theorem q_243z (hX : tb.2.1 = strB) (hT : TX t n S) (ha : 0 ≤ a ∧ a ≤ n) (h13 : S 300 13 = 6) (hK : okR (atmP t n 0 a) S n a 1 0 m K) : Runs tb pg (d + 9) 243 [vr 300] (X (tS S a (-1)) m) K := by
  refine Runs.of (al := [vr 300]) (n := 3) ⟨300, _, _, rfl, xo_300⟩ rfl rfl trivial ?_
  have hn2 := hT.2.1
  have hr := hT.2.2.1
  have ha1 : 0 ≤ a ∧ a ≤ 1000 := by omega
  have g0 := skp_n (t := t) (n := n) (a := a) ha.2
  obtain ⟨b, hb⟩ : ∃ b, b = skp t n a := ⟨_, rfl⟩
  have hbb : skp t n b = b := by rw [hb, skp_skp]
  rw [← hb] at g0
  have hb2 : 0 ≤ b ∧ b ≤ 1000 := by omega
  have hb3 : 0 ≤ b ∧ b ≤ n := by omega
  have R40 : R32 40 := by unfold R32; omega
  have R41 : R32 41 := by unfold R32; omega
  have k18 : 18 < 39 := by decide
  obtain ⟨hK, hN⟩ := hK
  obtain ⟨P, hp⟩ : ∃ P, atmP t n 0 a = P := ⟨_, rfl⟩
  rw [hp] at hK hN
  have hq : P = wdI t n b 18 (.inl b) (iteP (sgP t n b 40) (.inl b) (plaP t n b)) := by rw [← hp, hb]; rfl
  repeat' (first | omega | (refine hK _ _ _ (hq.trans ((wdI_n n0).trans ((iteP_n ns).trans y1))) y2 ?_ ?_ ?_ ?_ ?_) | (refine hN _ _ _ (hq.trans ((wdI_n n0).trans ((iteP_n ns).trans n1))) ?_ ?_ ?_ ?_ ?_ ?_ ?_) | (refine hN _ _ _ (hq.trans (wdI_y y0)) ?_ ?_ ?_ ?_ ?_ ?_ ?_) | (refine hN _ _ _ (hq.trans ((wdI_n n0).trans (iteP_y ys))) ?_ ?_ ?_ ?_ ?_ ?_ ?_) | simp only [w_aload, x_g1012_300, w_iconst, w_ifc, cI, Int.reduceToNat, w_zreturn, w_call, w_istore, w_ldc, w_iload, w_if, x_g1013_300, w_dupi, w_dupr, w_iadd, x_p1013_300, w_goto, w_fall, x_g1011_300, x_p1011_300, w_isub, a243_0, a243_10, a243_40, a243_56, a243_83, a243_84, a243_88, a243_128, a243_138, R32, List.getElem?_cons_zero, List.getElem?_cons_succ, List.set_cons_zero, List.set_cons_succ, List.cons_append, List.nil_append, List.replicate_succ, List.replicate_zero, List.take_succ_cons, List.take_zero, List.drop_succ_cons, List.drop_zero, List.reverse_cons, List.reverse_nil, List.length_cons, List.length_nil, Option.toList, true_and, and_true, eq_self, ↓reduceIte, not_true_eq_false, not_false_eq_true, true_or, or_true, tS_11, tS_12, tS_8, tS_9, tS_10, tS_13, tS_15, tS_16, tS_17, tS_18, tS_19, tS_301, tS_303, tS_305, tS_306, tS_u11, tS_u12, tS_u13, tS_tS, skp_skp] | (refine q_225 hT ha1 (fun b9 e9 => ?_); rw [← hb] at e9; have e8 := e9.symm; clear e9; subst e8) | with_reducible refine q_223b (k := 18) hX k18 hT hbb hb2 (fun n0 => ?_) (fun y0 => ?_) | (have q0 := n0; (with_reducible refine q_222b hT hbb hb2 R40 (fun ys => ?_) (fun ns => ?_))) | (have q0 := ns; (with_reducible refine q_242 hX hT hb3 hbb (okR_i (fun c9 e9 v9 y1 y2 y3 y4 y5 y6 y7 => ?_) (fun e9 b9 v9 n1 n2 n3 n4 n5 n6 n7 => ?_)))) | with_reducible refine q_224n ?_ | with_reducible refine And.intro ?_ ?_ | with_reducible intro _)
  all_goals (try (first | omega | (exfalso; assumption) | (have w := y5 rfl; omega) | (have w := n4 rfl; omega) | (have w := wdL hb2.2 hn2.2 y0; omega)))
theorem q_243s {k : Nat} (hX : tb.2.1 = strB) (hd : 3 * k ≤ d) (hAt : AtC tb k) (hSo : SoC tb k) (hT : TX t n S) (ha : 0 ≤ a ∧ a ≤ n) (h13 : S 300 13 = 5 - k) (hk : k < 6) (hK : okR (atmP t n (k + 1) a) S n a 1 (k + 1) m K) : Runs tb pg (d + 12) 243 [vr 300] (X (tS S a (-1)) m) K := by
  refine Runs.of (al := [vr 300]) (n := 3) ⟨300, _, _, rfl, xo_300⟩ rfl rfl trivial ?_
  have hn2 := hT.2.1
  have hr := hT.2.2.1
  have ha1 : 0 ≤ a ∧ a ≤ 1000 := by omega
  have g0 := skp_n (t := t) (n := n) (a := a) ha.2
  obtain ⟨b, hb⟩ : ∃ b, b = skp t n a := ⟨_, rfl⟩
  have hbb : skp t n b = b := by rw [hb, skp_skp]
  rw [← hb] at g0
  have hb2 : 0 ≤ b ∧ b ≤ 1000 := by omega
  have hb3 : 0 ≤ b ∧ b ≤ n := by omega
  have R40 : R32 40 := by unfold R32; omega
  have R41 : R32 41 := by unfold R32; omega
  have k18 : 18 < 39 := by decide
  unfold AtC at hAt
  unfold SoC at hSo
  obtain ⟨hK, hN⟩ := hK
  obtain ⟨P, hp⟩ : ∃ P, atmP t n (k + 1) a = P := ⟨_, rfl⟩
  rw [hp] at hK hN
  have hq : P = wdI t n b 18 (bnd (atmP t n k (b + (strB 18).length)) fun c e => .inr (c ++ [2000], e)) (iteP (sgP t n b 40) (bnd (somP (atmP t n k) t n (b + 1)) fun c e => iteP (sgP t n (skp t n e) 41) (.inr (c, skp t n e + 1)) (.inl (skp t n e))) (plaP t n b)) := by rw [← hp, hb]; rfl
  obtain ⟨U, hU⟩ : ∃ U, U = upS S 300 13 (S 300 13 + 1) := ⟨_, rfl⟩
  have hTU : TX t n U := by rw [hU]; exact hT
  have fU : fcS U = fcS S := by rw [hU]; rfl
  have hU13 : U 300 13 = 6 - k := by rw [hU, upS_at, if_pos ⟨rfl, rfl⟩]; omega
  have hUS : upS U 300 13 (U 300 13 - 1) = S := by
    funext c j
    rw [upS_at]
    by_cases z : c = 300 ∧ j = 13
    · rw [if_pos z, hU13, z.1, z.2]; omega
    · rw [if_neg z, hU, upS_at, if_neg z]
  have hd2 : 3 * k ≤ d + 2 := by omega
  repeat' (first | omega | (refine hK _ _ _ (hq.trans ((wdI_n n0).trans ((iteP_n ns).trans y1))) y2 ?_ ?_ ?_ ?_ ?_) | (refine hN _ _ _ (hq.trans ((wdI_n n0).trans ((iteP_n ns).trans n1))) ?_ ?_ ?_ ?_ ?_ ?_ ?_) | (refine hN _ _ _ (hq.trans ((wdI_y y0).trans (by rw [n1]; rfl))) ?_ ?_ ?_ ?_ ?_ ?_ ?_) | (refine hK _ _ _ (hq.trans ((wdI_y y0).trans (by rw [y1]; rfl))) (by have w := isV_not y2; rw [fU] at w; first | exact w | (rw [show (0 : Int) = 1 - v1 by omega]; exact w) | (rw [show (1 : Int) = 1 - v1 by omega]; exact w)) ?_ ?_ ?_ ?_ ?_) | (refine hN _ _ _ (hq.trans ((wdI_n n0).trans ((iteP_y ys).trans (by rw [n1]; rfl)))) ?_ ?_ ?_ ?_ ?_ ?_ ?_) | (refine hN _ _ _ (hq.trans ((wdI_n n0).trans ((iteP_y ys).trans (by rw [y1]; exact iteP_n ns2)))) ?_ ?_ ?_ ?_ ?_ ?_ ?_) | (refine hK _ _ _ (hq.trans ((wdI_n n0).trans ((iteP_y ys).trans (by rw [y1]; exact iteP_y ys2)))) (by rw [← fU]; exact y2) ?_ ?_ ?_ ?_ ?_) | simp only [w_aload, x_g1012_300, w_iconst, w_ifc, cI, Int.reduceToNat, w_zreturn, w_call, w_istore, w_ldc, w_iload, w_if, x_g1013_300, w_dupi, w_dupr, w_iadd, x_p1013_300, w_goto, w_fall, x_g1011_300, x_p1011_300, w_isub, a243_0, a243_10, a243_40, a243_56, a243_83, a243_84, a243_88, a243_128, a243_138, R32, List.getElem?_cons_zero, List.getElem?_cons_succ, List.set_cons_zero, List.set_cons_succ, List.cons_append, List.nil_append, List.replicate_succ, List.replicate_zero, List.take_succ_cons, List.take_zero, List.drop_succ_cons, List.drop_zero, List.reverse_cons, List.reverse_nil, List.length_cons, List.length_nil, Option.toList, true_and, and_true, eq_self, ↓reduceIte, not_true_eq_false, not_false_eq_true, true_or, or_true, tS_11, tS_12, tS_8, tS_9, tS_10, tS_13, tS_15, tS_16, tS_17, tS_18, tS_19, tS_301, tS_303, tS_305, tS_306, tS_u11, tS_u12, tS_u13, tS_tS, skp_skp] | (rw [← hU]) | (rw [hUS]) | (refine q_225 hT ha1 (fun b9 e9 => ?_); rw [← hb] at e9; have e8 := e9.symm; clear e9; subst e8) | with_reducible refine q_223b (k := 18) hX k18 hT hbb hb2 (fun n0 => ?_) (fun y0 => ?_) | (have q0 := y1; (with_reducible refine q_222s hTU ?_ R41 (fun ys2 => ?_) (fun ns2 => ?_))) | (have q0 := n0; (with_reducible refine q_222b hT hbb hb2 R40 (fun ys => ?_) (fun ns => ?_))) | (have q0 := ns; (with_reducible refine q_242 hX hT hb3 hbb (okR_i (fun c9 e9 v9 y1 y2 y3 y4 y5 y6 y7 => ?_) (fun e9 b9 v9 n1 n2 n3 n4 n5 n6 n7 => ?_)))) | with_reducible refine q_224n ?_ | (have q0 := y0; (with_reducible refine hAt _ _ _ _ _ _ _ hd2 hTU ?_ hU13 (okR_i (fun c1 e1 v1 y1 y2 y3 y4 y5 y6 y7 => ?_) (fun e9 b9 v9 n1 n2 n3 n4 n5 n6 n7 => ?_)))) | (have q0 := ys; (with_reducible refine hSo _ _ _ _ _ _ _ hd hTU ?_ hU13 (okR_i (fun c1 e1 v1 y1 y2 y3 y4 y5 y6 y7 => ?_) (fun e9 b9 v9 n1 n2 n3 n4 n5 n6 n7 => ?_)))) | with_reducible refine And.intro ?_ ?_ | with_reducible intro _)
  all_goals (try (first | omega | (exfalso; assumption) | (have w := y5 rfl; omega) | (have w := n4 rfl; omega) | (have w := wdL hb2.2 hn2.2 y0; omega) | (have w := wd_n g0.2 y0; omega) | (have w := ys.1; omega) | (have w := skp_n (t := t) (n := n) (a := e1) y7; first | omega | (have w2 := ys2.1; omega))))
theorem atC_of (hX : tb.2.1 = strB) : ∀ k : Nat, k ≤ 6 → AtC tb k
  | 0, _ => fun d m K S a t n hd hT ha h13 hK => q_243z hX hT ha (by omega) hK
  | k + 1, hk => fun d m K S a t n hd hT ha h13 hK => by
    have hA := atC_of hX k (by omega)
    have hS := soC_of hX (evC_of hX hA)
    obtain ⟨d', rfl⟩ : ∃ d', d = d' + 3 := ⟨d - 3, by omega⟩
    exact q_243s (d := d') hX (by omega) hA hS hT ha (by omega) (by omega) hK
theorem soC_all (hX : tb.2.1 = strB) : SoC tb 6 := soC_of hX (evC_of hX (atC_of hX 6 (Nat.le_refl _)))
end Ref42
