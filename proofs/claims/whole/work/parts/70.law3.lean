/-! ===== THE REFERENCE: the law ===== -/
theorem tS_u18 {S : Nat → Int → Int} {a f v : Int} : upS (tS S a f) 300 18 v = tS (upS S 300 18 v) a f := tS_uo (by decide) (by decide)
theorem tS_u19 {S : Nat → Int → Int} {a f v : Int} : upS (tS S a f) 300 19 v = tS (upS S 300 19 v) a f := tS_uo (by decide) (by decide)
abbrev LL : Type := Int × Int × List Int
noncomputable def linT (t : Int → Int) (n k a : Int) : PR LL := bnd (numP t n 0 40 a) fun v e => wdI t n (skp t n e) 17 (bnd (somP (atmP t n 6) t n (skp t n e + (strB 17).length)) fun c e2 => .inr ((k, v, c), e2)) (.inr ((k, v, []), skp t n e))
noncomputable def linP (t : Int → Int) (n b : Int) : PR LL := wdI t n b 14 (linT t n 0 (b + (strB 14).length)) <| wdI t n b 15 (linT t n 1 (b + (strB 15).length)) <| wdI t n b 16 (linT t n 2 (b + (strB 16).length)) <| .inl b
noncomputable def lawP (t : Int → Int) (n : Int) (L : List LL) (b : Int) : PR (List LL) := bnd (linP t n b) fun l e => .inr (L ++ [l], e)
/-- what a condition tells; without one it holds -/
def valL (fc : Int → Int) (c : List Int) : Int := (runL fc c []).headD 1
theorem valL_v {fc : Int → Int} {c : List Int} {v : Int} (h : isV fc c v) : valL fc c = v := by unfold valL; rw [h []]; rfl
theorem valL_0 {fc : Int → Int} : valL fc [] = 1 := rfl
def totL (k : Int) (fc : Int → Int) : List LL → Int
  | [] => 0
  | l :: r => (if l.1 = k ∧ valL fc l.2.2 ≠ 0 then l.2.1 else 0) + totL k fc r
theorem totL_app {k : Int} {fc : Int → Int} : ∀ a b : List LL, totL k fc (a ++ b) = totL k fc a + totL k fc b
  | [], b => by show totL k fc b = 0 + totL k fc b; omega
  | l :: r, b => by
    show (if l.1 = k ∧ valL fc l.2.2 ≠ 0 then l.2.1 else 0) + totL k fc (r ++ b) = (if l.1 = k ∧ valL fc l.2.2 ≠ 0 then l.2.1 else 0) + totL k fc r + totL k fc b
    rw [totL_app r b]; omega
theorem totL_1 {k : Int} {fc : Int → Int} {l : LL} : totL k fc [l] = if l.1 = k ∧ valL fc l.2.2 ≠ 0 then l.2.1 else 0 := by
  show (if l.1 = k ∧ valL fc l.2.2 ≠ 0 then l.2.1 else 0) + 0 = _
  omega
def totM (fc : Int → Int) (L : List LL) : Int := totL 0 fc L - totL 1 fc L
def totD (fc : Int → Int) (L : List LL) : Int := totL 2 fc L
def mdS (S : Nat → Int → Int) (x y : Int) : Nat → Int → Int := upS (upS S 300 18 (S 300 18 + x)) 300 19 (S 300 19 + y)
theorem mdS_at {S : Nat → Int → Int} {x y : Int} {c : Nat} {j : Int} : mdS S x y c j = if c = 300 ∧ j = 19 then S 300 19 + y else if c = 300 ∧ j = 18 then S 300 18 + x else S c j := by unfold mdS; rw [upS_at, upS_at]
theorem mdS_0 {S : Nat → Int → Int} : mdS S 0 0 = S := by
  funext c j
  rw [mdS_at]
  by_cases z : c = 300 ∧ j = 19
  · rw [if_pos z, z.1, z.2]; omega
  · rw [if_neg z]
    by_cases y : c = 300 ∧ j = 18
    · rw [if_pos y, y.1, y.2]; omega
    · rw [if_neg y]
theorem mdS_mdS {S : Nat → Int → Int} {x y u v : Int} : mdS (mdS S x y) u v = mdS S (x + u) (y + v) := by
  funext c j
  simp only [mdS_at]
  grind
theorem mdS_fc {S : Nat → Int → Int} {x y : Int} : fcS (mdS S x y) = fcS S := rfl
theorem mdS_TX {t : Int → Int} {n x y : Int} {S : Nat → Int → Int} (h : TX t n S) : TX t n (mdS S x y) := h
theorem mdS_13 {S : Nat → Int → Int} {x y : Int} : mdS S x y 300 13 = S 300 13 := rfl
section lin
variable {t : Int → Int} {n k a v e e2 f : Int} {c : List Int}
theorem linT_0 (h : numP t n 0 40 a = .inl f) : linT t n k a = .inl f := by unfold linT; rw [h]; rfl
theorem linT_s (h : numP t n 0 40 a = .inr (v, e)) : linT t n k a = wdI t n (skp t n e) 17 (bnd (somP (atmP t n 6) t n (skp t n e + (strB 17).length)) fun c e2 => .inr ((k, v, c), e2)) (.inr ((k, v, []), skp t n e)) := by unfold linT; rw [h]; rfl
theorem linT_1 (h : numP t n 0 40 a = .inr (v, e)) (g : wdP t n (skp t n e) (strB 17)) (z : somP (atmP t n 6) t n (skp t n e + (strB 17).length) = .inl f) : linT t n k a = .inl f := by rw [linT_s h, wdI_y g, z]; rfl
theorem linT_2 (h : numP t n 0 40 a = .inr (v, e)) (g : wdP t n (skp t n e) (strB 17)) (z : somP (atmP t n 6) t n (skp t n e + (strB 17).length) = .inr (c, e2)) : linT t n k a = .inr ((k, v, c), e2) := by rw [linT_s h, wdI_y g, z]; rfl
theorem linT_3 (h : numP t n 0 40 a = .inr (v, e)) (g : ¬ wdP t n (skp t n e) (strB 17)) : linT t n k a = .inr ((k, v, []), skp t n e) := by rw [linT_s h, wdI_n g]
end lin
/-- what a line adds -/
def dM (fc : Int → Int) (l : LL) : Int := totM fc [l]
def dD (fc : Int → Int) (l : LL) : Int := totD fc [l]
theorem dM_of {fc : Int → Int} {k v : Int} {c : List Int} : dM fc (k, v, c) = (if k = 0 ∧ valL fc c ≠ 0 then v else 0) - (if k = 1 ∧ valL fc c ≠ 0 then v else 0) := by unfold dM totM; rw [totL_1, totL_1]
theorem dD_of {fc : Int → Int} {k v : Int} {c : List Int} : dD fc (k, v, c) = (if k = 2 ∧ valL fc c ≠ 0 then v else 0) := by unfold dD totD; rw [totL_1]
theorem totM_s {fc : Int → Int} {L : List LL} {l : LL} : totM fc (L ++ [l]) = totM fc L + dM fc l := by unfold dM totM; rw [totL_app, totL_app]; omega
theorem totD_s {fc : Int → Int} {L : List LL} {l : LL} : totD fc (L ++ [l]) = totD fc L + dD fc l := by unfold dD totD; rw [totL_app]
section rdl
variable {α : Type} {line : α → Int → PR α} {t : Int → Int} {n a i b e : Int} {r q : α} {p : PR α}
theorem rdM_s (h : i < 12) : rdN line t n (12 - i).toNat r a = bnd (line r (skp t n a)) fun q e => if skp t n e = n then .inr (q, skp t n e) else if t (skp t n e) = 59 then rdN line t n (12 - (i + 1)).toNat q (skp t n e + 1) else .inl (skp t n e) := by
  rw [show (12 - i).toNat = (12 - (i + 1)).toNat + 1 by omega]
  rfl
theorem rdM_f (h : i < 12) (z : line r (skp t n a) = .inl b) (y : rdN line t n (12 - i).toNat r a = p) : p = .inl b := by rw [← y, rdM_s h, z]; rfl
theorem rdM_e (h : i < 12) (z : line r (skp t n a) = .inr (q, e)) (y : rdN line t n (12 - i).toNat r a = p) (g : skp t n e = n) : p = .inr (q, skp t n e) := by
  rw [← y, rdM_s h, z]; exact if_pos g
theorem rdM_c (h : i < 12) (z : line r (skp t n a) = .inr (q, e)) (y : rdN line t n (12 - i).toNat r a = p) (g : skp t n e ≠ n) (g2 : t (skp t n e) = 59) : rdN line t n (12 - (i + 1)).toNat q (skp t n e + 1) = p := by
  rw [← y, rdM_s h, z]; exact ((if_neg g).trans (if_pos g2)).symm
theorem rdM_w (h : i < 12) (z : line r (skp t n a) = .inr (q, e)) (y : rdN line t n (12 - i).toNat r a = p) (g : skp t n e ≠ n) (g2 : t (skp t n e) ≠ 59) : p = .inl (skp t n e) := by
  rw [← y, rdM_s h, z]; exact (if_neg g).trans (if_neg g2)
end rdl
theorem lawP_0 {t : Int → Int} {n b f : Int} {L : List LL} (h : linP t n b = .inl f) : lawP t n L b = .inl f := by unfold lawP; rw [h]; rfl
theorem lawP_1 {t : Int → Int} {n b e : Int} {L : List LL} {l : LL} (h : linP t n b = .inr (l, e)) : lawP t n L b = .inr (L ++ [l], e) := by unfold lawP; rw [h]; rfl
theorem q_221w {tb : Tab} {d : Nat} {m : AM} {K : Out → AM → Prop} {S : Nat → Int → Int} {a f : Int} {t : Int → Int} {n : Int} (hT : TX t n S) (ha : 0 ≤ a ∧ a ≤ 2000) (hK : K (.inl none) (X (tS S (skp t n a) f) m)) : Runs tb pg (d + 2) 221 [vr 300] (X (tS S a f) m) K := by
  by_cases h : a ≤ 1000
  · exact q_221 hT ⟨ha.1, h⟩ (fun b e => by rw [e]; exact hK)
  · have hn := hT.1
    have hn2 := hT.2.1
    have e : skp t n a = a := scn_n (fun z => by omega)
    rw [e] at hK
    refine Runs.of (al := [vr 300]) (n := 0) ⟨300, _, _, rfl, xo_300⟩ rfl rfl trivial ?_
    rw [show (List.replicate 0 vu : List AV) = [] from rfl, List.append_nil]
    simp only [w_aload, x_g1011_300, x_g1010_300, w_ifc, cI, Int.reduceToNat, w_call, w_iconst, w_dupi, w_dupr, w_iadd, x_p1011_300, w_goto, w_return, a221_0, a221_37, R32, List.getElem?_cons_zero, List.getElem?_cons_succ, List.set_cons_zero, List.set_cons_succ, List.cons_append, List.nil_append, List.replicate_succ, List.replicate_zero, List.take_succ_cons, List.take_zero, List.drop_succ_cons, List.drop_zero, List.reverse_cons, List.reverse_nil, List.length_cons, List.length_nil, Option.toList, true_and, and_true, eq_self, ↓reduceIte, not_true_eq_false, not_false_eq_true, true_or, or_true, tS_10, tS_11]
    all_goals (first | omega | (refine ⟨by omega, fun _ => hK, fun z => by omega⟩))
section Ref43
variable {tb : Tab} {d : Nat} {m : AM} {K : Out → AM → Prop} {S : Nat → Int → Int} {a f : Int} {t : Int → Int} {n : Int}
theorem k246_0 : pg.1 246 0 = [.aload 0, .ldc 14, .invokeinterface 223 2, .ifCond .eq 14, .bipush 0, .goto 43] := rfl
theorem a246_0 {tb : Tab} {d : Nat} {K : Out → AM → Prop} {ls st : List AV} {m : AM} : At tb d 246 K 0 ls st m = wpB tb (pg.2.1 246) (Runs tb pg d) K (At tb d 246 K) [.aload 0, .ldc 14, .invokeinterface 223 2, .ifCond .eq 14, .bipush 0, .goto 43] ls st m := At.eq k246_0
theorem k246_14 : pg.1 246 14 = [.aload 0, .ldc 15, .invokeinterface 223 2, .ifCond .eq 28, .bipush 1, .goto 43] := rfl
theorem a246_14 {tb : Tab} {d : Nat} {K : Out → AM → Prop} {ls st : List AV} {m : AM} : At tb d 246 K 14 ls st m = wpB tb (pg.2.1 246) (Runs tb pg d) K (At tb d 246 K) [.aload 0, .ldc 15, .invokeinterface 223 2, .ifCond .eq 28, .bipush 1, .goto 43] ls st m := At.eq k246_14
theorem k246_28 : pg.1 246 28 = [.aload 0, .ldc 16, .invokeinterface 223 2, .ifCond .eq 42, .bipush 2, .goto 43] := rfl
theorem a246_28 {tb : Tab} {d : Nat} {K : Out → AM → Prop} {ls st : List AV} {m : AM} : At tb d 246 K 28 ls st m = wpB tb (pg.2.1 246) (Runs tb pg d) K (At tb d 246 K) [.aload 0, .ldc 16, .invokeinterface 223 2, .ifCond .eq 42, .bipush 2, .goto 43] ls st m := At.eq k246_28
theorem k246_42 : pg.1 246 42 = [.bipush (-1), .jsr 43] := rfl
theorem a246_42 {tb : Tab} {d : Nat} {K : Out → AM → Prop} {ls st : List AV} {m : AM} : At tb d 246 K 42 ls st m = wpB tb (pg.2.1 246) (Runs tb pg d) K (At tb d 246 K) [.bipush (-1), .jsr 43] ls st m := At.eq k246_42
theorem k246_43 : pg.1 246 43 = [.istore 1, .iload 1, .bipush (-1), .if_icmp .ne 58, .aload 0, .aload 0, .getfield 1011, .invokeinterface 224 2, .return_] := rfl
theorem a246_43 {tb : Tab} {d : Nat} {K : Out → AM → Prop} {ls st : List AV} {m : AM} : At tb d 246 K 43 ls st m = wpB tb (pg.2.1 246) (Runs tb pg d) K (At tb d 246 K) [.istore 1, .iload 1, .bipush (-1), .if_icmp .ne 58, .aload 0, .aload 0, .getfield 1011, .invokeinterface 224 2, .return_] ls st m := At.eq k246_43
theorem k246_58 : pg.1 246 58 = [.aload 0, .bipush 0, .bipush 40, .invokeinterface 226 3, .istore 2, .aload 0, .getfield 1012, .bipush (-1), .if_icmp .eq 75, .return_] := rfl
theorem a246_58 {tb : Tab} {d : Nat} {K : Out → AM → Prop} {ls st : List AV} {m : AM} : At tb d 246 K 58 ls st m = wpB tb (pg.2.1 246) (Runs tb pg d) K (At tb d 246 K) [.aload 0, .bipush 0, .bipush 40, .invokeinterface 226 3, .istore 2, .aload 0, .getfield 1012, .bipush (-1), .if_icmp .eq 75, .return_] ls st m := At.eq k246_58
theorem k246_75 : pg.1 246 75 = [.aload 0, .ldc 17, .invokeinterface 223 2, .ifCond .eq 92, .aload 0, .invokeinterface 245 1, .ifCond .eq 96, .jsr 92] := rfl
theorem a246_75 {tb : Tab} {d : Nat} {K : Out → AM → Prop} {ls st : List AV} {m : AM} : At tb d 246 K 75 ls st m = wpB tb (pg.2.1 246) (Runs tb pg d) K (At tb d 246 K) [.aload 0, .ldc 17, .invokeinterface 223 2, .ifCond .eq 92, .aload 0, .invokeinterface 245 1, .ifCond .eq 96, .jsr 92] ls st m := At.eq k246_75
theorem k246_92 : pg.1 246 92 = [.bipush 1, .goto 97] := rfl
theorem a246_92 {tb : Tab} {d : Nat} {K : Out → AM → Prop} {ls st : List AV} {m : AM} : At tb d 246 K 92 ls st m = wpB tb (pg.2.1 246) (Runs tb pg d) K (At tb d 246 K) [.bipush 1, .goto 97] ls st m := At.eq k246_92
theorem k246_96 : pg.1 246 96 = [.bipush 0, .jsr 97] := rfl
theorem a246_96 {tb : Tab} {d : Nat} {K : Out → AM → Prop} {ls st : List AV} {m : AM} : At tb d 246 K 96 ls st m = wpB tb (pg.2.1 246) (Runs tb pg d) K (At tb d 246 K) [.bipush 0, .jsr 97] ls st m := At.eq k246_96
theorem k246_97 : pg.1 246 97 = [.istore 3, .aload 0, .getfield 1012, .bipush (-1), .if_icmp .ne 110, .iload 3, .ifCond .ne 111, .jsr 110] := rfl
theorem a246_97 {tb : Tab} {d : Nat} {K : Out → AM → Prop} {ls st : List AV} {m : AM} : At tb d 246 K 97 ls st m = wpB tb (pg.2.1 246) (Runs tb pg d) K (At tb d 246 K) [.istore 3, .aload 0, .getfield 1012, .bipush (-1), .if_icmp .ne 110, .iload 3, .ifCond .ne 111, .jsr 110] ls st m := At.eq k246_97
theorem k246_110 : pg.1 246 110 = [.return_] := rfl
theorem a246_110 {tb : Tab} {d : Nat} {K : Out → AM → Prop} {ls st : List AV} {m : AM} : At tb d 246 K 110 ls st m = wpB tb (pg.2.1 246) (Runs tb pg d) K (At tb d 246 K) [.return_] ls st m := At.eq k246_110
theorem k246_111 : pg.1 246 111 = [.aload 0, .dup, .getfield 1018, .iload 1, .ifCond .ne 124, .iload 2, .goto 135] := rfl
theorem a246_111 {tb : Tab} {d : Nat} {K : Out → AM → Prop} {ls st : List AV} {m : AM} : At tb d 246 K 111 ls st m = wpB tb (pg.2.1 246) (Runs tb pg d) K (At tb d 246 K) [.aload 0, .dup, .getfield 1018, .iload 1, .ifCond .ne 124, .iload 2, .goto 135] ls st m := At.eq k246_111
theorem k246_124 : pg.1 246 124 = [.iload 1, .bipush 1, .if_icmp .ne 134, .iload 2, .ineg, .goto 135] := rfl
theorem a246_124 {tb : Tab} {d : Nat} {K : Out → AM → Prop} {ls st : List AV} {m : AM} : At tb d 246 K 124 ls st m = wpB tb (pg.2.1 246) (Runs tb pg d) K (At tb d 246 K) [.iload 1, .bipush 1, .if_icmp .ne 134, .iload 2, .ineg, .goto 135] ls st m := At.eq k246_124
theorem k246_134 : pg.1 246 134 = [.bipush 0, .jsr 135] := rfl
theorem a246_134 {tb : Tab} {d : Nat} {K : Out → AM → Prop} {ls st : List AV} {m : AM} : At tb d 246 K 134 ls st m = wpB tb (pg.2.1 246) (Runs tb pg d) K (At tb d 246 K) [.bipush 0, .jsr 135] ls st m := At.eq k246_134
theorem k246_135 : pg.1 246 135 = [.iadd, .putfield 1018, .aload 0, .dup, .getfield 1019, .iload 1, .bipush 2, .if_icmp .ne 153, .iload 2, .goto 154] := rfl
theorem a246_135 {tb : Tab} {d : Nat} {K : Out → AM → Prop} {ls st : List AV} {m : AM} : At tb d 246 K 135 ls st m = wpB tb (pg.2.1 246) (Runs tb pg d) K (At tb d 246 K) [.iadd, .putfield 1018, .aload 0, .dup, .getfield 1019, .iload 1, .bipush 2, .if_icmp .ne 153, .iload 2, .goto 154] ls st m := At.eq k246_135
theorem k246_153 : pg.1 246 153 = [.bipush 0, .jsr 154] := rfl
theorem a246_153 {tb : Tab} {d : Nat} {K : Out → AM → Prop} {ls st : List AV} {m : AM} : At tb d 246 K 153 ls st m = wpB tb (pg.2.1 246) (Runs tb pg d) K (At tb d 246 K) [.bipush 0, .jsr 154] ls st m := At.eq k246_153
theorem k246_154 : pg.1 246 154 = [.iadd, .putfield 1019, .return_] := rfl
theorem a246_154 {tb : Tab} {d : Nat} {K : Out → AM → Prop} {ls st : List AV} {m : AM} : At tb d 246 K 154 ls st m = wpB tb (pg.2.1 246) (Runs tb pg d) K (At tb d 246 K) [.iadd, .putfield 1019, .return_] ls st m := At.eq k246_154
theorem q_246 (hX : tb.2.1 = strB) (hT : TX t n S) (ha : 0 ≤ a ∧ a ≤ n) (h13 : S 300 13 = 0) (hN : ∀ e b, linP t n (skp t n a) = .inl b → 0 ≤ e → e ≤ 1010 → 0 ≤ b → b ≤ 1000 → K (.inl none) (X (tS S e b) m)) (hK : ∀ l e, linP t n (skp t n a) = .inr (l, e) → a < e → e ≤ n → K (.inl none) (X (tS (mdS S (dM (fcS S) l) (dD (fcS S) l)) e (-1)) m)) : Runs tb pg (d + 30) 246 [vr 300] (X (tS S a (-1)) m) K := by
  refine Runs.of (al := [vr 300]) (n := 3) ⟨300, _, _, rfl, xo_300⟩ rfl rfl trivial ?_
  have hn2 := hT.2.1
  have ha1 : 0 ≤ a ∧ a ≤ 1000 := by omega
  have g0 := skp_n (t := t) (n := n) (a := a) ha.2
  obtain ⟨b, hb⟩ : ∃ b, b = skp t n a := ⟨_, rfl⟩
  have hbb : skp t n b = b := by rw [hb, skp_skp]
  rw [← hb] at g0
  have hb2 : 0 ≤ b ∧ b ≤ 1000 := by omega
  have k14 : 14 < 39 := by decide
  have k15 : 15 < 39 := by decide
  have k16 : 16 < 39 := by decide
  have k17 : 17 < 39 := by decide
  have R9 : R32 0 ∧ R32 40 := by unfold R32; omega
  have hSo : ∀ (m : AM) (K : Out → AM → Prop) (a : Int), 0 ≤ a ∧ a ≤ n → okR (somP (atmP t n 6) t n a) S n a 1 6 m K → Runs tb pg (d + 29) 245 [vr 300] (X (tS S a (-1)) m) K := fun m K a h1 h2 => soC_all hX (d + 18) m K S a t n (by omega) hT h1 (by rw [h13]; rfl) h2
  obtain ⟨P, hp⟩ : ∃ P, linP t n b = P := ⟨_, rfl⟩
  rw [← hb, hp] at hK hN
  have hq := hp.symm
  unfold linP at hq
  have hD : ∀ (k v e : Int) (c : LCs) (w x y : Int), P = .inr ((k, v, c), e) → valL (fcS S) c = w → x = (if k = 0 ∧ w ≠ 0 then v else 0) - (if k = 1 ∧ w ≠ 0 then v else 0) → y = (if k = 2 ∧ w ≠ 0 then v else 0) → a < e → e ≤ n → K (.inl none) (X (tS (upS (upS S 300 18 (S 300 18 + x)) 300 19 (upS S 300 18 (S 300 18 + x) 300 19 + y)) e (-1)) m) := by
    intro k v e c w x y z hw hx hy e0 e1
    have q := hK _ e z e0 e1
    rw [dM_of, dD_of, hw, ← hx, ← hy] at q
    exact q
  have hD0 : ∀ (k v e : Int) (c : LCs), P = .inr ((k, v, c), e) → valL (fcS S) c = 0 → a < e → e ≤ n → K (.inl none) (X (tS S e (-1)) m) := by
    intro k v e c z hw e0 e1
    have q := hK _ e z e0 e1
    rw [dM_of, dD_of, hw, if_neg (fun y => y.2 rfl), if_neg (fun y => y.2 rfl), if_neg (fun y => y.2 rfl), show (0 : Int) - 0 = 0 by omega, mdS_0] at q
    exact q
  repeat' (first | omega | (refine hN _ _ hq ?_ ?_ ?_ ?_) | (refine hN _ _ (hq.trans (linT_0 n6)) ?_ ?_ ?_ ?_) | (refine hN _ _ (hq.trans (linT_1 y6 yi n1)) ?_ ?_ ?_ ?_) | (refine hD0 _ _ _ _ (hq.trans (linT_2 y6 yi y1)) ((valL_v y2).trans (by omega)) ?_ ?_) | (refine hD _ _ _ _ 1 _ _ (hq.trans (linT_2 y6 yi y1)) ((valL_v y2).trans (by omega)) ?_ ?_ ?_ ?_) | (refine hD _ _ _ _ 1 _ _ (hq.trans (linT_3 y6 ni)) valL_0 ?_ ?_ ?_ ?_) | simp only [w_aload, w_ldc, w_call, w_if, cI, Int.reduceToNat, w_iconst, w_goto, w_fall, w_istore, w_iload, w_ifc, x_g1011_300, w_return, x_g1012_300, w_dupi, w_dupr, x_g1018_300, w_ineg, w_iadd, x_p1018_300, x_g1019_300, x_p1019_300, a246_0, a246_14, a246_28, a246_42, a246_43, a246_58, a246_75, a246_92, a246_96, a246_97, a246_110, a246_111, a246_124, a246_134, a246_135, a246_153, a246_154, R32, List.getElem?_cons_zero, List.getElem?_cons_succ, List.set_cons_zero, List.set_cons_succ, List.cons_append, List.nil_append, List.replicate_succ, List.replicate_zero, List.take_succ_cons, List.take_zero, List.drop_succ_cons, List.drop_zero, List.reverse_cons, List.reverse_nil, List.length_cons, List.length_nil, Option.toList, true_and, and_true, eq_self, ↓reduceIte, not_true_eq_false, not_false_eq_true, true_or, or_true, tS_11, tS_12, tS_8, tS_9, tS_10, tS_13, tS_15, tS_16, tS_17, tS_18, tS_19, tS_301, tS_303, tS_305, tS_306, tS_u11, tS_u12, tS_u13, tS_u18, tS_u19, tS_tS, skp_skp] | (rw [wdI_n n0] at hq; clear n0) | (have yl := wdG g0.2 y0 (strB_l _ (by decide)); rw [wdI_y y0] at hq; clear y0) | (refine q_223 (k := 14) hX k14 hT ha1 (fun b9 e9 n0 => ?_) (fun b9 b8 e9 y0 e8 => ?_) <;> (rw [← hb] at e9; have e7 := e9.symm; clear e9; subst e7)) | (have q0 := e8; subst e8) | with_reducible refine q_224n ?_ | with_reducible refine q_223b (k := 15) hX k15 hT hbb hb2 (fun n0 => ?_) (fun y0 => ?_) | with_reducible refine q_223b (k := 16) hX k16 hT hbb hb2 (fun n0 => ?_) (fun y0 => ?_) | with_reducible refine q_226 hT ?_ R9 (fun v6 b6 f6 n6 z6 z5 z4 z3 z2 z1 => ?_) (fun v6 b6 y6 => ?_) | (have w6 := numP_rg y6; have w7 := skp_n (t := t) (n := n) (a := b6) w6.2.2; (with_reducible refine q_223c (k := 17) hX k17 hT ?_ (fun ni => ?_) (fun yi => ?_))) | (have w8 := wd_n w7.2 yi; (with_reducible refine hSo _ _ _ ?_ (okR_i (fun c1 e1 v1 y1 y2 x3 x4 x5 x6 x7 => ?_) (fun e9 b9 v9 n1 x2 x3 x4 x5 x6 x7 => ?_)))) | with_reducible refine And.intro ?_ ?_ | with_reducible intro _)
  all_goals (try (first | omega | (exfalso; assumption) | (have w := x5 rfl; omega) | (have w := x4 rfl; omega) | grind))
theorem q_236l (hX : tb.2.1 = strB) (hT : TX t n S) (ha : 0 ≤ a ∧ a ≤ n) (h13 : S 300 13 = 0) (hN : ∀ x y e b k, rdP (lawP t n) t n 12 [] a = .inl b → 0 ≤ b → b ≤ 1000 → K (.inl (some (vi k))) (X (tS (mdS S x y) e b) m)) (hK : ∀ L e, rdP (lawP t n) t n 12 [] a = .inr (L, e) → K (.inl (some (vi (L.length : Int)))) (X (tS (mdS S (totM (fcS S) L) (totD (fcS S) L)) e (-1)) m)) : Runs tb pg (d + 31) 236 [vr 300, vi 1] (X (tS S a (-1)) m) K := by
  have hn := hT.1
  have hn2 := hT.2.1
  have ha1 : 0 ≤ a ∧ a ≤ 1000 := by omega
  have g0 := skp_n (t := t) (n := n) (a := a) ha.2
  obtain ⟨b, hb⟩ : ∃ b, b = skp t n a := ⟨_, rfl⟩
  rw [← hb] at g0
  have R59 : R32 59 := by unfold R32; omega
  obtain ⟨P, hp⟩ : ∃ P, P = rdP (lawP t n) t n 12 [] a := ⟨_, rfl⟩
  rw [← hp] at hK hN
  have hp1 : b < n → rdN (lawP t n) t n 12 [] b = P := fun z => by rw [hp]; unfold rdP; rw [← hb, if_pos z]
  have hp0 : ¬ b < n → P = .inr ([], b) := fun z => by rw [hp]; unfold rdP; rw [← hb, if_neg z]
  have hE0 : ∀ U k, K (.inl (some (vi k))) (X U m) → At tb (d + 30) 236 K 23 [vr 300, vi 1, vi 0, vi k] [] (X U m) := by
    intro U k hk
    rw [a236_23]
    repeat' (first | omega | with_reducible refine hk | simp only [w_aload, w_call, x_g1011_300, x_g1010_300, w_ifc, cI, Int.reduceToNat, w_iconst, w_goto, w_fall, w_istore, w_iload, w_if, x_g1012_300, w_iinc, lgB, Nat.reduceSub, w_dupi, w_dupr, w_iadd, x_p1011_300, w_ireturn, a236_0, a236_19, a236_20, a236_49, a236_51, a236_65, a236_76, a236_80, a236_106, a236_111, a236_133, a236_144, R32, List.getElem?_cons_zero, List.getElem?_cons_succ, List.set_cons_zero, List.set_cons_succ, List.cons_append, List.nil_append, List.replicate_succ, List.replicate_zero, List.take_succ_cons, List.take_zero, List.drop_succ_cons, List.drop_zero, List.reverse_cons, List.reverse_nil, List.length_cons, List.length_nil, Option.toList, true_and, and_true, eq_self, ↓reduceIte, not_true_eq_false, not_false_eq_true, true_or, or_true, tS_11, tS_12, tS_8, tS_9, tS_10, tS_13, tS_15, tS_16, tS_17, tS_18, tS_19, tS_301, tS_303, tS_305, tS_306, tS_u11, tS_u12, tS_u13, tS_u18, tS_u19, tS_tS, skp_skp] | with_reducible refine And.intro ?_ ?_ | with_reducible intro _)
    all_goals (try (first | omega | (exfalso; assumption) | skip))
  have hE1 : ∀ T a f k, 0 ≤ f → f ≤ 1000 → K (.inl (some (vi k))) (X (tS T a f) m) → At tb (d + 30) 236 K 23 [vr 300, vi 1, vi 1, vi k] [] (X (tS T a f) m) := by
    intro T a f k hf0 hf1 hk
    rw [a236_23]
    repeat' (first | omega | with_reducible refine hk | simp only [w_aload, w_call, x_g1011_300, x_g1010_300, w_ifc, cI, Int.reduceToNat, w_iconst, w_goto, w_fall, w_istore, w_iload, w_if, x_g1012_300, w_iinc, lgB, Nat.reduceSub, w_dupi, w_dupr, w_iadd, x_p1011_300, w_ireturn, a236_0, a236_19, a236_20, a236_49, a236_51, a236_65, a236_76, a236_80, a236_106, a236_111, a236_133, a236_144, R32, List.getElem?_cons_zero, List.getElem?_cons_succ, List.set_cons_zero, List.set_cons_succ, List.cons_append, List.nil_append, List.replicate_succ, List.replicate_zero, List.take_succ_cons, List.take_zero, List.drop_succ_cons, List.drop_zero, List.reverse_cons, List.reverse_nil, List.length_cons, List.length_nil, Option.toList, true_and, and_true, eq_self, ↓reduceIte, not_true_eq_false, not_false_eq_true, true_or, or_true, tS_11, tS_12, tS_8, tS_9, tS_10, tS_13, tS_15, tS_16, tS_17, tS_18, tS_19, tS_301, tS_303, tS_305, tS_306, tS_u11, tS_u12, tS_u13, tS_u18, tS_u19, tS_tS, skp_skp] | with_reducible refine And.intro ?_ ?_ | with_reducible intro _)
    all_goals (try (first | omega | (exfalso; assumption) | skip))
  have hL : b < n → At tb (d + 30) 236 K 23 [vr 300, vi 1, vi 1, vi 0] [] (X (tS S b (-1)) m) := by
    intro hbn
    have hp2 := hp1 hbn
    have hL23 : (fun i : Int => ∀ (L : List LL) (U : Nat → Int → Int) (c : Int), (U = mdS S (totM (fcS S) L) (totD (fcS S) L)) → (0 ≤ c ∧ c ≤ n) → ((L.length : Int) = i) → (rdN (lawP t n) t n (12 - i).toNat L c = P) → At tb (d + 30) 236 K 23 [vr 300, vi 1, vi 1, vi i] [] (X (tS U c (-1)) m)) 0 := by
      refine loopZ (fun i : Int => ∀ (L : List LL) (U : Nat → Int → Int) (c : Int), (U = mdS S (totM (fcS S) L) (totD (fcS S) L)) → (0 ≤ c ∧ c ≤ n) → ((L.length : Int) = i) → (rdN (lawP t n) t n (12 - i).toNat L c = P) → At tb (d + 30) 236 K 23 [vr 300, vi 1, vi 1, vi i] [] (X (tS U c (-1)) m)) (12) (by omega) ?_ ?_
      · intro i h0 h1 h9 L U c hU hc hl hrd
        have hTU : TX t n U := by rw [hU]; exact hT
        have fU : fcS U = fcS S := by rw [hU]; rfl
        have hU13 : U 300 13 = 0 := by rw [hU]; exact h13
        have u10 : U 300 10 = n := hTU.1
        have g1 := skp_n (t := t) (n := n) (a := c) hc.2
        have c1 : 0 ≤ c ∧ c ≤ 1000 := by omega
        have c2 : 0 ≤ skp t n c ∧ skp t n c ≤ n := by omega
        have hUN : ∀ x y e b k, P = .inl b → 0 ≤ b → b ≤ 1000 → K (.inl (some (vi k))) (X (tS (mdS U x y) e b) m) := fun x y e b k z1 z2 z3 => by rw [hU, mdS_mdS]; exact hN _ _ _ _ _ z1 z2 z3
        have hUN0 : ∀ e b k, P = .inl b → 0 ≤ b → b ≤ 1000 → K (.inl (some (vi k))) (X (tS U e b) m) := fun e b k z1 z2 z3 => by have w := hUN 0 0 e b k z1 z2 z3; rw [mdS_0] at w; exact w
        rw [a236_23]
        repeat' (first | omega | with_reducible refine h9 (L ++ [l7]) _ _ ?_ ?_ ?_ ?_ | with_reducible refine hE0 _ _ ?_ | with_reducible refine hE1 _ _ _ _ ?_ ?_ ?_ | simp only [w_aload, w_call, x_g1011_300, x_g1010_300, w_ifc, cI, Int.reduceToNat, w_iconst, w_goto, w_fall, w_istore, w_iload, w_if, x_g1012_300, w_iinc, lgB, Nat.reduceSub, w_dupi, w_dupr, w_iadd, x_p1011_300, w_ireturn, a236_0, a236_19, a236_20, a236_49, a236_51, a236_65, a236_76, a236_80, a236_106, a236_111, a236_133, a236_144, R32, List.getElem?_cons_zero, List.getElem?_cons_succ, List.set_cons_zero, List.set_cons_succ, List.cons_append, List.nil_append, List.replicate_succ, List.replicate_zero, List.take_succ_cons, List.take_zero, List.drop_succ_cons, List.drop_zero, List.reverse_cons, List.reverse_nil, List.length_cons, List.length_nil, Option.toList, true_and, and_true, eq_self, ↓reduceIte, not_true_eq_false, not_false_eq_true, true_or, or_true, tS_11, tS_12, tS_8, tS_9, tS_10, tS_13, tS_15, tS_16, tS_17, tS_18, tS_19, tS_301, tS_303, tS_305, tS_306, tS_u11, tS_u12, tS_u13, tS_u18, tS_u19, tS_tS, skp_skp] | (refine q_221 hTU c1 (fun b9 e9 => ?_); subst e9) | (refine q_246 (S := U) hX hTU c2 hU13 (fun e7 b7 z1 z2 z3 z4 z5 => ?_) (fun l7 e7 z1 z2 z3 => ?_) <;> rw [skp_skp] at z1) | (have q0 := z4; (with_reducible refine q_221w hTU ?_ ?_)) | (rw [fU]; have hmU : mdS U (dM (fcS S) l7) (dD (fcS S) l7) = mdS S (totM (fcS S) (L ++ [l7])) (totD (fcS S) (L ++ [l7])) := (by rw [hU, mdS_mdS, totM_s, totD_s]); have q0 := l7; obtain ⟨V, hV⟩ : ∃ V, V = mdS U (dM (fcS S) l7) (dD (fcS S) l7) := ⟨_, rfl⟩; rw [← hV]; rw [hmU] at hV; have hTV : TX t n V := (by rw [hV]; exact hT); have hVN : ∀ e b k, P = .inl b → 0 ≤ b → b ≤ 1000 → K (.inl (some (vi k))) (X (tS V e b) m) := (fun e b k y1 y2 y3 => (by rw [hV]; exact hN _ _ _ _ _ y1 y2 y3)); have v10 : V 300 10 = n := hTV.1; have g8 := skp_n (t := t) (n := n) (a := e7) z3; have ce7 : 0 ≤ e7 ∧ e7 ≤ 1000 := (by omega)) | (have q0 := hTV; (with_reducible refine q_221 (S := V) hTV ce7 (fun b8 e8 => ?_)); have kb8 : 0 ≤ b8 ∧ b8 ≤ 1000 := (by omega)) | (have q0 := e8; (with_reducible refine q_222b (S := V) hTV (by rw [e8, skp_skp]) kb8 R59 (fun y6 => ?_) (fun y6 => ?_))) | with_reducible refine q_224n ?_ | with_reducible refine And.intro ?_ ?_ | with_reducible intro _)
        all_goals (try (first | omega | contradiction | (exact hUN0 _ _ _ (rdM_f h1 (lawP_0 z1) hrd) z4 z5) | (subst e8; first | (have w := hK _ _ (rdM_e h1 (lawP_1 z1) hrd (by omega)); rw [← hV, List.length_append, List.length_singleton, show (((L.length + 1 : Nat)) : Int) = i + 1 by omega] at w; exact w) | exact rdM_c h1 (lawP_1 z1) hrd (by omega) y6.2 | exact hVN _ _ _ (rdM_w h1 (lawP_1 z1) hrd (by omega) (fun w => y6 ⟨by omega, w⟩)) (by omega) (by omega) | (have w := y6.1; omega)) | exact hV | (rw [List.length_append, List.length_singleton]; omega)))
      · intro L U c hU hc hl hrd
        have hTU : TX t n U := by rw [hU]; exact hT
        have u10 : U 300 10 = n := hTU.1
        have c1 : 0 ≤ c ∧ c ≤ 1000 := by omega
        have g1 := skp_n (t := t) (n := n) (a := c) hc.2
        have c2 : 0 ≤ skp t n c ∧ skp t n c ≤ 1000 := by omega
        rw [a236_23]
        repeat' (first | omega | with_reducible refine hE0 _ _ ?_ | with_reducible refine hE1 _ _ _ _ ?_ ?_ ?_ | simp only [w_aload, w_call, x_g1011_300, x_g1010_300, w_ifc, cI, Int.reduceToNat, w_iconst, w_goto, w_fall, w_istore, w_iload, w_if, x_g1012_300, w_iinc, lgB, Nat.reduceSub, w_dupi, w_dupr, w_iadd, x_p1011_300, w_ireturn, a236_0, a236_19, a236_20, a236_49, a236_51, a236_65, a236_76, a236_80, a236_106, a236_111, a236_133, a236_144, R32, List.getElem?_cons_zero, List.getElem?_cons_succ, List.set_cons_zero, List.set_cons_succ, List.cons_append, List.nil_append, List.replicate_succ, List.replicate_zero, List.take_succ_cons, List.take_zero, List.drop_succ_cons, List.drop_zero, List.reverse_cons, List.reverse_nil, List.length_cons, List.length_nil, Option.toList, true_and, and_true, eq_self, ↓reduceIte, not_true_eq_false, not_false_eq_true, true_or, or_true, tS_11, tS_12, tS_8, tS_9, tS_10, tS_13, tS_15, tS_16, tS_17, tS_18, tS_19, tS_301, tS_303, tS_305, tS_306, tS_u11, tS_u12, tS_u13, tS_u18, tS_u19, tS_tS, skp_skp] | (refine q_221 hTU c1 (fun b9 e9 => ?_); subst e9) | (refine q_221 hTU c2 (fun b9 e9 => ?_); rw [skp_skp] at e9; subst e9) | with_reducible refine q_224n ?_ | with_reducible refine And.intro ?_ ?_ | with_reducible intro _)
        all_goals (try (first | omega | contradiction | (rw [hU]; exact hN _ _ _ _ _ (hrd.symm.trans rfl) (by omega) (by omega))))
    exact hL23 [] S b (by rw [show totM (fcS S) [] = 0 from rfl, show totD (fcS S) [] = 0 from rfl, mdS_0]) (by omega) rfl hp2
  refine Runs.of (al := [vr 300, vi 1]) (n := 2) ⟨300, _, _, rfl, xo_300⟩ rfl rfl trivial ?_
  repeat' (first | omega | with_reducible refine hL ?_ | with_reducible refine hE0 _ _ ?_ | simp only [w_aload, w_call, x_g1011_300, x_g1010_300, w_ifc, cI, Int.reduceToNat, w_iconst, w_goto, w_fall, w_istore, w_iload, w_if, x_g1012_300, w_iinc, lgB, Nat.reduceSub, w_dupi, w_dupr, w_iadd, x_p1011_300, w_ireturn, a236_0, a236_19, a236_20, a236_49, a236_51, a236_65, a236_76, a236_80, a236_106, a236_111, a236_133, a236_144, R32, List.getElem?_cons_zero, List.getElem?_cons_succ, List.set_cons_zero, List.set_cons_succ, List.cons_append, List.nil_append, List.replicate_succ, List.replicate_zero, List.take_succ_cons, List.take_zero, List.drop_succ_cons, List.drop_zero, List.reverse_cons, List.reverse_nil, List.length_cons, List.length_nil, Option.toList, true_and, and_true, eq_self, ↓reduceIte, not_true_eq_false, not_false_eq_true, true_or, or_true, tS_11, tS_12, tS_8, tS_9, tS_10, tS_13, tS_15, tS_16, tS_17, tS_18, tS_19, tS_301, tS_303, tS_305, tS_306, tS_u11, tS_u12, tS_u13, tS_u18, tS_u19, tS_tS, skp_skp] | (refine q_221 hT ha1 (fun b9 e9 => ?_); rw [← hb] at e9; have e8 := e9.symm; clear e9; subst e8) | with_reducible refine And.intro ?_ ?_ | with_reducible intro _)
  all_goals (try (first | omega | (exfalso; assumption) | (have w := hK _ _ (hp0 (by omega)); rw [show totM (fcS S) [] = 0 from rfl, show totD (fcS S) [] = 0 from rfl, mdS_0] at w; exact w)))
end Ref43
