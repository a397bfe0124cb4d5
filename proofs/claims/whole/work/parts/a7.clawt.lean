/-! ===== THE CLASS: a law's text ===== -/
/-- the codes put so far -/
def CD (S : Nat → Int → Int) (L : List Int) : Prop := S 57 5 = L.length ∧ ∀ (j : Nat) (x : Int), L[j]? = some x → S 63 j = x
/-- only the codes are other -/
def PC (S T : Nat → Int → Int) : Prop := ∀ a, a ≠ 57 → a ≠ 63 → T a = S a
/-- only the codes and the words are other -/
def F58 (S T : Nat → Int → Int) : Prop := ∀ a, a ≠ 57 → a ≠ 58 → a ≠ 63 → T a = S a
section cd
variable {S T U : Nat → Int → Int} {L : List Int} {c b n f k v a : Int} {t : Int → Int}
theorem F58_r : F58 S S := fun _ _ _ _ => rfl
theorem F58_t (h : F58 S T) (g : F58 T U) : F58 S U := fun a a1 a2 a3 => (g a a1 a2 a3).trans (h a a1 a2 a3)
theorem F58_x (h : FxE 58 S T) : F58 S T := fun a _ a2 _ => h a a2
theorem F58_p (h : PC S T) : F58 S T := fun a a1 _ a3 => h a a1 a3
theorem CD_x (h : FxE 58 S T) (hC : CD S L) : CD T L := by
  unfold CD
  rw [h 57 (by decide), h 63 (by decide)]
  exact hC
theorem CD_put (hC : CD S L) : CD (upS (upS S 63 (L.length : Int) c) 57 5 ((L.length : Int) + 1)) (L ++ [c]) := by
  refine ⟨?_, fun j x hx => ?_⟩
  · rw [upS_at, if_pos ⟨rfl, rfl⟩, List.length_append]; rfl
  · rw [upS_at, if_neg (by omega), upS_at]
    by_cases y : j < L.length
    · rw [if_neg (by omega)]
      rw [List.getElem?_append_left y] at hx
      exact hC.2 j x hx
    · rw [List.getElem?_append_right (by omega)] at hx
      by_cases z : j - L.length = 0
      · rw [z] at hx
        rw [if_pos ⟨rfl, by omega⟩]
        exact Option.some.inj hx
      · rw [show j - L.length = (j - L.length - 1) + 1 by omega] at hx
        cases hx
theorem TPE_58 (h : F58 S T) (hP : TPE S t n) : TPE T t n := TPE_f hP (h 1 (by decide) (by decide) (by decide))
theorem tk_skp (h : TKc t n b f k v) (hb : 0 ≤ b ∧ b ≤ n) : skp t n b = b := by
  refine scn_n fun z => ?_
  rcases h with ⟨h1, h2, h3, h4⟩ | ⟨h1, h2, h3, h4, h5⟩ | ⟨h1, h2, h3, h4, h5⟩ | ⟨h1, h2, h3, h4, h5, h6, h7⟩
  · omega
  · unfold isLt at h2; omega
  · unfold isDg at h2; omega
  · omega
/-- a figure stands there -/
def dgP (t : Int → Int) (n b : Int) : Prop := b < n ∧ 48 ≤ t b ∧ t b ≤ 57
theorem wd_nd {l : List Int} (hl : 0 < l.length) (h : wdP t n b l) : ¬ dgP t n b := fun z => by
  have e : ltE t n b = b := ltE_n (fun y => by have h1 := z.2; have h2 : 97 ≤ t b ∧ t b ≤ 122 := y.2; omega)
  have := h.1
  omega
theorem ok_dg {lo hi : Int} (h : okF t n lo hi b) : dgP t n b := by
  have h1 := h.1.1
  by_cases z : b < n ∧ 48 ≤ t b ∧ t b ≤ 57
  · exact z
  · have e : fgE t n b = b := scn_n (c := fun j => (48 ≤ t j ∧ t j ≤ 57) ∧ j - b ≤ 3) (fun y => z ⟨y.1, y.2.1⟩)
    omega
end cd
/-- the sum goes on: i parts are read, their codes are c -/
noncomputable def smG (t : Int → Int) (n i : Int) (c : List Int) (a : Int) : PR LCs := bnd (parP t n (skp t n a)) fun c2 e2 => morP (qSg t n 43) (fun e => parP t n (skp t n e)) 2003 t n (401 - i).toNat (if i = 0 then c2 else c ++ c2 ++ [2003]) e2
section sum
variable {c c2 : List Int} {n i a b e v : Int} {t : Int → Int}
theorem smG_0 : smG t n 0 [] a = sumP t n a := rfl
theorem smG_f (h : parP t n (skp t n a) = .inl b) : smG t n i c a = .inl b := by
  unfold smG
  rw [h]
  rfl
theorem smG_n (hi : i < 401) (h : parP t n (skp t n a) = .inr (c2, e)) (hs : ¬ sgP t n (skp t n e) 43) : smG t n i c a = .inr (if i = 0 then c2 else c ++ c2 ++ [2003], skp t n e) := by
  unfold smG
  rw [h, show (401 - i).toNat = (401 - (i + 1)).toNat + 1 by omega]
  show morP _ _ _ _ _ _ _ _ = _
  unfold morP
  rw [show qSg t n 43 (skp t n e) = none from iteP_n hs]
theorem smG_y (hi : i < 401) (h0 : 0 ≤ i) (h : parP t n (skp t n a) = .inr (c2, e)) (hs : sgP t n (skp t n e) 43) : smG t n i c a = smG t n (i + 1) (if i = 0 then c2 else c ++ c2 ++ [2003]) (skp t n e + 1) := by
  unfold smG
  simp only [show ¬ (i + 1 = 0) by omega, if_false]
  rw [h, show (401 - i).toNat = (401 - (i + 1)).toNat + 1 by omega]
  show morP _ _ _ _ _ _ _ _ = _
  rw [morP, show qSg t n 43 (skp t n e) = some (skp t n e + 1) from iteP_y hs]
end sum
theorem sg_ok : (¬ isLt 43 ∧ ¬ isDg 43 ∧ (43 : Int) ≠ 32) ∧ (¬ isLt 60 ∧ ¬ isDg 60 ∧ (60 : Int) ≠ 32) ∧ (¬ isLt 62 ∧ ¬ isDg 62 ∧ (62 : Int) ≠ 32) ∧ (¬ isLt 40 ∧ ¬ isDg 40 ∧ (40 : Int) ≠ 32) ∧ (¬ isLt 41 ∧ ¬ isDg 41 ∧ (41 : Int) ≠ 32) ∧ (¬ isLt 59 ∧ ¬ isDg 59 ∧ (59 : Int) ≠ 32) := by
  unfold isLt isDg
  omega
theorem tk_gt {S Z : Nat → Int → Int} {q : Nat} {t : Int → Int} {n b w : Int} (h : TKw Z S q t n b w) (hb : b < n) : b < S q 3 ∧ S q 3 ≤ n := by
  have lr := ltE_rg (t := t) (n := n) (a := b)
  have dr := dgE_rg (t := t) (n := n) (b := b)
  have f := tk_f h.2.2.2.2.2.2 h.1
  refine ⟨?_, f.2⟩
  rcases h.2.2.2.2.2.2 with ⟨h1, h2, h3, h4⟩ | ⟨h1, h2, h3, h4, h5⟩ | ⟨h1, h2, h3, h4, h5⟩ | ⟨h1, h2, h3, h4, h5, h6, h7⟩
  · omega
  · by_cases y : ltE t n b = b
    · exact absurd (show 97 ≤ t b ∧ t b ≤ 122 from h2) (by have g := (scn_rg (c := fun j => 97 ≤ t j ∧ t j ≤ 122) (n := n) (i := b)).2.2.2; rw [show scn (fun j => 97 ≤ t j ∧ t j ≤ 122) n b = b from y] at g; exact g h1)
    · omega
  · by_cases y : dgE t n b = b
    · have g := dr.2.2.2 (by omega); rw [y] at g; exact absurd h2 g
    · omega
  · omega
theorem par_lt {t : Int → Int} {n b e : Int} {c : List Int} (h : parP t n b = .inr (c, e)) : b < n := by
  by_cases z : b < n
  · exact z
  · exfalso
    have nw : ∀ k, k < 39 → ¬ wdP t n b (strB k) := fun k hk y => by
      have e := ltE_n (t := t) (n := n) (i := b) (fun y => z y.1)
      have := y.1
      have := strB_l k hk
      omega
    unfold parP at h
    rw [iteP_n (fun y => z y.1), wdI_n (nw 22 (by decide)), wdI_n (nw 0 (by decide)), wdI_n (nw 1 (by decide)), wdI_n (nw 3 (by decide)), wdI_n (nw 23 (by decide)), wdI_n (nw 24 (by decide)), wdI_n (nw 11 (by decide))] at h
    cases h
theorem par_num {S Z : Nat → Int → Int} {q : Nat} {t : Int → Int} {n b w : Int} (h : TKw Z S q t n b w) (ho : okF t n 0 999 b) : parP t n b = .inr ([S q 5], S q 3) ∧ 0 ≤ S q 5 ∧ S q 5 ≤ 999 := by
  have e := nm_f h (by decide) ho
  have sk := tk_skp h.2.2.2.2.2.2 h.1
  refine ⟨?_, ?_⟩
  · unfold parP
    rw [iteP_y (show b < n ∧ 48 ≤ t b ∧ t b ≤ 57 from ok_dg ho), numP_1 (by rw [sk]; exact ho), sk, e.1, e.2]
    rfl
  · rw [e.1]; exact ho.2
theorem par_nn {S Z : Nat → Int → Int} {q : Nat} {t : Int → Int} {n b w : Int} (h : TKw Z S q t n b w) (ho : ¬ okF t n 0 999 b) (hd : dgP t n b) : parP t n b = .inl b := by
  have sk := tk_skp h.2.2.2.2.2.2 h.1
  unfold parP
  rw [iteP_y (show b < n ∧ 48 ≤ t b ∧ t b ≤ 57 from hd), numP_0 (by rw [sk]; exact ho), sk]
  rfl
section Law3
variable {tb : Tab} {d : Nat} {m : AM} {K : Out → AM → Prop} {S : Nat → Int → Int} {L : List Int}
theorem k47_0 : pg.1 47 0 = [.aload 0, .getfield 305, .aload 0, .getfield 304, .arraylength, .if_icmp .ge 32, .aload 0, .getfield 304, .aload 0, .getfield 305, .iload 1, .iastore, .aload 0, .dup, .getfield 305, .bipush 1, .iadd, .putfield 305, .jsr 32] := rfl
theorem a47_0 {tb : Tab} {d : Nat} {K : Out → AM → Prop} {ls st : List AV} {m : AM} : At tb d 47 K 0 ls st m = wpB tb (pg.2.1 47) (Runs tb pg d) K (At tb d 47 K) [.aload 0, .getfield 305, .aload 0, .getfield 304, .arraylength, .if_icmp .ge 32, .aload 0, .getfield 304, .aload 0, .getfield 305, .iload 1, .iastore, .aload 0, .dup, .getfield 305, .bipush 1, .iadd, .putfield 305, .jsr 32] ls st m := At.eq k47_0
theorem k47_32 : pg.1 47 32 = [.return_] := rfl
theorem a47_32 {tb : Tab} {d : Nat} {K : Out → AM → Prop} {ls st : List AV} {m : AM} : At tb d 47 K 32 ls st m = wpB tb (pg.2.1 47) (Runs tb pg d) K (At tb d 47 K) [.return_] ls st m := At.eq k47_32
theorem w_47 {c : Int} (hC : CD S L) (hL : (L.length : Int) < 400) (hc : -1 ≤ c ∧ c ≤ 3000) (hK : ∀ T, CD T (L ++ [c]) → PC S T → K (.inl none) (X T m)) : Runs tb pg (d + 1) 47 [vr 57, vi c] (X S m) K := by
  refine Runs.of (al := [vr 57, vi c]) (n := 0) ⟨57, _, _, rfl, xo_57⟩ rfl rfl trivial ?_
  have e5 := hC.1
  have l63 : (lenX 63 : Int) = 400 := rfl
  repeat' (first | omega | (exact hK _ (CD_put hC) (fun a a1 a3 => (up_lit a1).trans (up_lit a3))) | simp only [w_aload, x_g305_57, x_g304_57, x_alen, w_alens, w_alenw, w_alenx, w_ifc, cI, Int.reduceToNat, w_iload, x_iast, w_dupi, w_dupr, w_iconst, w_iadd, x_p305_57, w_fall, w_return, isA_w1, isA_w2, isA_w3, isA_w4, isA_w5, isA_w6, isA_w7, isA_w8, isA_w10, isA_w11, isA_w12, isA_w14, isA_w15, isA_w16, len_w1, len_w2, len_w3, len_w4, len_w5, len_w6, len_w7, len_w8, len_w10, len_w11, len_w12, len_w14, len_w15, len_w16, Int.cast_ofNat_Int, a47_0, a47_32, R32, List.getElem?_cons_zero, List.getElem?_cons_succ, List.set_cons_zero, List.set_cons_succ, List.cons_append, List.nil_append, List.replicate_succ, List.replicate_zero, List.take_succ_cons, List.take_zero, List.drop_succ_cons, List.drop_zero, List.reverse_cons, List.reverse_nil, List.length_cons, List.length_nil, Option.toList, true_and, and_true, eq_self, ↓reduceIte, not_true_eq_false, not_false_eq_true, true_or, or_true, upS_at, Int.reduceEq, Nat.reduceEqDiff, and_self, and_true, true_and, and_false, false_and, if_true, if_false, reduceIte, Int.reduceToNat, x_alen isA_63 (by decide), x_iast isA_63, l63] | (rw [e5]) | with_reducible refine And.intro ?_ ?_ | with_reducible intro _)
  all_goals (try (first | omega | (exfalso; assumption) | skip))
theorem k46_0 : pg.1 46 0 = [.aload 0, .getfield 300, .ldc 22, .invokeinterface 97 2, .ifCond .eq 16, .bipush 0, .goto 114] := rfl
theorem a46_0 {tb : Tab} {d : Nat} {K : Out → AM → Prop} {ls st : List AV} {m : AM} : At tb d 46 K 0 ls st m = wpB tb (pg.2.1 46) (Runs tb pg d) K (At tb d 46 K) [.aload 0, .getfield 300, .ldc 22, .invokeinterface 97 2, .ifCond .eq 16, .bipush 0, .goto 114] ls st m := At.eq k46_0
theorem k46_16 : pg.1 46 16 = [.aload 0, .getfield 300, .ldc 0, .invokeinterface 97 2, .ifCond .eq 32, .bipush 1, .goto 114] := rfl
theorem a46_16 {tb : Tab} {d : Nat} {K : Out → AM → Prop} {ls st : List AV} {m : AM} : At tb d 46 K 16 ls st m = wpB tb (pg.2.1 46) (Runs tb pg d) K (At tb d 46 K) [.aload 0, .getfield 300, .ldc 0, .invokeinterface 97 2, .ifCond .eq 32, .bipush 1, .goto 114] ls st m := At.eq k46_16
theorem k46_32 : pg.1 46 32 = [.aload 0, .getfield 300, .ldc 1, .invokeinterface 97 2, .ifCond .eq 48, .bipush 2, .goto 114] := rfl
theorem a46_32 {tb : Tab} {d : Nat} {K : Out → AM → Prop} {ls st : List AV} {m : AM} : At tb d 46 K 32 ls st m = wpB tb (pg.2.1 46) (Runs tb pg d) K (At tb d 46 K) [.aload 0, .getfield 300, .ldc 1, .invokeinterface 97 2, .ifCond .eq 48, .bipush 2, .goto 114] ls st m := At.eq k46_32
theorem k46_48 : pg.1 46 48 = [.aload 0, .getfield 300, .ldc 3, .invokeinterface 97 2, .ifCond .eq 64, .bipush 3, .goto 114] := rfl
theorem a46_48 {tb : Tab} {d : Nat} {K : Out → AM → Prop} {ls st : List AV} {m : AM} : At tb d 46 K 48 ls st m = wpB tb (pg.2.1 46) (Runs tb pg d) K (At tb d 46 K) [.aload 0, .getfield 300, .ldc 3, .invokeinterface 97 2, .ifCond .eq 64, .bipush 3, .goto 114] ls st m := At.eq k46_48
theorem k46_64 : pg.1 46 64 = [.aload 0, .getfield 300, .ldc 23, .invokeinterface 97 2, .ifCond .eq 80, .bipush 4, .goto 114] := rfl
theorem a46_64 {tb : Tab} {d : Nat} {K : Out → AM → Prop} {ls st : List AV} {m : AM} : At tb d 46 K 64 ls st m = wpB tb (pg.2.1 46) (Runs tb pg d) K (At tb d 46 K) [.aload 0, .getfield 300, .ldc 23, .invokeinterface 97 2, .ifCond .eq 80, .bipush 4, .goto 114] ls st m := At.eq k46_64
theorem k46_80 : pg.1 46 80 = [.aload 0, .getfield 300, .ldc 24, .invokeinterface 97 2, .ifCond .eq 96, .bipush 5, .goto 114] := rfl
theorem a46_80 {tb : Tab} {d : Nat} {K : Out → AM → Prop} {ls st : List AV} {m : AM} : At tb d 46 K 80 ls st m = wpB tb (pg.2.1 46) (Runs tb pg d) K (At tb d 46 K) [.aload 0, .getfield 300, .ldc 24, .invokeinterface 97 2, .ifCond .eq 96, .bipush 5, .goto 114] ls st m := At.eq k46_80
theorem k46_96 : pg.1 46 96 = [.aload 0, .getfield 300, .ldc 11, .invokeinterface 97 2, .ifCond .eq 113, .bipush 6, .goto 114] := rfl
theorem a46_96 {tb : Tab} {d : Nat} {K : Out → AM → Prop} {ls st : List AV} {m : AM} : At tb d 46 K 96 ls st m = wpB tb (pg.2.1 46) (Runs tb pg d) K (At tb d 46 K) [.aload 0, .getfield 300, .ldc 11, .invokeinterface 97 2, .ifCond .eq 113, .bipush 6, .goto 114] ls st m := At.eq k46_96
theorem k46_113 : pg.1 46 113 = [.bipush (-1), .jsr 114] := rfl
theorem a46_113 {tb : Tab} {d : Nat} {K : Out → AM → Prop} {ls st : List AV} {m : AM} : At tb d 46 K 113 ls st m = wpB tb (pg.2.1 46) (Runs tb pg d) K (At tb d 46 K) [.bipush (-1), .jsr 114] ls st m := At.eq k46_113
theorem k46_114 : pg.1 46 114 = [.istore 1, .iload 1, .bipush (-1), .if_icmp .ne 124, .bipush (-1), .goto 129] := rfl
theorem a46_114 {tb : Tab} {d : Nat} {K : Out → AM → Prop} {ls st : List AV} {m : AM} : At tb d 46 K 114 ls st m = wpB tb (pg.2.1 46) (Runs tb pg d) K (At tb d 46 K) [.istore 1, .iload 1, .bipush (-1), .if_icmp .ne 124, .bipush (-1), .goto 129] ls st m := At.eq k46_114
theorem k46_124 : pg.1 46 124 = [.bipush 1000, .iload 1, .iadd, .jsr 129] := rfl
theorem a46_124 {tb : Tab} {d : Nat} {K : Out → AM → Prop} {ls st : List AV} {m : AM} : At tb d 46 K 124 ls st m = wpB tb (pg.2.1 46) (Runs tb pg d) K (At tb d 46 K) [.bipush 1000, .iload 1, .iadd, .jsr 129] ls st m := At.eq k46_124
theorem k46_129 : pg.1 46 129 = [.ireturn] := rfl
theorem a46_129 {tb : Tab} {d : Nat} {K : Out → AM → Prop} {ls st : List AV} {m : AM} : At tb d 46 K 129 ls st m = wpB tb (pg.2.1 46) (Runs tb pg d) K (At tb d 46 K) [.ireturn] ls st m := At.eq k46_129
theorem w_46 {n b : Int} {t : Int → Int} (hP : TPE S t n) (hT : TK0 S 58 t n b (-1)) (hX : tb.2.1 = strB) (hK : ∀ v, (v = -1 ∧ (¬ dgP t n b → parP t n b = .inl b)) ∨ (1000 ≤ v ∧ v ≤ 1006 ∧ parP t n b = .inr ([v], S 58 3)) → K (.inl (some (vi v))) (X S m)) : Runs tb pg (d + 6) 46 [vr 57] (X S m) K := by
  refine Runs.of (al := [vr 57]) (n := 1) ⟨57, _, _, rfl, xo_57⟩ rfl rfl trivial ?_
  repeat' (first | omega | (have y22 : wdP t n b (strB 22) := (by rcases x22 with ⟨xa, xb⟩ | ⟨xa, xb⟩; exact xb; exfalso; omega); exact hK 1000 (Or.inr ⟨by decide, by decide, by rw [wd_f hT (strB_l 22 (by decide)) y22]; exact (iteP_n (wd_nd (strB_l 22 (by decide)) y22)).trans ((wdI_y y22))⟩)) | (have y0 : wdP t n b (strB 0) := (by rcases x0 with ⟨xa, xb⟩ | ⟨xa, xb⟩; exact xb; exfalso; omega); exact hK 1001 (Or.inr ⟨by decide, by decide, by rw [wd_f hT (strB_l 0 (by decide)) y0]; exact (iteP_n (wd_nd (strB_l 0 (by decide)) y0)).trans ((wdI_n n22).trans ((wdI_y y0)))⟩)) | (have y1 : wdP t n b (strB 1) := (by rcases x1 with ⟨xa, xb⟩ | ⟨xa, xb⟩; exact xb; exfalso; omega); exact hK 1002 (Or.inr ⟨by decide, by decide, by rw [wd_f hT (strB_l 1 (by decide)) y1]; exact (iteP_n (wd_nd (strB_l 1 (by decide)) y1)).trans ((wdI_n n22).trans ((wdI_n n0).trans ((wdI_y y1))))⟩)) | (have y3 : wdP t n b (strB 3) := (by rcases x3 with ⟨xa, xb⟩ | ⟨xa, xb⟩; exact xb; exfalso; omega); exact hK 1003 (Or.inr ⟨by decide, by decide, by rw [wd_f hT (strB_l 3 (by decide)) y3]; exact (iteP_n (wd_nd (strB_l 3 (by decide)) y3)).trans ((wdI_n n22).trans ((wdI_n n0).trans ((wdI_n n1).trans ((wdI_y y3)))))⟩)) | (have y23 : wdP t n b (strB 23) := (by rcases x23 with ⟨xa, xb⟩ | ⟨xa, xb⟩; exact xb; exfalso; omega); exact hK 1004 (Or.inr ⟨by decide, by decide, by rw [wd_f hT (strB_l 23 (by decide)) y23]; exact (iteP_n (wd_nd (strB_l 23 (by decide)) y23)).trans ((wdI_n n22).trans ((wdI_n n0).trans ((wdI_n n1).trans ((wdI_n n3).trans ((wdI_y y23))))))⟩)) | (have y24 : wdP t n b (strB 24) := (by rcases x24 with ⟨xa, xb⟩ | ⟨xa, xb⟩; exact xb; exfalso; omega); exact hK 1005 (Or.inr ⟨by decide, by decide, by rw [wd_f hT (strB_l 24 (by decide)) y24]; exact (iteP_n (wd_nd (strB_l 24 (by decide)) y24)).trans ((wdI_n n22).trans ((wdI_n n0).trans ((wdI_n n1).trans ((wdI_n n3).trans ((wdI_n n23).trans ((wdI_y y24)))))))⟩)) | (have y11 : wdP t n b (strB 11) := (by rcases x11 with ⟨xa, xb⟩ | ⟨xa, xb⟩; exact xb; exfalso; omega); exact hK 1006 (Or.inr ⟨by decide, by decide, by rw [wd_f hT (strB_l 11 (by decide)) y11]; exact (iteP_n (wd_nd (strB_l 11 (by decide)) y11)).trans ((wdI_n n22).trans ((wdI_n n0).trans ((wdI_n n1).trans ((wdI_n n3).trans ((wdI_n n23).trans ((wdI_n n24).trans ((wdI_y y11))))))))⟩)) | (have n11 : ¬ wdP t n b (strB 11) := (by rcases x11 with ⟨xa, xb⟩ | ⟨xa, xb⟩; exfalso; omega; exact xb); exact hK (-1) (Or.inl ⟨rfl, fun z => (iteP_n z).trans ((wdI_n n22).trans ((wdI_n n0).trans ((wdI_n n1).trans ((wdI_n n3).trans ((wdI_n n23).trans ((wdI_n n24).trans ((wdI_n n11).trans (rfl))))))))⟩)) | simp only [w_aload, x_g300_57, w_ldc, w_call, w_if, cI, Int.reduceToNat, w_iconst, w_goto, w_fall, w_istore, w_iload, w_ifc, w_iadd, w_ireturn, a46_0, a46_16, a46_32, a46_48, a46_64, a46_80, a46_96, a46_113, a46_114, a46_124, a46_129, R32, List.getElem?_cons_zero, List.getElem?_cons_succ, List.set_cons_zero, List.set_cons_succ, List.cons_append, List.nil_append, List.replicate_succ, List.replicate_zero, List.take_succ_cons, List.take_zero, List.drop_succ_cons, List.drop_zero, List.reverse_cons, List.reverse_nil, List.length_cons, List.length_nil, Option.toList, true_and, and_true, eq_self, ↓reduceIte, not_true_eq_false, not_false_eq_true, true_or, or_true, upS_at, Int.reduceEq, Nat.reduceEqDiff, and_self, and_true, true_and, and_false, false_and, if_true, if_false, reduceIte, Int.reduceToNat] | ((with_reducible refine w_97_58 (i := 22) hP hT hX (by decide) (strB_l 22 (by decide)) (fun v22 x22 => ?_)); have gy22 := yn_b x22) | (have n22 : ¬ wdP t n b (strB 22) := (by rcases x22 with ⟨xa, xb⟩ | ⟨xa, xb⟩; exfalso; omega; exact xb); (with_reducible refine w_97_58 (i := 0) hP hT hX (by decide) (strB_l 0 (by decide)) (fun v0 x0 => ?_)); have gy0 := yn_b x0) | (have n0 : ¬ wdP t n b (strB 0) := (by rcases x0 with ⟨xa, xb⟩ | ⟨xa, xb⟩; exfalso; omega; exact xb); (with_reducible refine w_97_58 (i := 1) hP hT hX (by decide) (strB_l 1 (by decide)) (fun v1 x1 => ?_)); have gy1 := yn_b x1) | (have n1 : ¬ wdP t n b (strB 1) := (by rcases x1 with ⟨xa, xb⟩ | ⟨xa, xb⟩; exfalso; omega; exact xb); (with_reducible refine w_97_58 (i := 3) hP hT hX (by decide) (strB_l 3 (by decide)) (fun v3 x3 => ?_)); have gy3 := yn_b x3) | (have n3 : ¬ wdP t n b (strB 3) := (by rcases x3 with ⟨xa, xb⟩ | ⟨xa, xb⟩; exfalso; omega; exact xb); (with_reducible refine w_97_58 (i := 23) hP hT hX (by decide) (strB_l 23 (by decide)) (fun v23 x23 => ?_)); have gy23 := yn_b x23) | (have n23 : ¬ wdP t n b (strB 23) := (by rcases x23 with ⟨xa, xb⟩ | ⟨xa, xb⟩; exfalso; omega; exact xb); (with_reducible refine w_97_58 (i := 24) hP hT hX (by decide) (strB_l 24 (by decide)) (fun v24 x24 => ?_)); have gy24 := yn_b x24) | (have n24 : ¬ wdP t n b (strB 24) := (by rcases x24 with ⟨xa, xb⟩ | ⟨xa, xb⟩; exfalso; omega; exact xb); (with_reducible refine w_97_58 (i := 11) hP hT hX (by decide) (strB_l 11 (by decide)) (fun v11 x11 => ?_)); have gy11 := yn_b x11) | with_reducible refine And.intro ?_ ?_ | with_reducible intro _)
  all_goals (try (first | omega | (exfalso; assumption) | skip))
theorem k45_0 : pg.1 45 0 = [.bipush 0, .istore 1, .jsr 2] := rfl
theorem a45_0 {tb : Tab} {d : Nat} {K : Out → AM → Prop} {ls st : List AV} {m : AM} : At tb d 45 K 0 ls st m = wpB tb (pg.2.1 45) (Runs tb pg d) K (At tb d 45 K) [.bipush 0, .istore 1, .jsr 2] ls st m := At.eq k45_0
theorem k45_2 : pg.1 45 2 = [.iload 1, .bipush 400, .if_icmp .ge 101, .aload 0, .getfield 300, .bipush 0, .bipush 999, .invokeinterface 99 3, .ifCond .eq 33, .aload 0, .getfield 300, .getfield 705, .goto 37] := rfl
theorem a45_2 {tb : Tab} {d : Nat} {K : Out → AM → Prop} {ls st : List AV} {m : AM} : At tb d 45 K 2 ls st m = wpB tb (pg.2.1 45) (Runs tb pg d) K (At tb d 45 K) [.iload 1, .bipush 400, .if_icmp .ge 101, .aload 0, .getfield 300, .bipush 0, .bipush 999, .invokeinterface 99 3, .ifCond .eq 33, .aload 0, .getfield 300, .getfield 705, .goto 37] ls st m := At.eq k45_2
theorem k45_33 : pg.1 45 33 = [.aload 0, .invokeinterface 46 1, .jsr 37] := rfl
theorem a45_33 {tb : Tab} {d : Nat} {K : Out → AM → Prop} {ls st : List AV} {m : AM} : At tb d 45 K 33 ls st m = wpB tb (pg.2.1 45) (Runs tb pg d) K (At tb d 45 K) [.aload 0, .invokeinterface 46 1, .jsr 37] ls st m := At.eq k45_33
theorem k45_37 : pg.1 45 37 = [.istore 2, .iload 2, .bipush (-1), .if_icmp .ne 51, .aload 0, .getfield 300, .invokeinterface 104 1, .freturn] := rfl
theorem a45_37 {tb : Tab} {d : Nat} {K : Out → AM → Prop} {ls st : List AV} {m : AM} : At tb d 45 K 37 ls st m = wpB tb (pg.2.1 45) (Runs tb pg d) K (At tb d 45 K) [.istore 2, .iload 2, .bipush (-1), .if_icmp .ne 51, .aload 0, .getfield 300, .invokeinterface 104 1, .freturn] ls st m := At.eq k45_37
theorem k45_51 : pg.1 45 51 = [.aload 0, .getfield 300, .invokeinterface 95 1, .aload 0, .iload 2, .invokeinterface 47 2, .iload 1, .ifCond .le 74, .aload 0, .bipush 2003, .invokeinterface 47 2, .jsr 74] := rfl
theorem a45_51 {tb : Tab} {d : Nat} {K : Out → AM → Prop} {ls st : List AV} {m : AM} : At tb d 45 K 51 ls st m = wpB tb (pg.2.1 45) (Runs tb pg d) K (At tb d 45 K) [.aload 0, .getfield 300, .invokeinterface 95 1, .aload 0, .iload 2, .invokeinterface 47 2, .iload 1, .ifCond .le 74, .aload 0, .bipush 2003, .invokeinterface 47 2, .jsr 74] ls st m := At.eq k45_51
theorem k45_74 : pg.1 45 74 = [.aload 0, .getfield 300, .bipush 43, .invokeinterface 98 2, .ifCond .ne 88, .bipush 1, .freturn] := rfl
theorem a45_74 {tb : Tab} {d : Nat} {K : Out → AM → Prop} {ls st : List AV} {m : AM} : At tb d 45 K 74 ls st m = wpB tb (pg.2.1 45) (Runs tb pg d) K (At tb d 45 K) [.aload 0, .getfield 300, .bipush 43, .invokeinterface 98 2, .ifCond .ne 88, .bipush 1, .freturn] ls st m := At.eq k45_74
theorem k45_88 : pg.1 45 88 = [.aload 0, .getfield 300, .invokeinterface 95 1, .iinc 1 1, .goto 2] := rfl
theorem a45_88 {tb : Tab} {d : Nat} {K : Out → AM → Prop} {ls st : List AV} {m : AM} : At tb d 45 K 88 ls st m = wpB tb (pg.2.1 45) (Runs tb pg d) K (At tb d 45 K) [.aload 0, .getfield 300, .invokeinterface 95 1, .iinc 1 1, .goto 2] ls st m := At.eq k45_88
theorem k45_101 : pg.1 45 101 = [.aload 0, .getfield 300, .invokeinterface 104 1, .freturn] := rfl
theorem a45_101 {tb : Tab} {d : Nat} {K : Out → AM → Prop} {ls st : List AV} {m : AM} : At tb d 45 K 101 ls st m = wpB tb (pg.2.1 45) (Runs tb pg d) K (At tb d 45 K) [.aload 0, .getfield 300, .invokeinterface 104 1, .freturn] ls st m := At.eq k45_101
theorem w_45 {n a s : Int} {t : Int → Int} (hP : TPE S t n) (hT : TK0 S 58 t n (skp t n a) (-1)) (hC : CD S L) (hL : (L.length : Int) + s ≤ (skp t n a)) (hs : 0 ≤ s) (hX : tb.2.1 = strB) (hK0 : ∀ e T, sumP t n a = .inl e → TK0 T 58 t n e e → F58 S T → K (.inl (some (vi 0))) (X T m)) (hK : ∀ c e T, sumP t n a = .inr (c, e) → CD T (L ++ c) → ((L ++ c).length : Int) + s ≤ e → e ≤ n → TK0 T 58 t n (skp t n e) (-1) → F58 S T → K (.inl (some (vi 1))) (X T m)) : Runs tb pg (d + 7) 45 [vr 57] (X S m) K := by
  refine Runs.of (al := [vr 57]) (n := 2) ⟨57, _, _, rfl, xo_57⟩ rfl rfl trivial ?_
  have hL2 : (fun i : Int => ∀ (lz : AV) (c : List Int) (a2 : Int) (T : Nat → Int → Int), (smG t n i c a2 = sumP t n a) → (CD T (L ++ c)) → (2 * i ≤ (c.length : Int) + 1 ∧ (i = 0 → c = [])) → (((L ++ c).length : Int) + s + (if i = 0 then 0 else 1) ≤ skp t n a2) → (TK0 T 58 t n (skp t n a2) (-1)) → (F58 S T) → At tb (d + 6) 45 K 2 [vr 57, vi i, lz] [] (X T m)) 0 := by
    refine loopZ (fun i : Int => ∀ (lz : AV) (c : List Int) (a2 : Int) (T : Nat → Int → Int), (smG t n i c a2 = sumP t n a) → (CD T (L ++ c)) → (2 * i ≤ (c.length : Int) + 1 ∧ (i = 0 → c = [])) → (((L ++ c).length : Int) + s + (if i = 0 then 0 else 1) ≤ skp t n a2) → (TK0 T 58 t n (skp t n a2) (-1)) → (F58 S T) → At tb (d + 6) 45 K 2 [vr 57, vi i, lz] [] (X T m)) (400) (by omega) ?_ ?_
    · intro i h0 h1 h9 lz c a2 T hE hCx hi hLx hTx hF
      have hPx : TPE T t n := TPE_58 hF hP
      have hn := hP.1
      have hb := hTx.1
      have lap : ((L ++ c).length : Int) = L.length + c.length := by rw [List.length_append]; omega
      have sgk := sg_ok.1
      have hLc : (i = 0 ∧ (c.length : Int) = 0 ∧ (L.length : Int) + s ≤ skp t n a2) ∨ (i ≠ 0 ∧ (L.length : Int) + s + c.length + 1 ≤ skp t n a2) := by
        rw [lap] at hLx
        by_cases y : i = 0
        · rw [if_pos y] at hLx
          have z := hi.2 y
          rw [z] at hLx ⊢
          simp only [List.length_nil] at hLx ⊢
          omega
        · rw [if_neg y] at hLx
          omega
      have hN : ∀ (vv : Int) (T2 : Nat → Int → Int) (c2 : List Int) (e : Int), parP t n (skp t n a2) = .inr ([vv], e) → c2 = (if i = 0 then [vv] else c ++ [vv] ++ [2003]) → CD T2 (L ++ c2) → F58 S T2 → TK0 T2 58 t n (skp t n e) (-1) → skp t n a2 < e ∧ e ≤ n → At tb (d + 6) 45 K 74 [vr 57, vi i, vi vv] [] (X T2 m) := by
        intro vv T2 c2 e hp hc2 hC2 hF2 hT2 he
        have hP2 : TPE T2 t n := TPE_58 hF2 hP
        have c2l : (i = 0 ∧ (c2.length : Int) = 1) ∨ (i ≠ 0 ∧ (c2.length : Int) = c.length + 2) := by
          by_cases y : i = 0
          · rw [hc2, if_pos y]; exact Or.inl ⟨y, rfl⟩
          · rw [hc2, if_neg y]; exact Or.inr ⟨y, by simp only [List.length_append, List.length_cons, List.length_nil]; omega⟩
        have l2 : ((L ++ c2).length : Int) = L.length + c2.length := by rw [List.length_append]; omega
        have hb2 := hT2.1
        have se : e ≤ skp t n e := skp_ge
        rw [a45_74]
        repeat' (first | omega | (exact hK _ _ _ q5 hC2 l5 hb2.2 (by rw [skp_skp]; exact hT2) hF2) | (refine h9 (vi vv) c2 (skp t n e + 1) T6 e6 (CD_x x6.2.1 hC2) ?_ ?_ (TK0_T x6) (F58_t hF2 (F58_x x6.2.1))) | simp only [w_iconst, w_istore, w_fall, Int.reduceToNat, w_iload, w_ifc, cI, w_aload, x_g300_57, w_call, w_if, x_g705_55, x_g705_58, w_goto, w_zreturn, w_iinc, lgB, Nat.reduceSub, a45_0, a45_33, a45_37, a45_51, a45_88, a45_101, R32, List.getElem?_cons_zero, List.getElem?_cons_succ, List.set_cons_zero, List.set_cons_succ, List.cons_append, List.nil_append, List.replicate_succ, List.replicate_zero, List.take_succ_cons, List.take_zero, List.drop_succ_cons, List.drop_zero, List.reverse_cons, List.reverse_nil, List.length_cons, List.length_nil, Option.toList, true_and, and_true, eq_self, ↓reduceIte, not_true_eq_false, not_false_eq_true, true_or, or_true, upS_at, Int.reduceEq, Nat.reduceEqDiff, and_self, and_true, true_and, and_false, false_and, if_true, if_false, reduceIte, Int.reduceToNat] | ((with_reducible refine w_98_58 (c := 43) hP2 hT2 sgk (by omega) (fun v5 x5 => ?_)); have gy5 := yn_b x5) | (have n5 : ¬ sgP t n (skp t n e) 43 := (by rcases x5 with ⟨xa, xb⟩ | ⟨xa, xb⟩; exfalso; omega; exact xb); have q5 := smG_n (c := c) (i := i) (by omega) hp n5; rw [hE, ← hc2] at q5; have l5 : ((L ++ c2).length : Int) + s ≤ skp t n e := (by omega); clear x5) | (have y5 : sgP t n (skp t n e) 43 := (by rcases x5 with ⟨xa, xb⟩ | ⟨xa, xb⟩; exact xb; exfalso; omega); have f5 := sg_f hT2 sgk (show skp t n e < n ∧ t (skp t n e) = 43 from y5); (with_reducible refine w_95_58w hP2 hT2 f5 (fun T6 x6 => ?_)); have e6 := smG_y (c := c) (i := i) (by omega) h0 hp y5; rw [hE, ← hc2] at e6; have e6 := e6.symm; have g6 := x6.1; have s6 : skp t n e + 1 ≤ skp t n (skp t n e + 1) := skp_ge; clear x5) | with_reducible refine And.intro ?_ ?_ | with_reducible intro _)
        all_goals (try (first | omega | (exfalso; assumption) | (exact ⟨by omega, fun z => by omega⟩) | (rw [if_neg (by omega)]; omega)))
      have hM : ∀ (vv : Int), (0 ≤ vv ∧ vv ≤ 1006) → parP t n (skp t n a2) = .inr ([vv], T 58 3) → At tb (d + 6) 45 K 51 [vr 57, vi i, vi vv] [] (X T m) := by
        intro vv hvv hp
        have gt := tk_gt hTx (par_lt hp)
        rw [a45_51]
        repeat' (first | omega | (exact hN vv _ _ _ hp (if_neg (by omega)).symm (by rw [← List.append_assoc, ← List.append_assoc]; exact c8) (F58_t F7 (F58_p p8)) (TK0_f (p8 58 (by decide) (by decide)) hT7) gt) | (exact hN vv _ _ _ hp (if_pos (by omega)).symm (c77 (by omega)) F7 hT7 gt) | simp only [w_iconst, w_istore, w_fall, Int.reduceToNat, w_iload, w_ifc, cI, w_aload, x_g300_57, w_call, w_if, x_g705_55, x_g705_58, w_goto, w_zreturn, w_iinc, lgB, Nat.reduceSub, a45_0, a45_33, a45_37, a45_51, a45_88, a45_101, R32, List.getElem?_cons_zero, List.getElem?_cons_succ, List.set_cons_zero, List.set_cons_succ, List.cons_append, List.nil_append, List.replicate_succ, List.replicate_zero, List.take_succ_cons, List.take_zero, List.drop_succ_cons, List.drop_zero, List.reverse_cons, List.reverse_nil, List.length_cons, List.length_nil, Option.toList, true_and, and_true, eq_self, ↓reduceIte, not_true_eq_false, not_false_eq_true, true_or, or_true, upS_at, Int.reduceEq, Nat.reduceEqDiff, and_self, and_true, true_and, and_false, false_and, if_true, if_false, reduceIte, Int.reduceToNat] | ((with_reducible refine w_95_58w hPx hTx rfl (fun T6 x6 => ?_)); have F6 := F58_t hF (F58_x x6.2.1); have C6 := CD_x x6.2.1 hCx; have hT6 := TK0_T x6) | ((with_reducible refine w_47 C6 ?_ ⟨?_, ?_⟩ (fun T7 c7 p7 => ?_)); rotate_right; have F7 := F58_t F6 (F58_p p7); have hT7 : TK0 T7 58 t n _ (-1) := TK0_f (p7 58 (by decide) (by decide)) hT6; have c77 : i = 0 → CD T7 (L ++ [vv]) := (fun z => by rw [hi.2 z, List.append_nil] at c7; exact c7); clear C6) | ((with_reducible refine w_47 c7 ?_ ⟨?_, ?_⟩ (fun T8 c8 p8 => ?_)); rotate_right; clear c7) | with_reducible refine And.intro ?_ ?_ | with_reducible intro _)
        all_goals (try (first | omega | (exfalso; assumption) | (rw [lap] at hLx; (try rw [List.length_append]); (try simp only [List.length_append, List.length_cons, List.length_nil]); split at hLx <;> omega)))

      rw [a45_2]
      repeat' (first | omega | with_reducible exact h9 | (exact hM _ (by omega) p2.1) | (exact hM _ (by omega) p4) | (exact hK0 _ _ (hE.symm.trans (smG_f p5)) (TK0_T x5) (F58_t hF (F58_x x5.2.1))) | simp only [w_iconst, w_istore, w_fall, Int.reduceToNat, w_iload, w_ifc, cI, w_aload, x_g300_57, w_call, w_if, x_g705_55, x_g705_58, w_goto, w_zreturn, w_iinc, lgB, Nat.reduceSub, a45_0, a45_33, a45_37, a45_88, a45_101, R32, List.getElem?_cons_zero, List.getElem?_cons_succ, List.set_cons_zero, List.set_cons_succ, List.cons_append, List.nil_append, List.replicate_succ, List.replicate_zero, List.take_succ_cons, List.take_zero, List.drop_succ_cons, List.drop_zero, List.reverse_cons, List.reverse_nil, List.length_cons, List.length_nil, Option.toList, true_and, and_true, eq_self, ↓reduceIte, not_true_eq_false, not_false_eq_true, true_or, or_true, upS_at, Int.reduceEq, Nat.reduceEqDiff, and_self, and_true, true_and, and_false, false_and, if_true, if_false, reduceIte, Int.reduceToNat] | ((with_reducible refine w_99_58 hPx hTx ⟨by decide, by decide⟩ ⟨by decide, by decide⟩ (fun v1 x1 => ?_)); have gy1 := yn_b x1) | (have y1 : okF t n 0 999 (skp t n a2) := (by rcases x1 with ⟨xa, xb⟩ | ⟨xa, xb⟩; exact xb; exfalso; omega); have p2 := par_num hTx y1; clear x1) | (have n1 : ¬ okF t n 0 999 (skp t n a2) := (by rcases x1 with ⟨xa, xb⟩ | ⟨xa, xb⟩; exfalso; omega; exact xb); (with_reducible refine w_46 hPx hTx hX (fun v3 x3 => ?_)); clear x1) | (have p4 : parP t n (skp t n a2) = .inr ([v3], T 58 3) := (by rcases x3 with ⟨xa, xb⟩ | ⟨xa, xb, xc⟩; exfalso; omega; exact xc); have gv : 1000 ≤ v3 ∧ v3 ≤ 1006 := (by rcases x3 with ⟨xa, xb⟩ | ⟨xa, xb, xc⟩ <;> omega); clear x3) | (have p5 : parP t n (skp t n a2) = .inl (skp t n a2) := (by rcases x3 with ⟨xa, xb⟩ | ⟨xa, xb, xc⟩; by_cases z : dgP t n (skp t n a2); exact par_nn hTx n1 z; exact xb z; exfalso; omega); (with_reducible refine w_104_58 hPx hTx (fun T5 x5 => ?_)); clear x3) | with_reducible refine And.intro ?_ ?_ | with_reducible intro _)
      all_goals (try (first | omega | contradiction | skip))
    · intro lz c a2 T hE hCx hi hLx hTx hF
      have hPx : TPE T t n := TPE_58 hF hP
      have hn := hP.1
      have hb := hTx.1
      have lap : ((L ++ c).length : Int) = L.length + c.length := by rw [List.length_append]; omega
      have sgk := sg_ok.1
      have hx9 : (if (400 : Int) = 0 then (0 : Int) else 1) = 1 := rfl
      rw [hx9] at hLx
      rw [a45_2]
      repeat' (first | omega | simp only [w_iconst, w_istore, w_fall, Int.reduceToNat, w_iload, w_ifc, cI, w_aload, x_g300_57, w_call, w_if, x_g705_55, x_g705_58, w_goto, w_zreturn, w_iinc, lgB, Nat.reduceSub, a45_0, a45_33, a45_37, a45_88, a45_101, R32, List.getElem?_cons_zero, List.getElem?_cons_succ, List.set_cons_zero, List.set_cons_succ, List.cons_append, List.nil_append, List.replicate_succ, List.replicate_zero, List.take_succ_cons, List.take_zero, List.drop_succ_cons, List.drop_zero, List.reverse_cons, List.reverse_nil, List.length_cons, List.length_nil, Option.toList, true_and, and_true, eq_self, ↓reduceIte, not_true_eq_false, not_false_eq_true, true_or, or_true, upS_at, Int.reduceEq, Nat.reduceEqDiff, and_self, and_true, true_and, and_false, false_and, if_true, if_false, reduceIte, Int.reduceToNat] | ((with_reducible refine w_99_58 hPx hTx ⟨by decide, by decide⟩ ⟨by decide, by decide⟩ (fun v1 x1 => ?_)); have gy1 := yn_b x1) | (have y1 : okF t n 0 999 (skp t n a2) := (by rcases x1 with ⟨xa, xb⟩ | ⟨xa, xb⟩; exact xb; exfalso; omega); have p2 := par_num hTx y1; clear x1) | (have n1 : ¬ okF t n 0 999 (skp t n a2) := (by rcases x1 with ⟨xa, xb⟩ | ⟨xa, xb⟩; exfalso; omega; exact xb); (with_reducible refine w_46 hPx hTx hX (fun v3 x3 => ?_)); clear x1) | (have p4 : parP t n (skp t n a2) = .inr ([v3], T 58 3) := (by rcases x3 with ⟨xa, xb⟩ | ⟨xa, xb, xc⟩; exfalso; omega; exact xc); have gv : 1000 ≤ v3 ∧ v3 ≤ 1006 := (by rcases x3 with ⟨xa, xb⟩ | ⟨xa, xb, xc⟩ <;> omega); clear x3) | (have p5 : parP t n (skp t n a2) = .inl (skp t n a2) := (by rcases x3 with ⟨xa, xb⟩ | ⟨xa, xb, xc⟩; by_cases z : dgP t n (skp t n a2); exact par_nn hTx n1 z; exact xb z; exfalso; omega); (with_reducible refine w_104_58 hPx hTx (fun T5 x5 => ?_)); clear x3) | with_reducible refine And.intro ?_ ?_ | with_reducible intro _)
      all_goals (try (first | omega | contradiction | skip))
  repeat' (first | omega | (exact hL2 _ [] a S smG_0 (by rw [List.append_nil]; exact hC) ⟨by decide, fun _ => rfl⟩ (by rw [List.append_nil, if_pos rfl]; omega) hT F58_r) | simp only [w_iconst, w_istore, w_fall, Int.reduceToNat, w_iload, w_ifc, cI, w_aload, x_g300_57, w_call, w_if, x_g705_55, x_g705_58, w_goto, w_zreturn, w_iinc, lgB, Nat.reduceSub, a45_0, a45_33, a45_37, a45_88, a45_101, R32, List.getElem?_cons_zero, List.getElem?_cons_succ, List.set_cons_zero, List.set_cons_succ, List.cons_append, List.nil_append, List.replicate_succ, List.replicate_zero, List.take_succ_cons, List.take_zero, List.drop_succ_cons, List.drop_zero, List.reverse_cons, List.reverse_nil, List.length_cons, List.length_nil, Option.toList, true_and, and_true, eq_self, ↓reduceIte, not_true_eq_false, not_false_eq_true, true_or, or_true, upS_at, Int.reduceEq, Nat.reduceEqDiff, and_self, and_true, true_and, and_false, false_and, if_true, if_false, reduceIte, Int.reduceToNat] | with_reducible refine And.intro ?_ ?_ | with_reducible intro _)
  all_goals (try (first | omega | (exfalso; assumption) | skip))
end Law3
