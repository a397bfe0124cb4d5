/-! ===== THE CLASS: a law's text: its lines ===== -/
noncomputable def heaT (t : Int → Int) (n k a : Int) : PR (Int × Int) := bnd (numP t n 0 40 a) fun v e => .inr ((k, v), e)
/-- a line's head -/
noncomputable def heaP (t : Int → Int) (n b : Int) : PR (Int × Int) := wdI t n b 14 (heaT t n 0 (b + (strB 14).length)) <| wdI t n b 15 (heaT t n 1 (b + (strB 15).length)) <| wdI t n b 16 (heaT t n 2 (b + (strB 16).length)) <| .inl b
/-- a line's condition behind its head -/
noncomputable def conP (t : Int → Int) (n : Int) (kv : Int × Int) (e : Int) : PR LL := wdI t n (skp t n e) 17 (bnd (somP (atmP t n 6) t n (skp t n e + (strB 17).length)) fun c e2 => .inr ((kv.1, kv.2, c), e2)) (.inr ((kv.1, kv.2, []), skp t n e))
theorem linT_h {t : Int → Int} {n k a : Int} : linT t n k a = bnd (heaT t n k a) (conP t n) := by
  unfold linT heaT
  cases numP t n 0 40 a with
  | inl f => rfl
  | inr q => rfl
theorem linP_h {t : Int → Int} {n b : Int} : linP t n b = bnd (heaP t n b) (conP t n) := by
  unfold linP heaP
  by_cases z : wdP t n b (strB 14)
  · rw [wdI_y z, wdI_y z]; exact linT_h
  rw [wdI_n z, wdI_n z]
  by_cases z : wdP t n b (strB 15)
  · rw [wdI_y z, wdI_y z]; exact linT_h
  rw [wdI_n z, wdI_n z]
  by_cases z : wdP t n b (strB 16)
  · rw [wdI_y z, wdI_y z]; exact linT_h
  rw [wdI_n z, wdI_n z]
  rfl
theorem lawP_h {t : Int → Int} {n b : Int} {L : List LL} : lawP t n L b = bnd (heaP t n b) fun kv e => bnd (conP t n kv e) fun l e2 => .inr (L ++ [l], e2) := by
  unfold lawP
  rw [linP_h]
  cases heaP t n b with
  | inl f => rfl
  | inr q => rfl
theorem heaT_0 {t : Int → Int} {n k a : Int} (z : ¬ okF t n 0 40 (skp t n a)) : heaT t n k a = .inl (skp t n a) := by unfold heaT; rw [numP_0 z]; rfl
theorem heaT_1 {t : Int → Int} {n k a : Int} (z : okF t n 0 40 (skp t n a)) : heaT t n k a = .inr ((k, vlZ t (skp t n a) (fgE t n (skp t n a) - skp t n a)), fgE t n (skp t n a)) := by unfold heaT; rw [numP_1 z]; rfl
/-- a head is laid at a line -/
def HW (S T : Nat → Int → Int) (i k v : Int) : Prop := (∀ a, a ≠ 58 → a ≠ 60 → a ≠ 61 → T a = S a) ∧ (∀ j, j ≠ i → T 60 j = S 60 j ∧ T 61 j = S 61 j) ∧ T 60 i = k ∧ T 61 i = v
/-- only the law's text is other -/
def LFr (S T : Nat → Int → Int) : Prop := ∀ a, a ≠ 57 → a ≠ 58 → a ≠ 60 → a ≠ 61 → a ≠ 62 → a ≠ 63 → T a = S a
/-- the codes of lines -/
def cdL : List LL → List Int
  | [] => []
  | l :: q => l.2.2 ++ cdL q
/-- where the codes of line j begin -/
def bgL (q : List LL) (j : Nat) : Nat := (cdL (q.take j)).length
/-- the lines read so far -/
def LB (S : Nat → Int → Int) (q : List LL) : Prop := ∀ (j : Nat) (l : LL), q[j]? = some l → S 60 j = l.1 ∧ (0 ≤ l.1 ∧ l.1 ≤ 2) ∧ S 61 j = l.2.1 ∧ S 62 j = bgL q j
theorem cdL_a : ∀ (p q : List LL), cdL (p ++ q) = cdL p ++ cdL q
  | [], q => rfl
  | l :: p, q => by show l.2.2 ++ cdL (p ++ q) = l.2.2 ++ cdL p ++ cdL q; rw [cdL_a p q, List.append_assoc]
theorem cdL_1 {q : List LL} {l : LL} : cdL (q ++ [l]) = cdL q ++ l.2.2 := by rw [cdL_a]; show cdL q ++ (l.2.2 ++ []) = _; rw [List.append_nil]
theorem bgL_a {q : List LL} {l : LL} {j : Nat} (h : j ≤ q.length) : bgL (q ++ [l]) j = bgL q j := by unfold bgL; rw [List.take_append_of_le_length h]
theorem bgL_n {q : List LL} : bgL q q.length = (cdL q).length := by unfold bgL; rw [List.take_length]
theorem bgL_s {q : List LL} {l : LL} {j : Nat} (h : q[j]? = some l) : bgL q (j + 1) = bgL q j + l.2.2.length := by
  unfold bgL
  rw [List.take_add_one, h, show (some l).toList = [l] from rfl, cdL_1, List.length_append]
theorem bgL_le {q : List LL} {j : Nat} : bgL q j ≤ (cdL q).length := by
  unfold bgL
  have e := List.take_append_drop j q
  have h : cdL q = cdL (q.take j) ++ cdL (q.drop j) := by rw [← cdL_a, e]
  rw [h, List.length_append]
  omega
theorem cdL_g {q : List LL} {l : LL} {j i : Nat} {x : Int} (h : q[j]? = some l) (hx : l.2.2[i]? = some x) : (cdL q)[bgL q j + i]? = some x := by
  have e := List.take_append_drop (j + 1) q
  have h1 : cdL q = cdL (q.take j) ++ (l.2.2 ++ cdL (q.drop (j + 1))) := by
    rw [← List.append_assoc, ← cdL_1, ← cdL_a]
    rw [← show q.take (j + 1) = q.take j ++ [l] by rw [List.take_add_one, h]; rfl, e]
  have hi := (List.getElem?_eq_some_iff.mp hx).1
  rw [h1]
  unfold bgL
  rw [List.getElem?_append_right (by omega), show (cdL (q.take j)).length + i - (cdL (q.take j)).length = i by omega, List.getElem?_append_left hi]
  exact hx
theorem LB_0 {S : Nat → Int → Int} : LB S [] := fun j l h => by cases h
theorem LB_f {S T : Nat → Int → Int} {q : List LL} (h : LB S q) (g : ∀ j : Nat, j < q.length → T 60 j = S 60 j ∧ T 61 j = S 61 j ∧ T 62 j = S 62 j) : LB T q := fun j l e => by
  have h0 := h j l e
  have g0 := g j (List.getElem?_eq_some_iff.mp e).1
  rw [g0.1, g0.2.1, g0.2.2]
  exact h0
theorem LB_1 {S : Nat → Int → Int} {q : List LL} {l : LL} (h : LB S q) (h0 : S 60 q.length = l.1) (hk : 0 ≤ l.1 ∧ l.1 ≤ 2) (h1 : S 61 q.length = l.2.1) (h2 : S 62 q.length = bgL q q.length) : LB S (q ++ [l]) := fun j l2 e => by
  by_cases y : j < q.length
  · rw [List.getElem?_append_left y] at e
    rw [bgL_a (by omega)]
    exact h j l2 e
  · rw [List.getElem?_append_right (by omega)] at e
    by_cases z : j - q.length = 0
    · rw [z] at e
      have w : l = l2 := Option.some.inj e
      have ej : j = q.length := by omega
      subst w ej
      rw [bgL_a (Nat.le_refl _)]
      exact ⟨h0, hk, h1, h2⟩
    · rw [show j - q.length = (j - q.length - 1) + 1 by omega] at e
      cases e
theorem LFr_r {S : Nat → Int → Int} : LFr S S := fun _ _ _ _ _ _ _ => rfl
theorem LFr_t {S T U : Nat → Int → Int} (h : LFr S T) (g : LFr T U) : LFr S U := fun a h1 h2 h3 h4 h5 h6 => (g a h1 h2 h3 h4 h5 h6).trans (h a h1 h2 h3 h4 h5 h6)
theorem LFr_x {S T : Nat → Int → Int} (h : FxE 58 S T) : LFr S T := fun a _ h2 _ _ _ _ => h a h2
theorem LFr_8 {S T : Nat → Int → Int} (h : F58 S T) : LFr S T := fun a h1 h2 _ _ _ h6 => h a h1 h2 h6
theorem LFr_h {S T : Nat → Int → Int} {i k v : Int} (h : HW S T i k v) : LFr S T := fun a h1 h2 h3 h4 h5 h6 => h.1 a h2 h3 h4
theorem LFr_u {S T : Nat → Int → Int} {c : Nat} {i v : Int} (hc : c = 57 ∨ c = 60 ∨ c = 61 ∨ c = 62) (h : LFr S T) : LFr S (upS T c i v) := fun a h1 h2 h3 h4 h5 h6 => (up_lit (by omega)).trans (h a h1 h2 h3 h4 h5 h6)
theorem TPE_L {S T : Nat → Int → Int} {t : Int → Int} {n : Int} (h : LFr S T) (hP : TPE S t n) : TPE T t n := TPE_f hP (h 1 (by decide) (by decide) (by decide) (by decide) (by decide) (by decide))
section rd12
variable {α : Type} {line : α → Int → PR α} {t : Int → Int} {n a i b e : Int} {r q : α} {p : PR α}
theorem rd12_s (h : i < 12) : rdN line t n (12 - i).toNat r a = bnd (line r (skp t n a)) fun q e => if skp t n e = n then .inr (q, skp t n e) else if t (skp t n e) = 59 then rdN line t n (12 - (i + 1)).toNat q (skp t n e + 1) else .inl (skp t n e) := by
  rw [show (12 - i).toNat = (12 - (i + 1)).toNat + 1 by omega]
  rfl
theorem rd12_f (h : i < 12) (z : line r (skp t n a) = .inl b) (y : rdN line t n (12 - i).toNat r a = p) : p = .inl b := by rw [← y, rd12_s h, z]; rfl
theorem rd12_e (h : i < 12) (z : line r (skp t n a) = .inr (q, e)) (y : rdN line t n (12 - i).toNat r a = p) (g : skp t n e = n) : p = .inr (q, skp t n e) := by
  rw [← y, rd12_s h, z]; exact if_pos g
theorem rd12_c (h : i < 12) (z : line r (skp t n a) = .inr (q, e)) (y : rdN line t n (12 - i).toNat r a = p) (g : skp t n e ≠ n) (g2 : t (skp t n e) = 59) : rdN line t n (12 - (i + 1)).toNat q (skp t n e + 1) = p := by
  rw [← y, rd12_s h, z]; exact ((if_neg g).trans (if_pos g2)).symm
theorem rd12_w (h : i < 12) (z : line r (skp t n a) = .inr (q, e)) (y : rdN line t n (12 - i).toNat r a = p) (g : skp t n e ≠ n) (g2 : t (skp t n e) ≠ 59) : p = .inl (skp t n e) := by
  rw [← y, rd12_s h, z]; exact (if_neg g).trans (if_neg g2)
end rd12
section Law6
variable {tb : Tab} {d : Nat} {m : AM} {K : Out → AM → Prop} {S : Nat → Int → Int}
theorem k40_0 : pg.1 40 0 = [.aload 0, .getfield 300, .ldc 14, .invokeinterface 97 2, .ifCond .eq 22, .aload 0, .getfield 301, .iload 1, .bipush 0, .iastore, .goto 74] := rfl
theorem a40_0 {tb : Tab} {d : Nat} {K : Out → AM → Prop} {ls st : List AV} {m : AM} : At tb d 40 K 0 ls st m = wpB tb (pg.2.1 40) (Runs tb pg d) K (At tb d 40 K) [.aload 0, .getfield 300, .ldc 14, .invokeinterface 97 2, .ifCond .eq 22, .aload 0, .getfield 301, .iload 1, .bipush 0, .iastore, .goto 74] ls st m := At.eq k40_0
theorem k40_22 : pg.1 40 22 = [.aload 0, .getfield 300, .ldc 15, .invokeinterface 97 2, .ifCond .eq 44, .aload 0, .getfield 301, .iload 1, .bipush 1, .iastore, .goto 74] := rfl
theorem a40_22 {tb : Tab} {d : Nat} {K : Out → AM → Prop} {ls st : List AV} {m : AM} : At tb d 40 K 22 ls st m = wpB tb (pg.2.1 40) (Runs tb pg d) K (At tb d 40 K) [.aload 0, .getfield 300, .ldc 15, .invokeinterface 97 2, .ifCond .eq 44, .aload 0, .getfield 301, .iload 1, .bipush 1, .iastore, .goto 74] ls st m := At.eq k40_22
theorem k40_44 : pg.1 40 44 = [.aload 0, .getfield 300, .ldc 16, .invokeinterface 97 2, .ifCond .eq 66, .aload 0, .getfield 301, .iload 1, .bipush 2, .iastore, .goto 74] := rfl
theorem a40_44 {tb : Tab} {d : Nat} {K : Out → AM → Prop} {ls st : List AV} {m : AM} : At tb d 40 K 44 ls st m = wpB tb (pg.2.1 40) (Runs tb pg d) K (At tb d 40 K) [.aload 0, .getfield 300, .ldc 16, .invokeinterface 97 2, .ifCond .eq 66, .aload 0, .getfield 301, .iload 1, .bipush 2, .iastore, .goto 74] ls st m := At.eq k40_44
theorem k40_66 : pg.1 40 66 = [.aload 0, .getfield 300, .invokeinterface 104 1, .freturn] := rfl
theorem a40_66 {tb : Tab} {d : Nat} {K : Out → AM → Prop} {ls st : List AV} {m : AM} : At tb d 40 K 66 ls st m = wpB tb (pg.2.1 40) (Runs tb pg d) K (At tb d 40 K) [.aload 0, .getfield 300, .invokeinterface 104 1, .freturn] ls st m := At.eq k40_66
theorem k40_74 : pg.1 40 74 = [.aload 0, .getfield 300, .invokeinterface 95 1, .aload 0, .getfield 300, .bipush 0, .bipush 40, .invokeinterface 99 3, .ifCond .ne 102, .aload 0, .getfield 300, .invokeinterface 104 1, .freturn] := rfl
theorem a40_74 {tb : Tab} {d : Nat} {K : Out → AM → Prop} {ls st : List AV} {m : AM} : At tb d 40 K 74 ls st m = wpB tb (pg.2.1 40) (Runs tb pg d) K (At tb d 40 K) [.aload 0, .getfield 300, .invokeinterface 95 1, .aload 0, .getfield 300, .bipush 0, .bipush 40, .invokeinterface 99 3, .ifCond .ne 102, .aload 0, .getfield 300, .invokeinterface 104 1, .freturn] ls st m := At.eq k40_74
theorem k40_102 : pg.1 40 102 = [.aload 0, .getfield 302, .iload 1, .aload 0, .getfield 300, .getfield 705, .iastore, .aload 0, .getfield 300, .invokeinterface 95 1, .bipush 1, .freturn] := rfl
theorem a40_102 {tb : Tab} {d : Nat} {K : Out → AM → Prop} {ls st : List AV} {m : AM} : At tb d 40 K 102 ls st m = wpB tb (pg.2.1 40) (Runs tb pg d) K (At tb d 40 K) [.aload 0, .getfield 302, .iload 1, .aload 0, .getfield 300, .getfield 705, .iastore, .aload 0, .getfield 300, .invokeinterface 95 1, .bipush 1, .freturn] ls st m := At.eq k40_102
theorem w_40 {n b i : Int} (hi : 0 ≤ i ∧ i < 12) {t : Int → Int} (hP : TPE S t n) (hT : TK0 S 58 t n b (-1)) (hX : tb.2.1 = strB) (hK0 : ∀ e T, heaP t n b = .inl e → TK0 T 58 t n e e → LFr S T → K (.inl (some (vi 0))) (X T m)) (hK : ∀ k v e T, (0 ≤ k ∧ k ≤ 2) → heaP t n b = .inr ((k, v), e) → TK0 T 58 t n (skp t n e) (-1) → b < e ∧ e ≤ n → HW S T i k v → K (.inl (some (vi 1))) (X T m)) : Runs tb pg (d + 6) 40 [vr 57, vi i] (X S m) K := by
  refine Runs.of (al := [vr 57, vi i]) (n := 0) ⟨57, _, _, rfl, xo_57⟩ rfl rfl trivial ?_
  have l60 : (lenX 60 : Int) = 12 := rfl
  have l61 : (lenX 61 : Int) = 12 := rfl
  have hN : ∀ (j : Nat) (k : Int), wdP t n b (strB j) → 0 < (strB j).length → (0 ≤ k ∧ k ≤ 2) → heaP t n b = heaT t n k (b + (strB j).length) → At tb (d + 5) 40 K 74 [vr 57, vi i] [] (X (upS S 60 i k) m) := by
    intro j k y hj hk hE
    have hP0 : TPE (upS S 60 i k) t n := TPE_f hP rfl
    have hT0 : TK0 (upS S 60 i k) 58 t n b (-1) := TK0_f (S := S) (up_lit (by decide)) hT
    have wf := wd_f hT0 hj y
    have L0 : LFr S (upS S 60 i k) := LFr_u (by decide) LFr_r
    rw [a40_74]
    repeat' (first | omega | (exact hK0 _ _ e6 (TK0_T x6) (LFr_t F1 (LFr_x x6.2.1))) | (exact hK k _ _ _ hk e7 (TK0_T x7) g7 ⟨fun a a1 a2 a3 => ((x7.2.1 a a1).trans (up_lit a3)).trans ((x1.2.1 a a1).trans (up_lit a2)), fun j hj => ⟨by rw [x7.2.1 60 (by decide), upS_at, if_neg (by omega), x1.2.1 60 (by decide), upS_at, if_neg (by omega)], by rw [x7.2.1 61 (by decide), upS_at, if_neg (by omega), x1.2.1 61 (by decide), upS_at, if_neg (by omega)]⟩, by rw [x7.2.1 60 (by decide), upS_at, if_neg (by omega), x1.2.1 60 (by decide), upS_at, if_pos ⟨rfl, rfl⟩], by rw [x7.2.1 61 (by decide), upS_at, if_pos ⟨rfl, rfl⟩]; exact w5.1⟩) | simp only [w_aload, x_g300_57, w_ldc, w_call, w_if, cI, Int.reduceToNat, x_g301_57, w_iload, w_iconst, x_iast, w_goto, w_zreturn, x_g302_57, x_g705_55, x_g705_58, isA_w1, isA_w2, isA_w3, isA_w4, isA_w5, isA_w6, isA_w7, isA_w8, isA_w10, isA_w11, isA_w12, isA_w14, isA_w15, isA_w16, len_w1, len_w2, len_w3, len_w4, len_w5, len_w6, len_w7, len_w8, len_w10, len_w11, len_w12, len_w14, len_w15, len_w16, Int.cast_ofNat_Int, a40_0, a40_22, a40_44, a40_66, a40_102, R32, List.getElem?_cons_zero, List.getElem?_cons_succ, List.set_cons_zero, List.set_cons_succ, List.cons_append, List.nil_append, List.replicate_succ, List.replicate_zero, List.take_succ_cons, List.take_zero, List.drop_succ_cons, List.drop_zero, List.reverse_cons, List.reverse_nil, List.length_cons, List.length_nil, Option.toList, true_and, and_true, eq_self, ↓reduceIte, not_true_eq_false, not_false_eq_true, true_or, or_true, upS_at, Int.reduceEq, Nat.reduceEqDiff, and_self, and_true, true_and, and_false, false_and, if_true, if_false, reduceIte, Int.reduceToNat, x_iast isA_60, x_iast isA_61, x_iald isA_60, l60, l61] | ((with_reducible refine w_95_58w hP0 hT0 wf (fun T1 x1 => ?_)); have F1 := LFr_t L0 (LFr_x x1.2.1); have hP1 := TPE_L F1 hP; have hT1 := TK0_T x1) | ((with_reducible refine w_99_58 hP1 hT1 ⟨by decide, by decide⟩ ⟨by decide, by decide⟩ (fun v5 x5 => ?_)); have gy5 := yn_b x5) | (have n5 : ¬ okF t n 0 40 (skp t n (b + (strB j).length)) := (by rcases x5 with ⟨xa, xb⟩ | ⟨xa, xb⟩; exfalso; omega; exact xb); have e6 := hE.trans (heaT_0 n5); (with_reducible refine w_104_58 hP1 hT1 (fun T6 x6 => ?_)); clear x5) | (have y5 : okF t n 0 40 (skp t n (b + (strB j).length)) := (by rcases x5 with ⟨xa, xb⟩ | ⟨xa, xb⟩; exact xb; exfalso; omega); have e7 := hE.trans (heaT_1 y5); have w5 := nm_f hT1 (by decide) y5; have g5 := numP_rg (numP_1 y5); clear x5) | (have hP2 : TPE (upS T1 61 i (T1 58 5)) t n := TPE_f hP1 rfl; have hT2 : TK0 (upS T1 61 i (T1 58 5)) 58 t n (skp t n (b + (strB j).length)) (-1) := TK0_f (S := T1) (up_lit (by decide)) hT1; have w53 : upS T1 61 i (T1 58 5) 58 3 = fgE t n (skp t n (b + (strB j).length)) := (congrFun (up_lit (by decide)) 3).trans w5.2; (with_reducible refine w_95_58w hP2 hT2 w53 (fun T7 x7 => ?_)); have s7 : b + (strB j).length ≤ skp t n (b + (strB j).length) := skp_ge; have g7 : b < fgE t n (skp t n (b + (strB j).length)) ∧ fgE t n (skp t n (b + (strB j).length)) ≤ n := (by omega)) | with_reducible refine And.intro ?_ ?_ | with_reducible intro _)
    all_goals (try (first | omega | (exfalso; assumption) | skip))
  repeat' (first | omega | (have y14 : wdP t n b (strB 14) := (by rcases x14 with ⟨xa, xb⟩ | ⟨xa, xb⟩; exact xb; exfalso; omega); exact hN 14 0 y14 (strB_l 14 (by decide)) (by decide) (wdI_y y14)) | (have y15 : wdP t n b (strB 15) := (by rcases x15 with ⟨xa, xb⟩ | ⟨xa, xb⟩; exact xb; exfalso; omega); exact hN 15 1 y15 (strB_l 15 (by decide)) (by decide) ((wdI_n n14).trans (wdI_y y15))) | (have y16 : wdP t n b (strB 16) := (by rcases x16 with ⟨xa, xb⟩ | ⟨xa, xb⟩; exact xb; exfalso; omega); exact hN 16 2 y16 (strB_l 16 (by decide)) (by decide) ((wdI_n n14).trans ((wdI_n n15).trans (wdI_y y16)))) | (exact hK0 _ _ qz (TK0_T x3) (LFr_x x3.2.1)) | simp only [w_aload, x_g300_57, w_ldc, w_call, w_if, cI, Int.reduceToNat, x_g301_57, w_iload, w_iconst, x_iast, w_goto, w_zreturn, x_g302_57, x_g705_55, x_g705_58, isA_w1, isA_w2, isA_w3, isA_w4, isA_w5, isA_w6, isA_w7, isA_w8, isA_w10, isA_w11, isA_w12, isA_w14, isA_w15, isA_w16, len_w1, len_w2, len_w3, len_w4, len_w5, len_w6, len_w7, len_w8, len_w10, len_w11, len_w12, len_w14, len_w15, len_w16, Int.cast_ofNat_Int, a40_0, a40_22, a40_44, a40_66, a40_102, R32, List.getElem?_cons_zero, List.getElem?_cons_succ, List.set_cons_zero, List.set_cons_succ, List.cons_append, List.nil_append, List.replicate_succ, List.replicate_zero, List.take_succ_cons, List.take_zero, List.drop_succ_cons, List.drop_zero, List.reverse_cons, List.reverse_nil, List.length_cons, List.length_nil, Option.toList, true_and, and_true, eq_self, ↓reduceIte, not_true_eq_false, not_false_eq_true, true_or, or_true, upS_at, Int.reduceEq, Nat.reduceEqDiff, and_self, and_true, true_and, and_false, false_and, if_true, if_false, reduceIte, Int.reduceToNat, x_iast isA_60, x_iast isA_61, x_iald isA_60, l60, l61] | ((with_reducible refine w_97_58 (i := 14) hP hT hX (by decide) (strB_l 14 (by decide)) (fun v14 x14 => ?_)); have gy14 := yn_b x14) | (have n14 : ¬ wdP t n b (strB 14) := (by rcases x14 with ⟨xa, xb⟩ | ⟨xa, xb⟩; exfalso; omega; exact xb); (with_reducible refine w_97_58 (i := 15) hP hT hX (by decide) (strB_l 15 (by decide)) (fun v15 x15 => ?_)); have gy15 := yn_b x15) | (have n15 : ¬ wdP t n b (strB 15) := (by rcases x15 with ⟨xa, xb⟩ | ⟨xa, xb⟩; exfalso; omega; exact xb); (with_reducible refine w_97_58 (i := 16) hP hT hX (by decide) (strB_l 16 (by decide)) (fun v16 x16 => ?_)); have gy16 := yn_b x16) | (have n16 : ¬ wdP t n b (strB 16) := (by rcases x16 with ⟨xa, xb⟩ | ⟨xa, xb⟩; exfalso; omega; exact xb); have qz : heaP t n b = .inl b := (wdI_n n14).trans ((wdI_n n15).trans ((wdI_n n16).trans (rfl))); (with_reducible refine w_104_58 hP hT (fun T3 x3 => ?_))) | with_reducible refine And.intro ?_ ?_ | with_reducible intro _)
  all_goals (try (first | omega | (exfalso; assumption) | skip))
end Law6
