theorem namC {t : Int → Int} {n b : Int} : (gdW t b (ltE t n b - b) ∧ 1 ≤ ltE t n b - b ∧ ltE t n b - b ≤ 6) ↔ (ltE t n b - b ≤ 6 ∧ b < ltE t n b ∧ ∀ j, b ≤ j → j < ltE t n b → t j < 105) := by
  constructor
  · rintro ⟨h1, h2, h3⟩
    refine ⟨h3, by omega, fun j j0 j1 => ?_⟩
    have := h1 (j - b) (by omega) (by omega)
    rw [show b + (j - b) = j by omega] at this
    omega
  · rintro ⟨h1, h2, h3⟩
    refine ⟨fun j j0 j1 => ?_, by omega, h1⟩
    have := h3 (b + j) (by omega) (by omega)
    omega
theorem namL {t : Int → Int} {n b : Int} (h : gdW t b (ltE t n b - b)) : ∀ j, 0 ≤ j → j < ltE t n b - b → 97 ≤ t (b + j) ∧ t (b + j) ≤ 104 := fun j j0 j1 => by
  have g := (scn_rg (c := fun j => 97 ≤ t j ∧ t j ≤ 122) (n := n) (i := b)).2.2.1 (b + j) (by omega) (by show b + j < ltE t n b; omega)
  exact ⟨g.2.1, h j j0 j1⟩
section Prov2
variable {tb : Tab} {d : Nat} {m : AM} {K : Out → AM → Prop} {S : Nat → Int → Int} {w : Nat} {r : Int → Int}
theorem w_87 {n b wv f : Int} (hw : isW w) (hR : RW S w r) (hA : AB r) {t : Int → Int} (hP : TPE S t n) (hT : TK0 S 55 t n b wv) (hf : S 55 3 = f) (hX : tb.2.1 = strB) (hl : LWo m (S w 15) (lawD r)) (hK0 : ∀ e T m1, nmP evL t n r b f = .inl e → TK0 T 55 t n e e → PFr S T w → MS m m1 → K (.inl (some (vi 0))) (X T m1)) (hK : ∀ q e T m1, nmP evL t n r b f = .inr (q, e) → RW T w q → TK0 T 55 t n (skp t n e) wv → PFr S T w → T w 15 = S w 15 → MS m m1 → K (.inl (some (vi 1))) (X T m1)) : Runs tb pg (d + 6) 87 [vr 54, vr w] (X S m) K := by
  refine Runs.of (al := [vr 54, vr w]) (n := 3) ⟨54, _, _, rfl, xo_54⟩ rfl rfl trivial ?_
  have b3 := hA.2.1.1
  have b4 := hA.2.1.2.1
  have b5 := hA.2.1.2.2.1
  have e0 := hR.1.1
  have e4 := hR.1.2.1
  have lr := (ltE_rg (t := t) (n := n) (a := skp t n f)).1
  have nb := skp_ge (t := t) (n := n) (a := f)
  have hL67 : (fun i : Int => ∀ (p : Int) (k : Int) (T1 : Nat → Int → Int) (T : Nat → Int → Int) (zi : Int), p = r 4 → k = ltE t n (skp t n f) - skp t n f → (F2c S T1) → (TK0 T1 55 t n (skp t n f) wv) → (r 4 ≠ 6 ∧ gdW t (skp t n f) (ltE t n (skp t n f) - skp t n f) ∧ 1 ≤ ltE t n (skp t n f) - skp t n f ∧ ltE t n (skp t n f) - skp t n f ≤ 6) → (T = namS T1 w (r 4) t (skp t n f) (ltE t n (skp t n f) - skp t n f) i) → zi = i → At tb (d + 5) 87 K 67 [vr 54, vr w, vi p, vi k, vi zi] [] (X T m)) 0 := by
    refine loopZ (fun i : Int => ∀ (p : Int) (k : Int) (T1 : Nat → Int → Int) (T : Nat → Int → Int) (zi : Int), p = r 4 → k = ltE t n (skp t n f) - skp t n f → (F2c S T1) → (TK0 T1 55 t n (skp t n f) wv) → (r 4 ≠ 6 ∧ gdW t (skp t n f) (ltE t n (skp t n f) - skp t n f) ∧ 1 ≤ ltE t n (skp t n f) - skp t n f ∧ ltE t n (skp t n f) - skp t n f ≤ 6) → (T = namS T1 w (r 4) t (skp t n f) (ltE t n (skp t n f) - skp t n f) i) → zi = i → At tb (d + 5) 87 K 67 [vr 54, vr w, vi p, vi k, vi zi] [] (X T m)) (ltE t n (skp t n f) - skp t n f) (by omega) ?_ ?_
    · intro i h0 h1 h9 p k T1 T zi hp hk hT1 hx hg hT hzi
      have hPx : TPE T t n := by
        rw [hT]
        exact TPE_f (TPE_2 hT1 hP) (namS_o (by unfold isW at hw; omega) (by unfold isW at hw; omega) (by unfold isW at hw; omega))
      have e55 : T 55 = T1 55 := by
        rw [hT]
        exact namS_o (by unfold isW at hw; omega) (by unfold isW at hw; omega) (by unfold isW at hw; omega)
      have hTx : TK0 T 55 t n (skp t n f) wv := TK0_f e55 hx
      have hb := hx.1
      have tq := hPx.2 (skp t n f + i) (by omega) (by have := (ltE_rg (t := t) (n := n) (a := skp t n f)).2; omega)
      subst hzi
      subst hp
      rw [a87_67]
      repeat' (first | omega | with_reducible refine h9 _ k T1 _ (zi + 1) rfl hk hT1 hx hg ?_ rfl | simp only [w_aload, x_g804_w0, w_iconst, w_ifc, cI, Int.reduceToNat, x_g600_54, w_call, w_zreturn, w_istore, w_iload, x_g805_w0, x_iast, x_g807_w0, w_fall, x_g806_w0, w_imul, w_iadd, w_iinc, lgB, Nat.reduceSub, w_goto, w_dupi, w_dupr, x_p804_w0, w_ldc, w_if, x_g800_w0, w_isub, x_g705_55, x_g705_58, x_g802_w0, x_iald, w_ialoads, w_ialoadw, isA_w1, isA_w2, isA_w3, isA_w4, isA_w5, isA_w6, isA_w7, isA_w8, isA_w10, isA_w11, isA_w12, isA_w14, isA_w15, isA_w16, len_w1, len_w2, len_w3, len_w4, len_w5, len_w6, len_w7, len_w8, len_w10, len_w11, len_w12, len_w14, len_w15, len_w16, Int.cast_ofNat_Int, a87_0, a87_17, a87_50, a87_131, a87_163, a87_192, a87_200, R32, List.getElem?_cons_zero, List.getElem?_cons_succ, List.set_cons_zero, List.set_cons_succ, List.cons_append, List.nil_append, List.replicate_succ, List.replicate_zero, List.take_succ_cons, List.take_zero, List.drop_succ_cons, List.drop_zero, List.reverse_cons, List.reverse_nil, List.length_cons, List.length_nil, Option.toList, true_and, and_true, eq_self, ↓reduceIte, not_true_eq_false, not_false_eq_true, true_or, or_true, upS_at, Int.reduceEq, Nat.reduceEqDiff, and_self, and_true, true_and, and_false, false_and, if_true, if_false, reduceIte, Int.reduceToNat, hw] | with_reducible refine w_101_55 hPx hTx ⟨?_, ?_⟩ ?_ | with_reducible refine And.intro ?_ ?_ | with_reducible intro _)
      all_goals (try (first | omega | contradiction | (exact namS_s h0 hT rfl)))
    · intro p k T1 T zi hp hk hT1 hx hg hT hzi
      have hPx : TPE T t n := by
        rw [hT]
        exact TPE_f (TPE_2 hT1 hP) (namS_o (by unfold isW at hw; omega) (by unfold isW at hw; omega) (by unfold isW at hw; omega))
      have e55 : T 55 = T1 55 := by
        rw [hT]
        exact namS_o (by unfold isW at hw; omega) (by unfold isW at hw; omega) (by unfold isW at hw; omega)
      have hTx : TK0 T 55 t n (skp t n f) wv := TK0_f e55 hx
      subst hp
      have hR1 : RW T1 w r := F2c_W hw hT1 hR
      have h4 : r 4 < 6 := by omega
      have hb4 : 0 ≤ r 4 ∧ r 4 < 6 := ⟨b4.1, h4⟩
      have q0 := namR_p (r := r) (t := t) (b := skp t n f) (k := k) (q := r 4) (w := 0) b4.1 (by decide) (by decide) b4.1
      have q1 := namR_p (r := r) (t := t) (b := skp t n f) (k := k) (q := r 4) (w := 1) b4.1 (by decide) (by decide) b4.1
      rw [if_pos rfl, if_pos rfl] at q0
      rw [if_pos rfl, if_neg (by decide), if_pos rfl] at q1
      have k6 : 1 ≤ k ∧ k ≤ 6 := by rw [hk]; exact hg.2.2
      have c1 : T w = S w := by
        rw [hT, namS_o (by omega) (by omega) (by omega)]
        exact F2c_c hw hT1 (c := 0) (by decide)
      have hx3 : T 55 3 = ltE t n (skp t n f) := by
        rw [e55]
        have kk := wrd_k hx.2.2.2.2.2.2
        by_cases y : T1 55 4 = 0
        · exact kk.1 y
        · have := kk.2 y
          omega
      have n2 := nmP_2 (ev := evL) (bg := b) hg.1 hg.2
      rw [← hk] at hT n2
      have hF : PFr S T w := fun a a1 a2 a3 => by
        rw [hT, namS_o (by omega) (by omega) (by omega)]
        exact hT1 a a1 a2
      have hR2 : RW (upS T w 4 (r 4 + 1)) w (namR r t (skp t n f) k) := by
        rw [hT]
        exact RW_nm hA h4 k6 hR1
      have hA2 : AB (namR r t (skp t n f) k) := namR_AB hA hb4 k6 (by rw [hk]; exact namL hg.2.1)
      have hl2 : LWo m (S w 15) (lawD (namR r t (skp t n f) k)) := by
        rw [show lawD (namR r t (skp t n f) k) = lawD r from lawD_eq (fun j hj => namR_o hb4 (by omega) (by omega))]
        exact hl
      rw [a87_67]
      repeat' (first | omega | (exact w_87_100 hw hA2 hR2 (by rw [c1]; exact e4) hb4 namR_4 q0 k6 q1 hPx hTx hx3 hF (by rw [c1]) hl2 hX (fun e T m1 h => hK0 e T m1 (n2.trans h)) (fun q2 e T m1 h => hK q2 e T m1 (n2.trans h))) | simp only [w_aload, x_g804_w0, w_iconst, w_ifc, cI, Int.reduceToNat, x_g600_54, w_call, w_zreturn, w_istore, w_iload, x_g805_w0, x_iast, x_g807_w0, w_fall, x_g806_w0, w_imul, w_iadd, w_iinc, lgB, Nat.reduceSub, w_goto, w_dupi, w_dupr, x_p804_w0, w_ldc, w_if, x_g800_w0, w_isub, x_g705_55, x_g705_58, x_g802_w0, x_iald, w_ialoads, w_ialoadw, isA_w1, isA_w2, isA_w3, isA_w4, isA_w5, isA_w6, isA_w7, isA_w8, isA_w10, isA_w11, isA_w12, isA_w14, isA_w15, isA_w16, len_w1, len_w2, len_w3, len_w4, len_w5, len_w6, len_w7, len_w8, len_w10, len_w11, len_w12, len_w14, len_w15, len_w16, Int.cast_ofNat_Int, a87_0, a87_17, a87_50, a87_131, a87_163, a87_192, a87_200, R32, List.getElem?_cons_zero, List.getElem?_cons_succ, List.set_cons_zero, List.set_cons_succ, List.cons_append, List.nil_append, List.replicate_succ, List.replicate_zero, List.take_succ_cons, List.take_zero, List.drop_succ_cons, List.drop_zero, List.reverse_cons, List.reverse_nil, List.length_cons, List.length_nil, Option.toList, true_and, and_true, eq_self, ↓reduceIte, not_true_eq_false, not_false_eq_true, true_or, or_true, upS_at, Int.reduceEq, Nat.reduceEqDiff, and_self, and_true, true_and, and_false, false_and, if_true, if_false, reduceIte, Int.reduceToNat, hw] | with_reducible refine w_101_55 hPx hTx ⟨?_, ?_⟩ ?_ | with_reducible refine And.intro ?_ ?_ | with_reducible intro _)
      all_goals (try (first | omega | contradiction | skip))
  repeat' (first | omega | (exact hK0 _ _ _ q9 x9 f9 MS_r) | (refine hL67 _ _ T1 _ _ rfl xk F1 hT1 hg ?_ rfl) | simp only [w_aload, x_g804_w0, w_iconst, w_ifc, cI, Int.reduceToNat, x_g600_54, w_call, w_zreturn, w_istore, w_iload, x_g805_w0, x_iast, x_g807_w0, w_fall, x_g806_w0, w_imul, w_iadd, w_iinc, lgB, Nat.reduceSub, w_goto, w_dupi, w_dupr, x_p804_w0, w_ldc, w_if, x_g800_w0, w_isub, x_g705_55, x_g705_58, x_g802_w0, x_iald, w_ialoads, w_ialoadw, isA_w1, isA_w2, isA_w3, isA_w4, isA_w5, isA_w6, isA_w7, isA_w8, isA_w10, isA_w11, isA_w12, isA_w14, isA_w15, isA_w16, len_w1, len_w2, len_w3, len_w4, len_w5, len_w6, len_w7, len_w8, len_w10, len_w11, len_w12, len_w14, len_w15, len_w16, Int.cast_ofNat_Int, a87_0, a87_17, a87_50, a87_131, a87_163, a87_192, a87_200, R32, List.getElem?_cons_zero, List.getElem?_cons_succ, List.set_cons_zero, List.set_cons_succ, List.cons_append, List.nil_append, List.replicate_succ, List.replicate_zero, List.take_succ_cons, List.take_zero, List.drop_succ_cons, List.drop_zero, List.reverse_cons, List.reverse_nil, List.length_cons, List.length_nil, Option.toList, true_and, and_true, eq_self, ↓reduceIte, not_true_eq_false, not_false_eq_true, true_or, or_true, upS_at, Int.reduceEq, Nat.reduceEqDiff, and_self, and_true, true_and, and_false, false_and, if_true, if_false, reduceIte, Int.reduceToNat, hw] | (have y0 : r 4 = 6 := (by omega); (with_reducible refine w_104_55 hP hT (fun T0 x0 => ?_)); have q9 := nmP_0 (ev := evL) (t := t) (n := n) (bg := b) (a := f) y0; have x9 := TK0_T x0; have f9 : PFr S T0 w := PFr_2 (F2c_x x0.2.1)) | (have y0 : r 4 ≠ 6 := (by omega); (with_reducible refine w_95_55w hP hT hf (fun T1 x1 => ?_)); have F1 := F2c_x x1.2.1; have hP1 := TPE_2 F1 hP; have hT1 := TK0_T x1; have c1 : T1 w 4 = r 4 := (by rw [show T1 w = S w from F2c_c hw F1 (c := 0) (by decide)]; exact e4)) | (rw [c1]) | ((with_reducible refine w_100_55 hP1 hT1 (fun v2 x2 => ?_))) | (have n2 := nmP_1 (ev := evL) (bg := b) y0 (fun z => (show ¬ _ from (by rcases x2 with ⟨xa, xb⟩ | ⟨xa, xb⟩; exfalso; omega; exact xa)) (namC.mp z)); (with_reducible refine w_104_55 hP1 hT1 (fun T3 x3 => ?_)); have q9 := n2; have x9 := TK0_T x3; have f9 : PFr S T3 w := PFr_t (PFr_2 F1) (PFr_2 (F2c_x x3.2.1)); clear x2) | (have xk : v2 = ltE t n (skp t n f) - skp t n f := (by rcases x2 with ⟨xa, xb⟩ | ⟨xa, xb⟩; exact xb; exfalso; omega); have hg : r 4 ≠ 6 ∧ gdW t (skp t n f) (ltE t n (skp t n f) - skp t n f) ∧ 1 ≤ ltE t n (skp t n f) - skp t n f ∧ ltE t n (skp t n f) - skp t n f ≤ 6 := ⟨y0, namC.mpr (by rcases x2 with ⟨xa, xb⟩ | ⟨xa, xb⟩; exact xa; exfalso; omega)⟩; clear x2) | with_reducible refine And.intro ?_ ?_ | with_reducible intro _)
  all_goals (try (first | omega | (exfalso; assumption) | (rw [xk]; exact namS_0) | skip))
end Prov2
