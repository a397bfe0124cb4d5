/-! ===== SNOWNAMES: people, names, debts, games ===== -/
theorem owes_rg {r : Int → Int} (hA : AB r) {p : Int} : -100000 ≤ owesM (dr r) (r 5) p ∧ owesM (dr r) (r 5) p ≤ 100000 := by
  have h : (-8 ≤ owedByM (dr r) (r 5) p ∧ owedByM (dr r) (r 5) p ≤ 80000) ∧ (-8 ≤ owedToM (dr r) (r 5) p ∧ owedToM (dr r) (r 5) p ≤ 80000) := owed_bd (S := fun _ => r) (AB_B (S := fun _ => r) hA) p
  unfold owesM
  omega
theorem sum_DS {r : Int → Int} (hA : AB r) (hS : DS r) : 0 ≤ sumZ (r 5) (fun k => dr r k 2) ∧ sumZ (r 5) (fun k => dr r k 2) ≤ 800 := by
  have b5 := hA.2.1.2.2.1
  have := sumZ_le (f := fun k => dr r k 2) (n := r 5) (a := 0) (b := 99) b5.1 (fun i i0 i1 => by have := hS i i0 i1; omega)
  omega
theorem owed_DS {r : Int → Int} (hA : AB r) (hS : DS r) {p : Int} : 0 ≤ owedByM (dr r) (r 5) p ∧ owedByM (dr r) (r 5) p ≤ 800 := by
  have b5 := hA.2.1.2.2.1
  have := sumZ_le (f := fun k => if dr r k 0 = p then dr r k 2 else 0) (n := r 5) (a := 0) (b := 99) b5.1 (fun i i0 i1 => by have := hS i i0 i1; split <;> omega)
  have e : owedByM (dr r) (r 5) p = sumZ (r 5) (fun k => if dr r k 0 = p then dr r k 2 else 0) := rfl
  omega
/-- two of one name, both ways -/
theorem un_tw {r : Int → Int} (hA : AB r) (hV : GV r) {p q : Int} (hp : 0 ≤ p ∧ p < r 4) (hq : 0 ≤ q ∧ q < r 4) : unS (pr r) p q = 0 ↔ twM (pr r) p q := by
  have a1 := AB_pp hA hp.1 hp.2
  have a2 := AB_pp hA hq.1 hq.2
  have key : unS (pr r) p q = 0 ↔ ∀ k, 0 ≤ k → k < 6 → pr r p (2 + k) = pr r q (2 + k) := by
    constructor
    · intro h k k0 k1
      by_cases z : pr r p (2 + k) = pr r q (2 + k)
      · exact z
      · exfalso
        have b := (bit_set (n := 6) (c := fun k => pr r p (2 + k) ≠ pr r q (2 + k)) (by decide) k0 k1).mpr z
        have e : setZ 6 (fun k => pr r p (2 + k) ≠ pr r q (2 + k)) = 0 := h
        rw [e] at b
        exact bit_0 k0 (by omega) b
    · intro h
      have e : unS (pr r) p q = setZ 6 (fun _ => False) := setZ_congr (fun k k0 k1 => ⟨fun z => z (h k k0 k1), fun z => z.elim⟩)
      rw [e]
      rw [show (6 : Int) = 0 + 1 + 1 + 1 + 1 + 1 + 1 from rfl]
      rw [setZ_n (by decide) (fun z => z), setZ_n (by decide) (fun z => z), setZ_n (by decide) (fun z => z), setZ_n (by decide) (fun z => z), setZ_n (by decide) (fun z => z), setZ_n (by decide) (fun z => z)]
      exact setZ_0
  rw [key]
  constructor
  · intro h
    have e : pr r p 0 = pr r q 0 := by
      by_cases y : pr r p 0 < pr r q 0
      · have g1 := (hV p (pr r p 0) hp.1 hp.2 (by omega) (by omega)).2 (Int.le_refl _)
        have g2 := (hV q (pr r p 0) hq.1 hq.2 (by omega) (by omega)).1 y
        have := h (pr r p 0) (by omega) (by omega)
        omega
      · by_cases y2 : pr r q 0 < pr r p 0
        · have g1 := (hV q (pr r q 0) hq.1 hq.2 (by omega) (by omega)).2 (Int.le_refl _)
          have g2 := (hV p (pr r q 0) hp.1 hp.2 (by omega) (by omega)).1 y2
          have := h (pr r q 0) (by omega) (by omega)
          omega
        · omega
    refine ⟨e, by omega, fun k k0 k1 => ?_⟩
    have := h k k0 (by omega)
    show pr r p (2 + 0 + k) = pr r q (2 + k)
    exact this
  · rintro ⟨h1, _, h2⟩ k k0 k1
    by_cases y : k < pr r q 0
    · have z : pr r p (2 + 0 + k) = pr r q (2 + k) := h2 k k0 y
      exact z
    · rw [(hV p k hp.1 hp.2 k0 k1).2 (by omega), (hV q k hq.1 hq.2 k0 k1).2 (by omega)]
theorem un_sy {P : Int → Int → Int} {p q : Int} : unS P p q = unS P q p := setZ_congr (fun _ _ _ => ⟨fun h e => h e.symm, fun h e => h e.symm⟩)
/-- pairs of one name, counted upwards -/
noncomputable def alG (P : Int → Int → Int) (p q : Int) : Int := @ite _ (unS P p q = 0) (Classical.propDecidable _) 1 0
noncomputable def alS (P : Int → Int → Int) (p j : Int) : Int := sumZ j fun q => if p < q then alG P p q else 0
noncomputable def alT (P : Int → Int → Int) (n i : Int) : Int := sumZ i fun p => alS P p n
theorem alS_0 {P : Int → Int → Int} {p : Int} : ∀ j : Nat, (j : Int) ≤ p + 1 → alS P p j = 0
  | 0, _ => rfl
  | j + 1, h => by
    have e := alS_0 (P := P) (p := p) j (by omega)
    show alS P p ((j : Int) + 1) = 0
    unfold alS at e ⊢
    rw [sumZ_s (by omega), e, if_neg (by omega)]
    rfl
theorem sumZ_ad {f g : Int → Int} : ∀ n : Nat, sumZ n (fun i => f i + g i) = sumZ n f + sumZ n g
  | 0 => rfl
  | n + 1 => by
    have e := sumZ_ad (f := f) (g := g) n
    show sumZ ((n : Int) + 1) _ = sumZ ((n : Int) + 1) _ + sumZ ((n : Int) + 1) _
    rw [sumZ_s (by omega), sumZ_s (by omega), sumZ_s (by omega), e]
    omega
theorem alT_tw {r : Int → Int} (hA : AB r) (hV : GV r) : ∀ n : Nat, (n : Int) ≤ r 4 → alT (pr r) n n = twT (pr r) n
  | 0, _ => rfl
  | n + 1, h => by
    have e := alT_tw hA hV n (by omega)
    have n0 : (0 : Int) ≤ n := by omega
    show alT (pr r) ((n : Int) + 1) ((n : Int) + 1) = twT (pr r) ((n : Int) + 1)
    rw [twT_s n0, ← e]
    unfold alT
    rw [sumZ_s n0]
    have e1 : alS (pr r) n ((n : Int) + 1) = 0 := alS_0 (P := pr r) (p := n) (n + 1) (by omega)
    rw [e1]
    have e2 : sumZ (n : Int) (fun p => alS (pr r) p ((n : Int) + 1)) = sumZ (n : Int) (fun p => alS (pr r) p n + alG (pr r) p n) := sumZ_congr (fun p p0 p1 => by
      unfold alS
      rw [sumZ_s n0, if_pos p1])
    rw [e2, sumZ_ad]
    have e3 : sumZ (n : Int) (fun p => alG (pr r) p n) = twS (pr r) n n := sumZ_congr (fun p p0 p1 => by
      unfold alG
      rw [un_sy]
      have t := un_tw hA hV (p := n) (q := p) ⟨by omega, by omega⟩ ⟨p0, by omega⟩
      by_cases z : twM (pr r) n p
      · rw [if_pos z, if_pos (t.mpr z)]
      · rw [if_neg z, if_neg (fun y => z (t.mp y))])
    rw [e3]
    omega
theorem alS_y {P : Int → Int → Int} {p j : Int} (h : 0 ≤ j) (hp : p < j) (c : unS P p j = 0) : alS P p (j + 1) = alS P p j + 1 := by
  unfold alS alG
  rw [sumZ_s h, if_pos hp, if_pos c]
theorem alS_n {P : Int → Int → Int} {p j : Int} (h : 0 ≤ j) (hp : p < j) (c : unS P p j ≠ 0) : alS P p (j + 1) = alS P p j := by
  unfold alS alG
  rw [sumZ_s h, if_pos hp, if_neg c]
  omega
theorem alT_s {P : Int → Int → Int} {n i : Int} (h : 0 ≤ i) : alT P n (i + 1) = alT P n i + alS P i n := sumZ_s h
theorem alS_rg {P : Int → Int → Int} {p j : Int} (h : 0 ≤ j) : 0 ≤ alS P p j ∧ alS P p j ≤ j := by
  have := sumZ_le (f := fun q => if p < q then alG P p q else 0) (n := j) (a := 0) (b := 1) h (fun i i0 i1 => by
    show 0 ≤ (if p < i then alG P p i else 0) ∧ (if p < i then alG P p i else 0) ≤ 1
    unfold alG
    split
    · split <;> omega
    · omega)
  unfold alS
  omega
theorem alT_rg {P : Int → Int → Int} {n i : Int} (hn : 0 ≤ n ∧ n ≤ 6) (h : 0 ≤ i) : 0 ≤ alT P n i ∧ alT P n i ≤ 6 * i := by
  have := sumZ_le (f := fun p => alS P p n) (n := i) (a := 0) (b := 6) h (fun q q0 q1 => by
    have := alS_rg (P := P) (p := q) hn.1
    show 0 ≤ alS P q n ∧ alS P q n ≤ 6
    omega)
  unfold alT
  omega
theorem good_rows {t : Int → Int} {n : Int} (hB : ∀ j, 0 ≤ j → j < 400 → 0 ≤ t j ∧ t j < 256) (hn : 0 ≤ n) (h : goodT t n) : ((0 ≤ n ∧ n ≤ 40) ∧ n % 2 = 0) ∧ ∀ j, 0 ≤ j → j < n / 2 → (0 ≤ t (2 * j) ∧ t (2 * j) < 6) ∧ (0 ≤ t (2 * j + 1) ∧ t (2 * j + 1) < 256) := by
  obtain ⟨h1, h2, h3⟩ := h
  refine ⟨⟨⟨hn, h2⟩, h1⟩, fun j j0 j1 => ?_⟩
  have g := h3 j j0 j1
  have b1 := hB (2 * j) (by omega) (by omega)
  have b2 := hB (2 * j + 1) (by omega) (by omega)
  omega
section Snow2
variable {tb : Tab} {d : Nat} {m : AM} {K : Out → AM → Prop} {S : Nat → Int → Int} {r : Int → Int}
theorem hs_137 {E : Nat} : pg.2.1 137 E = none := rfl
theorem k137_0 : pg.1 137 0 = [.aload 0, .getfield 903, .getfield 810, .invokeinterface 16 1, .istore 2, .iload 2, .ifCond .gt 19, .bipush 0, .goto 35] := rfl
theorem a137_0 {tb : Tab} {d : Nat} {K : Out → AM → Prop} {ls st : List AV} {m : AM} : At tb d 137 K 0 ls st m = wpB tb (pg.2.1 137) (Runs tb pg d) K (At tb d 137 K) [.aload 0, .getfield 903, .getfield 810, .invokeinterface 16 1, .istore 2, .iload 2, .ifCond .gt 19, .bipush 0, .goto 35] ls st m := At.eq k137_0
theorem k137_19 : pg.1 137 19 = [.bipush 100, .aload 0, .getfield 903, .getfield 810, .iload 1, .invokeinterface 17 2, .imul, .iload 2, .idiv, .jsr 35] := rfl
theorem a137_19 {tb : Tab} {d : Nat} {K : Out → AM → Prop} {ls st : List AV} {m : AM} : At tb d 137 K 19 ls st m = wpB tb (pg.2.1 137) (Runs tb pg d) K (At tb d 137 K) [.bipush 100, .aload 0, .getfield 903, .getfield 810, .iload 1, .invokeinterface 17 2, .imul, .iload 2, .idiv, .jsr 35] ls st m := At.eq k137_19
theorem k137_35 : pg.1 137 35 = [.ireturn] := rfl
theorem a137_35 {tb : Tab} {d : Nat} {K : Out → AM → Prop} {ls st : List AV} {m : AM} : At tb d 137 K 35 ls st m = wpB tb (pg.2.1 137) (Runs tb pg d) K (At tb d 137 K) [.ireturn] ls st m := At.eq k137_35
theorem w_137 {p : Int} (hR : RW S 2 r) (hA : AB r) (hS : DS r) (hp : R32 p) (hK : ∀ v, (sumZ (r 5) (fun k => dr r k 2) = 0 → v = 0) → (sumZ (r 5) (fun k => dr r k 2) ≠ 0 → v = 100 * owedByM (dr r) (r 5) p / sumZ (r 5) (fun k => dr r k 2)) → K (.inl (some (vi v))) (X S m)) : Runs tb pg (d + 2) 137 [vr 0, vi p] (X S m) K := by
  have hw := isW_2
  have b3 := hA.2.1.1
  have b4 := hA.2.1.2.1
  have b5 := hA.2.1.2.2.1
  have sd := sum_DS hA hS
  have od := owed_DS hA hS (p := p)
  have uhp := hp
  unfold R32 at uhp
  refine Runs.of (al := [vr 0, vi p]) (n := 1) ⟨0, _, _, rfl, xo_0⟩ rfl rfl trivial ?_
  repeat' (first | omega | (exact hK _ (fun _ => rfl) (fun y => absurd (show sumZ (r 5) (fun k => dr r k 2) = 0 by omega) y)) | (exact hK _ (fun y => absurd y (by omega)) (fun _ => by rw [x2, x1])) | simp only [w_aload, x_g903_0, x_g810_w0, w_call, w_istore, w_iload, w_if, cI, Int.reduceToNat, w_iconst, w_goto, w_imul, w_idiv, w_fall, w_ireturn, a137_0, a137_19, a137_35, R32, List.getElem?_cons_zero, List.getElem?_cons_succ, List.set_cons_zero, List.set_cons_succ, List.cons_append, List.nil_append, List.replicate_succ, List.replicate_zero, List.take_succ_cons, List.take_zero, List.drop_succ_cons, List.drop_zero, List.reverse_cons, List.reverse_nil, List.length_cons, List.length_nil, Option.toList, true_and, and_true, eq_self, ↓reduceIte, not_true_eq_false, not_false_eq_true, true_or, or_true, hw, x_throw, hs_137] | (with_reducible refine w_16 hw hR hA (fun v1 x1 => ?_)) | (with_reducible refine w_17 hw hR hA hp (fun v2 x2 => ?_)) | with_reducible refine And.intro ?_ ?_ | with_reducible intro _)
  all_goals (try (first | omega | (exfalso; assumption) | skip))
theorem hs_136 {E : Nat} : pg.2.1 136 E = none := rfl
theorem k136_0 : pg.1 136 0 = [.aload 0, .iload 1, .invokeinterface 143 2, .iload 2, .lookupswitch 155 #[(0, 56), (1, 66), (2, 76), (3, 85), (4, 102), (5, 111), (6, 124), (7, 137), (8, 149)]] := rfl
theorem a136_0 {tb : Tab} {d : Nat} {K : Out → AM → Prop} {ls st : List AV} {m : AM} : At tb d 136 K 0 ls st m = wpB tb (pg.2.1 136) (Runs tb pg d) K (At tb d 136 K) [.aload 0, .iload 1, .invokeinterface 143 2, .iload 2, .lookupswitch 155 #[(0, 56), (1, 66), (2, 76), (3, 85), (4, 102), (5, 111), (6, 124), (7, 137), (8, 149)]] ls st m := At.eq k136_0
theorem k136_56 : pg.1 136 56 = [.aload 0, .getfield 903, .getfield 805, .iload 1, .iaload, .ireturn] := rfl
theorem a136_56 {tb : Tab} {d : Nat} {K : Out → AM → Prop} {ls st : List AV} {m : AM} : At tb d 136 K 56 ls st m = wpB tb (pg.2.1 136) (Runs tb pg d) K (At tb d 136 K) [.aload 0, .getfield 903, .getfield 805, .iload 1, .iaload, .ireturn] ls st m := At.eq k136_56
theorem k136_66 : pg.1 136 66 = [.aload 0, .getfield 903, .getfield 807, .iload 1, .iaload, .ireturn] := rfl
theorem a136_66 {tb : Tab} {d : Nat} {K : Out → AM → Prop} {ls st : List AV} {m : AM} : At tb d 136 K 66 ls st m = wpB tb (pg.2.1 136) (Runs tb pg d) K (At tb d 136 K) [.aload 0, .getfield 903, .getfield 807, .iload 1, .iaload, .ireturn] ls st m := At.eq k136_66
theorem k136_76 : pg.1 136 76 = [.aload 0, .getfield 903, .iload 1, .invokeinterface 117 2, .ireturn] := rfl
theorem a136_76 {tb : Tab} {d : Nat} {K : Out → AM → Prop} {ls st : List AV} {m : AM} : At tb d 136 K 76 ls st m = wpB tb (pg.2.1 136) (Runs tb pg d) K (At tb d 136 K) [.aload 0, .getfield 903, .iload 1, .invokeinterface 117 2, .ireturn] ls st m := At.eq k136_76
theorem k136_85 : pg.1 136 85 = [.aload 0, .getfield 903, .iload 1, .invokeinterface 118 2, .ifCond .eq 100, .bipush 1, .goto 101] := rfl
theorem a136_85 {tb : Tab} {d : Nat} {K : Out → AM → Prop} {ls st : List AV} {m : AM} : At tb d 136 K 85 ls st m = wpB tb (pg.2.1 136) (Runs tb pg d) K (At tb d 136 K) [.aload 0, .getfield 903, .iload 1, .invokeinterface 118 2, .ifCond .eq 100, .bipush 1, .goto 101] ls st m := At.eq k136_85
theorem k136_100 : pg.1 136 100 = [.bipush 0, .jsr 101] := rfl
theorem a136_100 {tb : Tab} {d : Nat} {K : Out → AM → Prop} {ls st : List AV} {m : AM} : At tb d 136 K 100 ls st m = wpB tb (pg.2.1 136) (Runs tb pg d) K (At tb d 136 K) [.bipush 0, .jsr 101] ls st m := At.eq k136_100
theorem k136_101 : pg.1 136 101 = [.ireturn] := rfl
theorem a136_101 {tb : Tab} {d : Nat} {K : Out → AM → Prop} {ls st : List AV} {m : AM} : At tb d 136 K 101 ls st m = wpB tb (pg.2.1 136) (Runs tb pg d) K (At tb d 136 K) [.ireturn] ls st m := At.eq k136_101
theorem k136_102 : pg.1 136 102 = [.aload 0, .getfield 903, .iload 1, .invokeinterface 120 2, .ireturn] := rfl
theorem a136_102 {tb : Tab} {d : Nat} {K : Out → AM → Prop} {ls st : List AV} {m : AM} : At tb d 136 K 102 ls st m = wpB tb (pg.2.1 136) (Runs tb pg d) K (At tb d 136 K) [.aload 0, .getfield 903, .iload 1, .invokeinterface 120 2, .ireturn] ls st m := At.eq k136_102
theorem k136_111 : pg.1 136 111 = [.aload 0, .getfield 913, .aload 0, .getfield 903, .iload 1, .invokeinterface 24 3, .ireturn] := rfl
theorem a136_111 {tb : Tab} {d : Nat} {K : Out → AM → Prop} {ls st : List AV} {m : AM} : At tb d 136 K 111 ls st m = wpB tb (pg.2.1 136) (Runs tb pg d) K (At tb d 136 K) [.aload 0, .getfield 913, .aload 0, .getfield 903, .iload 1, .invokeinterface 24 3, .ireturn] ls st m := At.eq k136_111
theorem k136_124 : pg.1 136 124 = [.aload 0, .getfield 913, .aload 0, .getfield 903, .iload 1, .invokeinterface 25 3, .ireturn] := rfl
theorem a136_124 {tb : Tab} {d : Nat} {K : Out → AM → Prop} {ls st : List AV} {m : AM} : At tb d 136 K 124 ls st m = wpB tb (pg.2.1 136) (Runs tb pg d) K (At tb d 136 K) [.aload 0, .getfield 913, .aload 0, .getfield 903, .iload 1, .invokeinterface 25 3, .ireturn] ls st m := At.eq k136_124
theorem k136_137 : pg.1 136 137 = [.aload 0, .getfield 903, .getfield 810, .iload 1, .invokeinterface 18 2, .ireturn] := rfl
theorem a136_137 {tb : Tab} {d : Nat} {K : Out → AM → Prop} {ls st : List AV} {m : AM} : At tb d 136 K 137 ls st m = wpB tb (pg.2.1 136) (Runs tb pg d) K (At tb d 136 K) [.aload 0, .getfield 903, .getfield 810, .iload 1, .invokeinterface 18 2, .ireturn] ls st m := At.eq k136_137
theorem k136_149 : pg.1 136 149 = [.aload 0, .iload 1, .invokeinterface 137 2, .ireturn] := rfl
theorem a136_149 {tb : Tab} {d : Nat} {K : Out → AM → Prop} {ls st : List AV} {m : AM} : At tb d 136 K 149 ls st m = wpB tb (pg.2.1 136) (Runs tb pg d) K (At tb d 136 K) [.aload 0, .iload 1, .invokeinterface 137 2, .ireturn] ls st m := At.eq k136_149
theorem k136_155 : pg.1 136 155 = [.invokedynamic 4] := rfl
theorem a136_155 {tb : Tab} {d : Nat} {K : Out → AM → Prop} {ls st : List AV} {m : AM} : At tb d 136 K 155 ls st m = wpB tb (pg.2.1 136) (Runs tb pg d) K (At tb d 136 K) [.invokedynamic 4] ls st m := At.eq k136_155
theorem w_136 {p w : Int} (hR : RW S 2 r) (hA : AB r) (hp : R32 p) (hv : R32 w) (hS : DS r) (hl : LWo m (S 2 15) (lawD r)) (hX1 : ¬ (0 ≤ p ∧ p < r 4) → K (.inr 2) (X S (mthrow m))) (hX2 : (0 ≤ p ∧ p < r 4) → ¬ (0 ≤ w ∧ w ≤ 8) → K (.inr 4) (X S (mthrow m))) (hK : ∀ T m1 v, (0 ≤ p ∧ p < r 4) → (0 ≤ w ∧ w ≤ 8) → perM evL (fun _ => r) p w v → EFr S T 2 → MS m m1 → K (.inl (some (vi v))) (X T m1)) : Runs tb pg (d + 8) 136 [vr 0, vi p, vi w] (X S m) K := by
  have hw := isW_2
  have b3 := hA.2.1.1
  have b4 := hA.2.1.2.1
  have b5 := hA.2.1.2.2.1
  have uhp := hp
  unfold R32 at uhp
  have uhv := hv
  unfold R32 at uhv
  refine Runs.of (al := [vr 0, vi p, vi w]) (n := 0) ⟨0, _, _, rfl, xo_0⟩ rfl rfl trivial ?_
  repeat' (first | omega | (exact hX1 z1) | (exact hX2 z1 (by omega)) | (exact hK S m _ z1 (by omega) (perM_0 (S := fun _ => r) (by omega) (by rw [show w = 0 by omega]; rfl)) EFr_r MS_r) | (exact hK S m _ z1 (by omega) (perM_0 (S := fun _ => r) (by omega) (by rw [show w = 1 by omega]; rfl)) EFr_r MS_r) | (exact hK S m _ z1 (by omega) (perM_2 (S := fun _ => r) (by omega) (x2)) EFr_r MS_r) | (exact hK S m _ z1 (by omega) (perM_3 (S := fun _ => r) (by omega) (Or.inl ⟨rfl, by rcases x3 with ⟨a, b⟩ | ⟨a, b⟩; exact b; exfalso; omega⟩)) EFr_r MS_r) | (exact hK S m _ z1 (by omega) (perM_3 (S := fun _ => r) (by omega) (Or.inr ⟨rfl, by rcases x3 with ⟨a, b⟩ | ⟨a, b⟩; exfalso; omega; exact b⟩)) EFr_r MS_r) | (exact hK S m _ z1 (by omega) (perM_4 (S := fun _ => r) (by omega) (x4)) EFr_r MS_r) | (exact hK T5 m5 _ z1 (by omega) (perM_5 (S := fun _ => r) (by omega) ⟨n5, y5, x5⟩) (EFr_W f5) u5) | (exact hK T6 m6 _ z1 (by omega) (perM_6 (S := fun _ => r) (by omega) x6) f6 u6) | (exact hK S m _ z1 (by omega) (perM_7 (S := fun _ => r) (by omega) (x7)) EFr_r MS_r) | (by_cases y : sumZ (r 5) (fun k => dr r k 2) = 0; (exact hK S m _ z1 (by omega) (by rw [x8 y]; exact perM_80 (S := fun _ => r) (by omega) y) EFr_r MS_r); exact hK S m _ z1 (by omega) (perM_8 (S := fun _ => r) (by omega) y (y8 y)) EFr_r MS_r) | simp only [w_aload, w_iload, w_call, w_switch, swB, Int.reduceToNat, x_g903_0, x_g805_w0, x_iald, w_ialoads, w_ialoadw, w_ireturn, x_g807_w0, w_if, cI, w_iconst, w_goto, w_fall, x_g913_0, x_g810_w0, w_throw, isA_w1, isA_w2, isA_w3, isA_w4, isA_w5, isA_w6, isA_w7, isA_w8, isA_w10, isA_w11, isA_w12, isA_w14, isA_w15, isA_w16, len_w1, len_w2, len_w3, len_w4, len_w5, len_w6, len_w7, len_w8, len_w10, len_w11, len_w12, len_w14, len_w15, len_w16, Int.cast_ofNat_Int, a136_0, a136_56, a136_66, a136_76, a136_85, a136_100, a136_101, a136_102, a136_111, a136_124, a136_137, a136_149, a136_155, R32, List.getElem?_cons_zero, List.getElem?_cons_succ, List.set_cons_zero, List.set_cons_succ, List.cons_append, List.nil_append, List.replicate_succ, List.replicate_zero, List.take_succ_cons, List.take_zero, List.drop_succ_cons, List.drop_zero, List.reverse_cons, List.reverse_nil, List.length_cons, List.length_nil, Option.toList, true_and, and_true, eq_self, ↓reduceIte, not_true_eq_false, not_false_eq_true, true_or, or_true, hw, x_throw, hs_136] | ((with_reducible refine w_143 hR hA hp (fun z1 => ?_) (fun z1 => ?_)); rotate_left; have zz := AB_pp hA z1.1 z1.2; have e4 := (hR.2.2.1 p z1.1 z1.2).1; have e6 := (hR.2.2.1 p z1.1 z1.2).2.1) | (rw [e4]) | (rw [e6]) | (with_reducible refine w_117 hw hR hA z1 (fun v2 x2 => ?_)) | ((with_reducible refine w_118 hw hR hA z1 (fun v3 x3 => ?_)); have gy3 := yn_b x3) | (with_reducible refine w_120 hw hR hA z1 (fun v4 x4 => ?_)) | (with_reducible refine w_24 hw (by decide : (2 : Nat) ≠ 71) hR hA hl z1 (fun T5 m5 v5 n5 y5 x5 f5 u5 => ?_)) | (with_reducible refine w_25 hw (by decide : (2 : Nat) ≠ 71) hR hA hl z1 (fun T6 m6 v6 x6 f6 u6 => ?_)) | (with_reducible refine w_18 hw hR hA hp (fun v7 x7 => ?_)) | (with_reducible refine w_137 hR hA hS hp (fun v8 x8 y8 => ?_)) | with_reducible refine And.intro ?_ ?_ | with_reducible intro _)
  all_goals (try (first | omega | (exfalso; assumption) | skip))
theorem hs_156 {E : Nat} : pg.2.1 156 E = none := rfl
theorem k156_0 : pg.1 156 0 = [.iload 2, .bipush (-1), .if_icmp .eq 10, .aload 0, .iload 2, .invokeinterface 143 2, .jsr 10] := rfl
theorem a156_0 {tb : Tab} {d : Nat} {K : Out → AM → Prop} {ls st : List AV} {m : AM} : At tb d 156 K 0 ls st m = wpB tb (pg.2.1 156) (Runs tb pg d) K (At tb d 156 K) [.iload 2, .bipush (-1), .if_icmp .eq 10, .aload 0, .iload 2, .invokeinterface 143 2, .jsr 10] ls st m := At.eq k156_0
theorem k156_10 : pg.1 156 10 = [.iload 1, .bipush 1, .bipush 60, .invokeinterface 145 3, .aload 0, .getfield 913, .aload 0, .getfield 903, .iload 1, .invokeinterface 28 3, .iload 2, .bipush (-1), .if_icmp .ne 44, .aload 0, .getfield 913, .invokeinterface 32 1, .goto 52] := rfl
theorem a156_10 {tb : Tab} {d : Nat} {K : Out → AM → Prop} {ls st : List AV} {m : AM} : At tb d 156 K 10 ls st m = wpB tb (pg.2.1 156) (Runs tb pg d) K (At tb d 156 K) [.iload 1, .bipush 1, .bipush 60, .invokeinterface 145 3, .aload 0, .getfield 913, .aload 0, .getfield 903, .iload 1, .invokeinterface 28 3, .iload 2, .bipush (-1), .if_icmp .ne 44, .aload 0, .getfield 913, .invokeinterface 32 1, .goto 52] ls st m := At.eq k156_10
theorem k156_44 : pg.1 156 44 = [.aload 0, .getfield 913, .iload 2, .invokeinterface 33 2, .jsr 52] := rfl
theorem a156_44 {tb : Tab} {d : Nat} {K : Out → AM → Prop} {ls st : List AV} {m : AM} : At tb d 156 K 44 ls st m = wpB tb (pg.2.1 156) (Runs tb pg d) K (At tb d 156 K) [.aload 0, .getfield 913, .iload 2, .invokeinterface 33 2, .jsr 52] ls st m := At.eq k156_44
theorem k156_52 : pg.1 156 52 = [.ireturn] := rfl
theorem a156_52 {tb : Tab} {d : Nat} {K : Out → AM → Prop} {ls st : List AV} {m : AM} : At tb d 156 K 52 ls st m = wpB tb (pg.2.1 156) (Runs tb pg d) K (At tb d 156 K) [.ireturn] ls st m := At.eq k156_52
theorem w_156 {n p : Int} (hR : RW S 2 r) (hA : AB r) (hn : R32 n) (hp : R32 p) (hl : LWo m (S 2 15) (lawD r)) (hX1 : p ≠ -1 → ¬ (0 ≤ p ∧ p < r 4) → K (.inr 2) (X S (mthrow m))) (hX2 : (p = -1 ∨ (0 ≤ p ∧ p < r 4)) → ¬ (1 ≤ n ∧ n ≤ 60) → K (.inr 1) (X S (mthrow m))) (hK : ∀ T m1 v, (1 ≤ n ∧ n ≤ 60) → (p = -1 ∨ (0 ≤ p ∧ p < r 4)) → tlO r n T → EIr S T 2 → MS m m1 → ((p = -1 ∧ v = T 70 6) ∨ (p ≠ -1 ∧ v = T 92 p)) → K (.inl (some (vi v))) (X T m1)) : Runs tb pg (d + 9) 156 [vr 0, vi n, vi p] (X S m) K := by
  have hw := isW_2
  have b3 := hA.2.1.1
  have b4 := hA.2.1.2.1
  have b5 := hA.2.1.2.2.1
  have uhn := hn
  unfold R32 at uhn
  have uhp := hp
  unfold R32 at uhp
  refine Runs.of (al := [vr 0, vi n, vi p]) (n := 0) ⟨0, _, _, rfl, xo_0⟩ rfl rfl trivial ?_
  repeat' (first | omega | (exact hX1 (by omega) z1) | (exact hX2 (by omega) z2) | (exact hK T8 m8 _ z2 (by omega) y8 x8 u8 (Or.inl ⟨by omega, rfl⟩)) | (exact hK T8 m8 _ z2 (by omega) y8 x8 u8 (Or.inr ⟨by omega, rfl⟩)) | simp only [w_iload, w_iconst, w_ifc, cI, Int.reduceToNat, w_aload, w_call, w_fall, x_g913_0, x_g903_0, w_goto, w_ireturn, a156_0, a156_10, a156_44, a156_52, R32, List.getElem?_cons_zero, List.getElem?_cons_succ, List.set_cons_zero, List.set_cons_succ, List.cons_append, List.nil_append, List.replicate_succ, List.replicate_zero, List.take_succ_cons, List.take_zero, List.drop_succ_cons, List.drop_zero, List.reverse_cons, List.reverse_nil, List.length_cons, List.length_nil, Option.toList, true_and, and_true, eq_self, ↓reduceIte, not_true_eq_false, not_false_eq_true, true_or, or_true, hw, x_throw, hs_156] | (with_reducible refine w_143 hR hA hp (fun z1 => ?_) (fun z1 => ?_)) | (with_reducible refine w_145 hn (by unfold R32; omega) (by unfold R32; omega) (fun z2 => ?_) (fun z2 => ?_)) | (with_reducible refine w_28 hw (by decide : (2 : Nat) ≠ 71) hR hA hl (by omega) (fun T8 m8 y8 x8 u8 => ?_)) | (with_reducible refine w_32 ?_) | (with_reducible refine w_33 ⟨?_, ?_⟩ ?_) | with_reducible refine And.intro ?_ ?_ | with_reducible intro _)
  all_goals (try (first | omega | (exfalso; assumption) | skip))
theorem hs_134 {E : Nat} : pg.2.1 134 E = none := rfl
theorem k134_0 : pg.1 134 0 = [.aload 0, .getfield 901, .istore 1, .aload 0, .bipush 0, .putfield 901, .iload 1, .ireturn] := rfl
theorem a134_0 {tb : Tab} {d : Nat} {K : Out → AM → Prop} {ls st : List AV} {m : AM} : At tb d 134 K 0 ls st m = wpB tb (pg.2.1 134) (Runs tb pg d) K (At tb d 134 K) [.aload 0, .getfield 901, .istore 1, .aload 0, .bipush 0, .putfield 901, .iload 1, .ireturn] ls st m := At.eq k134_0
theorem w_134   (hK : K (.inl (some (vi (S 0 1)))) (X (upS S 0 1 0) m)) : Runs tb pg (d + 1) 134 [vr 0] (X S m) K := by
  refine Runs.of (al := [vr 0]) (n := 1) ⟨0, _, _, rfl, xo_0⟩ rfl rfl trivial ?_
  repeat' (first | omega | with_reducible exact hK | simp only [w_aload, x_g901_0, w_istore, w_iconst, x_p901_0, w_iload, w_ireturn, a134_0, R32, List.getElem?_cons_zero, List.getElem?_cons_succ, List.set_cons_zero, List.set_cons_succ, List.cons_append, List.nil_append, List.replicate_succ, List.replicate_zero, List.take_succ_cons, List.take_zero, List.drop_succ_cons, List.drop_zero, List.reverse_cons, List.reverse_nil, List.length_cons, List.length_nil, Option.toList, true_and, and_true, eq_self, ↓reduceIte, not_true_eq_false, not_false_eq_true, true_or, or_true, x_throw, hs_134] | with_reducible refine And.intro ?_ ?_ | with_reducible intro _)
  all_goals (try (first | omega | (exfalso; assumption) | skip))
theorem hs_160 {E : Nat} : pg.2.1 160 E = none := rfl
theorem k160_0 : pg.1 160 0 = [.aload 0, .invokeinterface 134 1, .istore 1, .aload 0, .getfield 900, .iload 1, .invokeinterface 55 2, .ifCond .ne 27, .invokedynamic 1] := rfl
theorem a160_0 {tb : Tab} {d : Nat} {K : Out → AM → Prop} {ls st : List AV} {m : AM} : At tb d 160 K 0 ls st m = wpB tb (pg.2.1 160) (Runs tb pg d) K (At tb d 160 K) [.aload 0, .invokeinterface 134 1, .istore 1, .aload 0, .getfield 900, .iload 1, .invokeinterface 55 2, .ifCond .ne 27, .invokedynamic 1] ls st m := At.eq k160_0
theorem k160_27 : pg.1 160 27 = [.iload 1, .ireturn] := rfl
theorem a160_27 {tb : Tab} {d : Nat} {K : Out → AM → Prop} {ls st : List AV} {m : AM} : At tb d 160 K 27 ls st m = wpB tb (pg.2.1 160) (Runs tb pg d) K (At tb d 160 K) [.iload 1, .ireturn] ls st m := At.eq k160_27
theorem w_160  (h1 : 0 ≤ S 0 1 ∧ S 0 1 ≤ 400) (hB : ∀ j, 0 ≤ j → j < 400 → 0 ≤ S 1 j ∧ S 1 j < 256) (hX : ¬ goodT (S 1) (S 0 1) → K (.inr 1) (X (upS S 0 1 0) (mthrow m))) (hK : goodT (S 1) (S 0 1) → K (.inl (some (vi (S 0 1)))) (X (upS S 0 1 0) m)) : Runs tb pg (d + 2) 160 [vr 0] (X S m) K := by
  have e1 : upS S 0 1 0 1 = S 1 := up_lit (by decide)
  refine Runs.of (al := [vr 0]) (n := 1) ⟨0, _, _, rfl, xo_0⟩ rfl rfl trivial ?_
  repeat' (first | omega | (exact hX (by rcases x1 with ⟨a, b⟩ | ⟨a, b⟩; exfalso; omega; exact b)) | (exact hK (by rcases x1 with ⟨a, b⟩ | ⟨a, b⟩; exact b; exfalso; omega)) | simp only [w_aload, w_call, w_istore, x_g900_0, w_iload, w_if, cI, Int.reduceToNat, w_throw, w_ireturn, a160_0, a160_27, R32, List.getElem?_cons_zero, List.getElem?_cons_succ, List.set_cons_zero, List.set_cons_succ, List.cons_append, List.nil_append, List.replicate_succ, List.replicate_zero, List.take_succ_cons, List.take_zero, List.drop_succ_cons, List.drop_zero, List.reverse_cons, List.reverse_nil, List.length_cons, List.length_nil, Option.toList, true_and, and_true, eq_self, ↓reduceIte, not_true_eq_false, not_false_eq_true, true_or, or_true, x_throw, hs_160] | (with_reducible refine w_134 ?_) | ((refine w_55 h1 (by rw [e1]; exact hB) (fun v1 x1 => ?_)); rw [e1] at x1; have gy1 := yn_b x1) | with_reducible refine And.intro ?_ ?_ | with_reducible intro _)
  all_goals (try (first | omega | (exfalso; assumption) | skip))
theorem hs_157 {E : Nat} : pg.2.1 157 E = none := rfl
theorem k157_0 : pg.1 157 0 = [.aload 0, .invokeinterface 160 1, .istore 1, .aload 0, .getfield 912, .aload 0, .getfield 903, .aload 0, .getfield 900, .iload 1, .invokeinterface 58 4, .ireturn] := rfl
theorem a157_0 {tb : Tab} {d : Nat} {K : Out → AM → Prop} {ls st : List AV} {m : AM} : At tb d 157 K 0 ls st m = wpB tb (pg.2.1 157) (Runs tb pg d) K (At tb d 157 K) [.aload 0, .invokeinterface 160 1, .istore 1, .aload 0, .getfield 912, .aload 0, .getfield 903, .aload 0, .getfield 900, .iload 1, .invokeinterface 58 4, .ireturn] ls st m := At.eq k157_0
theorem w_157 (hR : RW S 2 r) (hA : AB r) (hV : GV r) (h1 : 0 ≤ S 0 1 ∧ S 0 1 ≤ 400) (hB : ∀ j, 0 ≤ j → j < 400 → 0 ≤ S 1 j ∧ S 1 j < 256) (hX : ¬ goodT (S 1) (S 0 1) → K (.inr 1) (X (upS S 0 1 0) (mthrow m))) (hK : ∀ v, goodT (S 1) (S 0 1) → v = setZ (r 4) (fun p => wrM (pr r) (S 1) p (S 0 1 / 2) ≤ 1) → K (.inl (some (vi v))) (X (upS S 0 1 0) m)) : Runs tb pg (d + 4) 157 [vr 0] (X S m) K := by
  have hw := isW_2
  have b3 := hA.2.1.1
  have b4 := hA.2.1.2.1
  have b5 := hA.2.1.2.2.1
  have hR1 : RW (upS S 0 1 0) 2 r := RW_k hR (fun k hk => up_lit (by omega))
  refine Runs.of (al := [vr 0]) (n := 1) ⟨0, _, _, rfl, xo_0⟩ rfl rfl trivial ?_
  repeat' (first | omega | (exact hX z) | (exact hK _ z x5) | simp only [w_aload, w_call, w_istore, x_g912_0, x_g903_0, x_g900_0, w_iload, w_ireturn, a157_0, R32, List.getElem?_cons_zero, List.getElem?_cons_succ, List.set_cons_zero, List.set_cons_succ, List.cons_append, List.nil_append, List.replicate_succ, List.replicate_zero, List.take_succ_cons, List.take_zero, List.drop_succ_cons, List.drop_zero, List.reverse_cons, List.reverse_nil, List.length_cons, List.length_nil, Option.toList, true_and, and_true, eq_self, ↓reduceIte, not_true_eq_false, not_false_eq_true, true_or, or_true, hw, x_throw, hs_157] | (with_reducible refine w_160 h1 hB (fun z => ?_) (fun z => ?_)) | (have gr := good_rows hB h1.1 z; (refine w_58 hw hR1 hA hV gr.1 gr.2 (fun v5 x5 => ?_))) | with_reducible refine And.intro ?_ ?_ | with_reducible intro _)
  all_goals (try (first | omega | (exfalso; assumption) | skip))
theorem hs_158 {E : Nat} : pg.2.1 158 E = none := rfl
theorem k158_0 : pg.1 158 0 = [.aload 0, .invokeinterface 160 1, .istore 1, .aload 0, .getfield 912, .aload 0, .getfield 903, .aload 0, .getfield 900, .iload 1, .invokeinterface 59 4, .ireturn] := rfl
theorem a158_0 {tb : Tab} {d : Nat} {K : Out → AM → Prop} {ls st : List AV} {m : AM} : At tb d 158 K 0 ls st m = wpB tb (pg.2.1 158) (Runs tb pg d) K (At tb d 158 K) [.aload 0, .invokeinterface 160 1, .istore 1, .aload 0, .getfield 912, .aload 0, .getfield 903, .aload 0, .getfield 900, .iload 1, .invokeinterface 59 4, .ireturn] ls st m := At.eq k158_0
theorem w_158 (hR : RW S 2 r) (hA : AB r) (hV : GV r) (h1 : 0 ≤ S 0 1 ∧ S 0 1 ≤ 400) (hB : ∀ j, 0 ≤ j → j < 400 → 0 ≤ S 1 j ∧ S 1 j < 256) (hX : ¬ goodT (S 1) (S 0 1) → K (.inr 1) (X (upS S 0 1 0) (mthrow m))) (hK : ∀ v, goodT (S 1) (S 0 1) → isMinP (fun p => wrM (pr r) (S 1) p (S 0 1 / 2) ≤ 1) (fun p => wrM (pr r) (S 1) p (S 0 1 / 2)) (r 4) v → K (.inl (some (vi v))) (X (upS S 0 1 0) m)) : Runs tb pg (d + 4) 158 [vr 0] (X S m) K := by
  have hw := isW_2
  have b3 := hA.2.1.1
  have b4 := hA.2.1.2.1
  have b5 := hA.2.1.2.2.1
  have hR1 : RW (upS S 0 1 0) 2 r := RW_k hR (fun k hk => up_lit (by omega))
  refine Runs.of (al := [vr 0]) (n := 1) ⟨0, _, _, rfl, xo_0⟩ rfl rfl trivial ?_
  repeat' (first | omega | (exact hX z) | (exact hK _ z x5) | simp only [w_aload, w_call, w_istore, x_g912_0, x_g903_0, x_g900_0, w_iload, w_ireturn, a158_0, R32, List.getElem?_cons_zero, List.getElem?_cons_succ, List.set_cons_zero, List.set_cons_succ, List.cons_append, List.nil_append, List.replicate_succ, List.replicate_zero, List.take_succ_cons, List.take_zero, List.drop_succ_cons, List.drop_zero, List.reverse_cons, List.reverse_nil, List.length_cons, List.length_nil, Option.toList, true_and, and_true, eq_self, ↓reduceIte, not_true_eq_false, not_false_eq_true, true_or, or_true, hw, x_throw, hs_158] | (with_reducible refine w_160 h1 hB (fun z => ?_) (fun z => ?_)) | (have gr := good_rows hB h1.1 z; (refine w_59 hw hR1 hA hV gr.1 gr.2 (fun v5 x5 => ?_))) | with_reducible refine And.intro ?_ ?_ | with_reducible intro _)
  all_goals (try (first | omega | (exfalso; assumption) | skip))
theorem hs_159 {E : Nat} : pg.2.1 159 E = none := rfl
theorem k159_0 : pg.1 159 0 = [.aload 0, .invokeinterface 160 1, .istore 1, .aload 0, .getfield 912, .aload 0, .getfield 903, .aload 0, .getfield 912, .aload 0, .getfield 903, .aload 0, .getfield 900, .iload 1, .invokeinterface 58 4, .invokeinterface 60 3, .ireturn] := rfl
theorem a159_0 {tb : Tab} {d : Nat} {K : Out → AM → Prop} {ls st : List AV} {m : AM} : At tb d 159 K 0 ls st m = wpB tb (pg.2.1 159) (Runs tb pg d) K (At tb d 159 K) [.aload 0, .invokeinterface 160 1, .istore 1, .aload 0, .getfield 912, .aload 0, .getfield 903, .aload 0, .getfield 912, .aload 0, .getfield 903, .aload 0, .getfield 900, .iload 1, .invokeinterface 58 4, .invokeinterface 60 3, .ireturn] ls st m := At.eq k159_0
theorem w_159 (hR : RW S 2 r) (hA : AB r) (hV : GV r) (h1 : 0 ≤ S 0 1 ∧ S 0 1 ≤ 400) (hB : ∀ j, 0 ≤ j → j < 400 → 0 ≤ S 1 j ∧ S 1 j < 256) (hX : ¬ goodT (S 1) (S 0 1) → K (.inr 1) (X (upS S 0 1 0) (mthrow m))) (hK : ∀ v, goodT (S 1) (S 0 1) → lookM (pr r) (r 4) (setZ (r 4) (fun p => wrM (pr r) (S 1) p (S 0 1 / 2) ≤ 1)) v → K (.inl (some (vi v))) (X (upS S 0 1 0) m)) : Runs tb pg (d + 4) 159 [vr 0] (X S m) K := by
  have hw := isW_2
  have b3 := hA.2.1.1
  have b4 := hA.2.1.2.1
  have b5 := hA.2.1.2.2.1
  have hR1 : RW (upS S 0 1 0) 2 r := RW_k hR (fun k hk => up_lit (by omega))
  refine Runs.of (al := [vr 0]) (n := 1) ⟨0, _, _, rfl, xo_0⟩ rfl rfl trivial ?_
  repeat' (first | omega | (exact hX z) | (exact hK _ z (by have e : v5 = setZ (r 4) (fun p => wrM (pr r) (S 1) p (S 0 1 / 2) ≤ 1) := x5; rw [← e]; exact x6)) | simp only [w_aload, w_call, w_istore, x_g912_0, x_g903_0, x_g900_0, w_iload, w_ireturn, a159_0, R32, List.getElem?_cons_zero, List.getElem?_cons_succ, List.set_cons_zero, List.set_cons_succ, List.cons_append, List.nil_append, List.replicate_succ, List.replicate_zero, List.take_succ_cons, List.take_zero, List.drop_succ_cons, List.drop_zero, List.reverse_cons, List.reverse_nil, List.length_cons, List.length_nil, Option.toList, true_and, and_true, eq_self, ↓reduceIte, not_true_eq_false, not_false_eq_true, true_or, or_true, hw, x_throw, hs_159] | (with_reducible refine w_160 h1 hB (fun z => ?_) (fun z => ?_)) | (have gr := good_rows hB h1.1 z; (refine w_58 hw hR1 hA hV gr.1 gr.2 (fun v5 x5 => ?_))) | (have sl : 0 ≤ v5 ∧ v5 < 64 := (by have a := setZ_lt (n := r 4) (c := fun p => wrM (pr r) (S 1) p (S 0 1 / 2) ≤ 1) b4.1; have b := pw_le (q := 6) b4.1 b4.2; have c : pw 6 = 64 := rfl; have e : v5 = setZ (r 4) (fun p => wrM (pr r) (S 1) p (S 0 1 / 2) ≤ 1) := x5; omega); (with_reducible refine w_60 hw hR1 hA hV sl (fun v6 x6 => ?_))) | with_reducible refine And.intro ?_ ?_ | with_reducible intro _)
  all_goals (try (first | omega | (exfalso; assumption) | skip))
theorem hs_161 {E : Nat} : pg.2.1 161 E = none := rfl
theorem k161_0 : pg.1 161 0 = [.aload 0, .getfield 912, .aload 0, .getfield 903, .invokeinterface 62 2, .ireturn] := rfl
theorem a161_0 {tb : Tab} {d : Nat} {K : Out → AM → Prop} {ls st : List AV} {m : AM} : At tb d 161 K 0 ls st m = wpB tb (pg.2.1 161) (Runs tb pg d) K (At tb d 161 K) [.aload 0, .getfield 912, .aload 0, .getfield 903, .invokeinterface 62 2, .ireturn] ls st m := At.eq k161_0
theorem w_161 (hR : RW S 2 r) (hA : AB r) (hV : GV r) (hK : ∀ v, isMinP (tellsM (pr r) (r 4)) (fun s => bitsM s 31) 64 v → K (.inl (some (vi v))) (X S m)) : Runs tb pg (d + 5) 161 [vr 0] (X S m) K := by
  have hw := isW_2
  have b3 := hA.2.1.1
  have b4 := hA.2.1.2.1
  have b5 := hA.2.1.2.2.1
  refine Runs.of (al := [vr 0]) (n := 0) ⟨0, _, _, rfl, xo_0⟩ rfl rfl trivial ?_
  repeat' (first | omega | (exact hK _ x1) | simp only [w_aload, x_g912_0, x_g903_0, w_call, w_ireturn, a161_0, R32, List.getElem?_cons_zero, List.getElem?_cons_succ, List.set_cons_zero, List.set_cons_succ, List.cons_append, List.nil_append, List.replicate_succ, List.replicate_zero, List.take_succ_cons, List.take_zero, List.drop_succ_cons, List.drop_zero, List.reverse_cons, List.reverse_nil, List.length_cons, List.length_nil, Option.toList, true_and, and_true, eq_self, ↓reduceIte, not_true_eq_false, not_false_eq_true, true_or, or_true, hw, x_throw, hs_161] | (with_reducible refine w_62 hw hR hA hV (fun v1 x1 => ?_)) | with_reducible refine And.intro ?_ ?_ | with_reducible intro _)
  all_goals (try (first | omega | (exfalso; assumption) | skip))
theorem hs_162 {E : Nat} : pg.2.1 162 E = none := rfl
theorem k162_0 : pg.1 162 0 = [.aload 0, .iload 1, .invokeinterface 143 2, .aload 0, .iload 2, .invokeinterface 143 2, .aload 0, .getfield 912, .aload 0, .getfield 903, .iload 1, .iload 2, .invokeinterface 66 4, .ireturn] := rfl
theorem a162_0 {tb : Tab} {d : Nat} {K : Out → AM → Prop} {ls st : List AV} {m : AM} : At tb d 162 K 0 ls st m = wpB tb (pg.2.1 162) (Runs tb pg d) K (At tb d 162 K) [.aload 0, .iload 1, .invokeinterface 143 2, .aload 0, .iload 2, .invokeinterface 143 2, .aload 0, .getfield 912, .aload 0, .getfield 903, .iload 1, .iload 2, .invokeinterface 66 4, .ireturn] ls st m := At.eq k162_0
theorem w_162 {p q : Int} (hR : RW S 2 r) (hA : AB r) (hp : R32 p) (hq : R32 q) (hV : GV r) (hX : ¬ ((0 ≤ p ∧ p < r 4) ∧ (0 ≤ q ∧ q < r 4)) → K (.inr 2) (X S (mthrow m))) (hK : ∀ T v, (0 ≤ p ∧ p < r 4) → (0 ≤ q ∧ q < r 4) → v = edZ (pr r) p q (pr r p 0) (pr r q 0) → FxE 65 S T → K (.inl (some (vi v))) (X T m)) : Runs tb pg (d + 3) 162 [vr 0, vi p, vi q] (X S m) K := by
  have hw := isW_2
  have b3 := hA.2.1.1
  have b4 := hA.2.1.2.1
  have b5 := hA.2.1.2.2.1
  have uhp := hp
  unfold R32 at uhp
  have uhq := hq
  unfold R32 at uhq
  refine Runs.of (al := [vr 0, vi p, vi q]) (n := 0) ⟨0, _, _, rfl, xo_0⟩ rfl rfl trivial ?_
  repeat' (first | omega | (exact hX (fun y => z1 y.1)) | (exact hX (fun y => z2 y.2)) | (exact hK _ _ z1 z2 x5 f5) | simp only [w_aload, w_iload, w_call, x_g912_0, x_g903_0, w_ireturn, a162_0, R32, List.getElem?_cons_zero, List.getElem?_cons_succ, List.set_cons_zero, List.set_cons_succ, List.cons_append, List.nil_append, List.replicate_succ, List.replicate_zero, List.take_succ_cons, List.take_zero, List.drop_succ_cons, List.drop_zero, List.reverse_cons, List.reverse_nil, List.length_cons, List.length_nil, Option.toList, true_and, and_true, eq_self, ↓reduceIte, not_true_eq_false, not_false_eq_true, true_or, or_true, hw, x_throw, hs_162] | (with_reducible refine w_143 hR hA hp (fun z1 => ?_) (fun z1 => ?_)) | (with_reducible refine w_143 hR hA hq (fun z2 => ?_) (fun z2 => ?_)) | (with_reducible refine w_66 hw hR hA hV z1 z2 (fun T5 v5 x5 f5 g5 h5 => ?_)) | with_reducible refine And.intro ?_ ?_ | with_reducible intro _)
  all_goals (try (first | omega | (exfalso; assumption) | skip))
theorem hs_163 {E : Nat} : pg.2.1 163 E = none := rfl
theorem k163_0 : pg.1 163 0 = [.aload 0, .iload 1, .invokeinterface 143 2, .aload 0, .iload 2, .invokeinterface 143 2, .aload 0, .getfield 903, .iload 1, .iload 2, .invokeinterface 68 3, .freturn] := rfl
theorem a163_0 {tb : Tab} {d : Nat} {K : Out → AM → Prop} {ls st : List AV} {m : AM} : At tb d 163 K 0 ls st m = wpB tb (pg.2.1 163) (Runs tb pg d) K (At tb d 163 K) [.aload 0, .iload 1, .invokeinterface 143 2, .aload 0, .iload 2, .invokeinterface 143 2, .aload 0, .getfield 903, .iload 1, .iload 2, .invokeinterface 68 3, .freturn] ls st m := At.eq k163_0
theorem w_163 {p q : Int} (hR : RW S 2 r) (hA : AB r) (hp : R32 p) (hq : R32 q) (hV : GV r) (hX : ¬ ((0 ≤ p ∧ p < r 4) ∧ (0 ≤ q ∧ q < r 4)) → K (.inr 2) (X S (mthrow m))) (hK : ∀ v, (0 ≤ p ∧ p < r 4) → (0 ≤ q ∧ q < r 4) → yn v (mixM (pr r) p q) → K (.inl (some (vi v))) (X S m)) : Runs tb pg (d + 4) 163 [vr 0, vi p, vi q] (X S m) K := by
  have hw := isW_2
  have b3 := hA.2.1.1
  have b4 := hA.2.1.2.1
  have b5 := hA.2.1.2.2.1
  have uhp := hp
  unfold R32 at uhp
  have uhq := hq
  unfold R32 at uhq
  refine Runs.of (al := [vr 0, vi p, vi q]) (n := 0) ⟨0, _, _, rfl, xo_0⟩ rfl rfl trivial ?_
  repeat' (first | omega | (exact hX (fun y => z1 y.1)) | (exact hX (fun y => z2 y.2)) | (exact hK _ z1 z2 x5) | simp only [w_aload, w_iload, w_call, x_g903_0, w_zreturn, a163_0, R32, List.getElem?_cons_zero, List.getElem?_cons_succ, List.set_cons_zero, List.set_cons_succ, List.cons_append, List.nil_append, List.replicate_succ, List.replicate_zero, List.take_succ_cons, List.take_zero, List.drop_succ_cons, List.drop_zero, List.reverse_cons, List.reverse_nil, List.length_cons, List.length_nil, Option.toList, true_and, and_true, eq_self, ↓reduceIte, not_true_eq_false, not_false_eq_true, true_or, or_true, hw, x_throw, hs_163] | (with_reducible refine w_143 hR hA hp (fun z1 => ?_) (fun z1 => ?_)) | (with_reducible refine w_143 hR hA hq (fun z2 => ?_) (fun z2 => ?_)) | ((with_reducible refine w_68 hw hR hA hV z1 z2 (fun v5 x5 => ?_)); have gy5 := yn_b x5) | with_reducible refine And.intro ?_ ?_ | with_reducible intro _)
  all_goals (try (first | omega | (exfalso; assumption) | skip))
theorem hs_164 {E : Nat} : pg.2.1 164 E = none := rfl
theorem k164_0 : pg.1 164 0 = [.aload 0, .getfield 912, .aload 0, .getfield 903, .invokeinterface 69 2, .ireturn] := rfl
theorem a164_0 {tb : Tab} {d : Nat} {K : Out → AM → Prop} {ls st : List AV} {m : AM} : At tb d 164 K 0 ls st m = wpB tb (pg.2.1 164) (Runs tb pg d) K (At tb d 164 K) [.aload 0, .getfield 912, .aload 0, .getfield 903, .invokeinterface 69 2, .ireturn] ls st m := At.eq k164_0
theorem w_164 (hR : RW S 2 r) (hA : AB r) (hV : GV r) (hK : ∀ T v, isMinP (safeM (pr r) (r 4)) (fun s => - bitsM s 31) (pw (r 4)) v → FxE 67 S T → K (.inl (some (vi v))) (X T m)) : Runs tb pg (d + 5) 164 [vr 0] (X S m) K := by
  have hw := isW_2
  have b3 := hA.2.1.1
  have b4 := hA.2.1.2.1
  have b5 := hA.2.1.2.2.1
  refine Runs.of (al := [vr 0]) (n := 0) ⟨0, _, _, rfl, xo_0⟩ rfl rfl trivial ?_
  repeat' (first | omega | (exact hK _ _ x1 f1) | simp only [w_aload, x_g912_0, x_g903_0, w_call, w_ireturn, a164_0, R32, List.getElem?_cons_zero, List.getElem?_cons_succ, List.set_cons_zero, List.set_cons_succ, List.cons_append, List.nil_append, List.replicate_succ, List.replicate_zero, List.take_succ_cons, List.take_zero, List.drop_succ_cons, List.drop_zero, List.reverse_cons, List.reverse_nil, List.length_cons, List.length_nil, Option.toList, true_and, and_true, eq_self, ↓reduceIte, not_true_eq_false, not_false_eq_true, true_or, or_true, hw, x_throw, hs_164] | (with_reducible refine w_69 hw hR hA hV (fun T1 v1 x1 f1 _ => ?_)) | with_reducible refine And.intro ?_ ?_ | with_reducible intro _)
  all_goals (try (first | omega | (exfalso; assumption) | skip))
theorem hs_165 {E : Nat} : pg.2.1 165 E = none := rfl
theorem k165_0 : pg.1 165 0 = [.aload 0, .iload 1, .invokeinterface 143 2, .aload 0, .iload 2, .invokeinterface 143 2, .iload 1, .iload 2, .invokeinterface 155 2, .aload 0, .getfield 912, .aload 0, .getfield 903, .iload 1, .iload 2, .invokeinterface 71 4, .iload 3, .bipush (-1), .if_icmp .ne 43, .aload 0, .getfield 912, .invokeinterface 76 1, .goto 51] := rfl
theorem a165_0 {tb : Tab} {d : Nat} {K : Out → AM → Prop} {ls st : List AV} {m : AM} : At tb d 165 K 0 ls st m = wpB tb (pg.2.1 165) (Runs tb pg d) K (At tb d 165 K) [.aload 0, .iload 1, .invokeinterface 143 2, .aload 0, .iload 2, .invokeinterface 143 2, .iload 1, .iload 2, .invokeinterface 155 2, .aload 0, .getfield 912, .aload 0, .getfield 903, .iload 1, .iload 2, .invokeinterface 71 4, .iload 3, .bipush (-1), .if_icmp .ne 43, .aload 0, .getfield 912, .invokeinterface 76 1, .goto 51] ls st m := At.eq k165_0
theorem k165_43 : pg.1 165 43 = [.aload 0, .getfield 912, .iload 3, .invokeinterface 77 2, .jsr 51] := rfl
theorem a165_43 {tb : Tab} {d : Nat} {K : Out → AM → Prop} {ls st : List AV} {m : AM} : At tb d 165 K 43 ls st m = wpB tb (pg.2.1 165) (Runs tb pg d) K (At tb d 165 K) [.aload 0, .getfield 912, .iload 3, .invokeinterface 77 2, .jsr 51] ls st m := At.eq k165_43
theorem k165_51 : pg.1 165 51 = [.ireturn] := rfl
theorem a165_51 {tb : Tab} {d : Nat} {K : Out → AM → Prop} {ls st : List AV} {m : AM} : At tb d 165 K 51 ls st m = wpB tb (pg.2.1 165) (Runs tb pg d) K (At tb d 165 K) [.ireturn] ls st m := At.eq k165_51
theorem w_165 {p q k : Int} (hR : RW S 2 r) (hA : AB r) (hk : R32 k) (hp : R32 p) (hq : R32 q) (hV : GV r) (hX : ¬ ((0 ≤ p ∧ p < r 4) ∧ (0 ≤ q ∧ q < r 4)) → K (.inr 2) (X S (mthrow m))) (hX2 : (0 ≤ p ∧ p < r 4) → (0 ≤ q ∧ q < r 4) → p = q → K (.inr 1) (X S (mthrow m))) (hK : ∀ T v, (0 ≤ p ∧ p < r 4) → (0 ≤ q ∧ q < r 4) → p ≠ q → tgO (pr r) S T p q → ((k = -1 ∧ v = T 64 2) ∨ (k ≠ -1 ∧ v = if 0 ≤ k ∧ k < T 64 2 then T 66 k else -1)) → K (.inl (some (vi v))) (X T m)) : Runs tb pg (d + 5) 165 [vr 0, vi p, vi q, vi k] (X S m) K := by
  have hw := isW_2
  have b3 := hA.2.1.1
  have b4 := hA.2.1.2.1
  have b5 := hA.2.1.2.2.1
  have uhk := hk
  unfold R32 at uhk
  have uhp := hp
  unfold R32 at uhp
  have uhq := hq
  unfold R32 at uhq
  refine Runs.of (al := [vr 0, vi p, vi q, vi k]) (n := 0) ⟨0, _, _, rfl, xo_0⟩ rfl rfl trivial ?_
  repeat' (first | omega | (exact hX (fun y => z1 y.1)) | (exact hX (fun y => z2 y.2)) | (exact hX2 z1 z2 z3) | (exact hK T5 _ z1 z2 z3 x5 (Or.inl ⟨by omega, rfl⟩)) | (exact hK T5 _ z1 z2 z3 x5 (Or.inr ⟨by omega, x6⟩)) | simp only [w_aload, w_iload, w_call, x_g912_0, x_g903_0, w_iconst, w_ifc, cI, Int.reduceToNat, w_goto, w_fall, w_ireturn, a165_0, a165_43, a165_51, R32, List.getElem?_cons_zero, List.getElem?_cons_succ, List.set_cons_zero, List.set_cons_succ, List.cons_append, List.nil_append, List.replicate_succ, List.replicate_zero, List.take_succ_cons, List.take_zero, List.drop_succ_cons, List.drop_zero, List.reverse_cons, List.reverse_nil, List.length_cons, List.length_nil, Option.toList, true_and, and_true, eq_self, ↓reduceIte, not_true_eq_false, not_false_eq_true, true_or, or_true, hw, x_throw, hs_165] | (with_reducible refine w_143 hR hA hp (fun z1 => ?_) (fun z1 => ?_)) | (with_reducible refine w_143 hR hA hq (fun z2 => ?_) (fun z2 => ?_)) | (with_reducible refine w_155 hp hq (fun z3 => ?_) (fun z3 => ?_)) | ((with_reducible refine w_71 hw hR hA hV z1 z2 (fun T5 x5 => ?_)); have s5 : 0 ≤ T5 64 2 ∧ T5 64 2 ≤ 12 := (by obtain ⟨_, a, b, n, _, _, _, ⟨e, e2⟩, _⟩ := x5; omega)) | (with_reducible refine w_76 ?_) | (with_reducible refine w_77 hk s5 (fun v6 x6 => ?_)) | with_reducible refine And.intro ?_ ?_ | with_reducible intro _)
  all_goals (try (first | omega | (exfalso; assumption) | skip))
theorem hs_166 {E : Nat} : pg.2.1 166 E = none := rfl
theorem k166_0 : pg.1 166 0 = [.iload 1, .bipush (-1), .if_icmp .eq 10, .aload 0, .iload 1, .invokeinterface 143 2, .jsr 10] := rfl
theorem a166_0 {tb : Tab} {d : Nat} {K : Out → AM → Prop} {ls st : List AV} {m : AM} : At tb d 166 K 0 ls st m = wpB tb (pg.2.1 166) (Runs tb pg d) K (At tb d 166 K) [.iload 1, .bipush (-1), .if_icmp .eq 10, .aload 0, .iload 1, .invokeinterface 143 2, .jsr 10] ls st m := At.eq k166_0
theorem k166_10 : pg.1 166 10 = [.aload 0, .getfield 912, .aload 0, .getfield 903, .invokeinterface 78 2, .iload 1, .bipush (-1), .if_icmp .ne 36, .aload 0, .getfield 912, .invokeinterface 80 1, .goto 44] := rfl
theorem a166_10 {tb : Tab} {d : Nat} {K : Out → AM → Prop} {ls st : List AV} {m : AM} : At tb d 166 K 10 ls st m = wpB tb (pg.2.1 166) (Runs tb pg d) K (At tb d 166 K) [.aload 0, .getfield 912, .aload 0, .getfield 903, .invokeinterface 78 2, .iload 1, .bipush (-1), .if_icmp .ne 36, .aload 0, .getfield 912, .invokeinterface 80 1, .goto 44] ls st m := At.eq k166_10
theorem k166_36 : pg.1 166 36 = [.aload 0, .getfield 912, .iload 1, .invokeinterface 81 2, .jsr 44] := rfl
theorem a166_36 {tb : Tab} {d : Nat} {K : Out → AM → Prop} {ls st : List AV} {m : AM} : At tb d 166 K 36 ls st m = wpB tb (pg.2.1 166) (Runs tb pg d) K (At tb d 166 K) [.aload 0, .getfield 912, .iload 1, .invokeinterface 81 2, .jsr 44] ls st m := At.eq k166_36
theorem k166_44 : pg.1 166 44 = [.ireturn] := rfl
theorem a166_44 {tb : Tab} {d : Nat} {K : Out → AM → Prop} {ls st : List AV} {m : AM} : At tb d 166 K 44 ls st m = wpB tb (pg.2.1 166) (Runs tb pg d) K (At tb d 166 K) [.ireturn] ls st m := At.eq k166_44
theorem w_166 {p : Int} (hR : RW S 2 r) (hA : AB r) (hp : R32 p) (hV : GV r) (hX : p ≠ -1 → ¬ (0 ≤ p ∧ p < r 4) → K (.inr 2) (X S (mthrow m))) (hK : ∀ T v, (p = -1 ∨ (0 ≤ p ∧ p < r 4)) → tpF S T → ((p = -1 ∧ v = pF (pr r) (r 4) (pw (r 4) - 1)) ∨ (p ≠ -1 ∧ v = dC (pr r) (r 4) p (pw (r 4) - 1))) → K (.inl (some (vi v))) (X T m)) : Runs tb pg (d + 9) 166 [vr 0, vi p] (X S m) K := by
  have hw := isW_2
  have b3 := hA.2.1.1
  have b4 := hA.2.1.2.1
  have b5 := hA.2.1.2.2.1
  have uhp := hp
  unfold R32 at uhp
  refine Runs.of (al := [vr 0, vi p]) (n := 0) ⟨0, _, _, rfl, xo_0⟩ rfl rfl trivial ?_
  repeat' (first | omega | (exact hX (by omega) z1) | (exact hK T5 _ (Or.inl (by omega)) x5 (Or.inl ⟨by omega, y5⟩)) | (exact hK T5 _ (Or.inr z1) x5 (Or.inr ⟨by omega, u5 p z1.1 z1.2⟩)) | simp only [w_iload, w_iconst, w_ifc, cI, Int.reduceToNat, w_aload, w_call, w_fall, x_g912_0, x_g903_0, w_goto, w_ireturn, a166_0, a166_10, a166_36, a166_44, R32, List.getElem?_cons_zero, List.getElem?_cons_succ, List.set_cons_zero, List.set_cons_succ, List.cons_append, List.nil_append, List.replicate_succ, List.replicate_zero, List.take_succ_cons, List.take_zero, List.drop_succ_cons, List.drop_zero, List.reverse_cons, List.reverse_nil, List.length_cons, List.length_nil, Option.toList, true_and, and_true, eq_self, ↓reduceIte, not_true_eq_false, not_false_eq_true, true_or, or_true, hw, x_throw, hs_166] | (with_reducible refine w_143 hR hA hp (fun z1 => ?_) (fun z1 => ?_)) | (with_reducible refine w_78 hw hR hA hV (fun T5 x5 y5 u5 => ?_)) | (with_reducible refine w_80 ?_) | (with_reducible refine w_81 ⟨?_, ?_⟩ ?_) | with_reducible refine And.intro ?_ ?_ | with_reducible intro _)
  all_goals (try (first | omega | (exfalso; assumption) | skip))
theorem hs_167 {E : Nat} : pg.2.1 167 E = none := rfl
theorem k167_0 : pg.1 167 0 = [.bipush 0, .istore 1, .bipush 0, .istore 2, .jsr 4] := rfl
theorem a167_0 {tb : Tab} {d : Nat} {K : Out → AM → Prop} {ls st : List AV} {m : AM} : At tb d 167 K 0 ls st m = wpB tb (pg.2.1 167) (Runs tb pg d) K (At tb d 167 K) [.bipush 0, .istore 1, .bipush 0, .istore 2, .jsr 4] ls st m := At.eq k167_0
theorem k167_4 : pg.1 167 4 = [.iload 2, .aload 0, .getfield 903, .getfield 804, .if_icmp .ge 57, .iload 2, .bipush 1, .iadd, .istore 3, .jsr 19] := rfl
theorem a167_4 {tb : Tab} {d : Nat} {K : Out → AM → Prop} {ls st : List AV} {m : AM} : At tb d 167 K 4 ls st m = wpB tb (pg.2.1 167) (Runs tb pg d) K (At tb d 167 K) [.iload 2, .aload 0, .getfield 903, .getfield 804, .if_icmp .ge 57, .iload 2, .bipush 1, .iadd, .istore 3, .jsr 19] ls st m := At.eq k167_4
theorem k167_19 : pg.1 167 19 = [.iload 3, .aload 0, .getfield 903, .getfield 804, .if_icmp .ge 51, .aload 0, .getfield 903, .iload 2, .iload 3, .invokeinterface 65 3, .ifCond .eq 45, .iinc 1 1, .jsr 45] := rfl
theorem a167_19 {tb : Tab} {d : Nat} {K : Out → AM → Prop} {ls st : List AV} {m : AM} : At tb d 167 K 19 ls st m = wpB tb (pg.2.1 167) (Runs tb pg d) K (At tb d 167 K) [.iload 3, .aload 0, .getfield 903, .getfield 804, .if_icmp .ge 51, .aload 0, .getfield 903, .iload 2, .iload 3, .invokeinterface 65 3, .ifCond .eq 45, .iinc 1 1, .jsr 45] ls st m := At.eq k167_19
theorem k167_45 : pg.1 167 45 = [.iinc 3 1, .goto 19] := rfl
theorem a167_45 {tb : Tab} {d : Nat} {K : Out → AM → Prop} {ls st : List AV} {m : AM} : At tb d 167 K 45 ls st m = wpB tb (pg.2.1 167) (Runs tb pg d) K (At tb d 167 K) [.iinc 3 1, .goto 19] ls st m := At.eq k167_45
theorem k167_51 : pg.1 167 51 = [.iinc 2 1, .goto 4] := rfl
theorem a167_51 {tb : Tab} {d : Nat} {K : Out → AM → Prop} {ls st : List AV} {m : AM} : At tb d 167 K 51 ls st m = wpB tb (pg.2.1 167) (Runs tb pg d) K (At tb d 167 K) [.iinc 2 1, .goto 4] ls st m := At.eq k167_51
theorem k167_57 : pg.1 167 57 = [.iload 1, .ireturn] := rfl
theorem a167_57 {tb : Tab} {d : Nat} {K : Out → AM → Prop} {ls st : List AV} {m : AM} : At tb d 167 K 57 ls st m = wpB tb (pg.2.1 167) (Runs tb pg d) K (At tb d 167 K) [.iload 1, .ireturn] ls st m := At.eq k167_57
theorem w_167 (hR : RW S 2 r) (hA : AB r) (hV : GV r) (hK : ∀ v, v = twT (pr r) (r 4) → K (.inl (some (vi v))) (X S m)) : Runs tb pg (d + 4) 167 [vr 0] (X S m) K := by
  have hw := isW_2
  have b3 := hA.2.1.1
  have b4 := hA.2.1.2.1
  have b5 := hA.2.1.2.2.1
  have hL4 : (fun i : Int => ∀ (z3 : AV) (a : Int), a = alT (pr r) (r 4) i → At tb (d + 3) 167 K 4 [vr 0, vi a, vi i, z3] [] (X S m)) 0 := by
    refine loopZ (fun i : Int => ∀ (z3 : AV) (a : Int), a = alT (pr r) (r 4) i → At tb (d + 3) 167 K 4 [vr 0, vi a, vi i, z3] [] (X S m)) (r 4) (by omega) ?_ ?_
    · intro i h0 h1 h9 z3 a ha
      have s5 : S 2 4 = r 4 := hR.1.2.1
      have q1 := alT_rg (P := pr r) b4 h0
      have hL19 : (fun x : Int => ∀ (j : Int) (b : Int), j = i + 1 + x → b = alT (pr r) (r 4) i + alS (pr r) i j → At tb (d + 3) 167 K 19 [vr 0, vi b, vi i, vi j] [] (X S m)) 0 := by
        refine loopZ (fun x : Int => ∀ (j : Int) (b : Int), j = i + 1 + x → b = alT (pr r) (r 4) i + alS (pr r) i j → At tb (d + 3) 167 K 19 [vr 0, vi b, vi i, vi j] [] (X S m)) (r 4 - (i + 1)) (by omega) ?_ ?_
        · intro x j0 j1 h8 j b hj hb
          have q2 := alS_rg (P := pr r) (p := i) (show 0 ≤ j by omega)
          rw [a167_19]
          repeat' (first | omega | with_reducible refine h8 _ _ ?_ ?_ | simp only [w_iconst, w_istore, w_fall, Int.reduceToNat, w_iload, w_aload, x_g903_0, x_g804_w0, w_ifc, cI, w_iadd, w_call, w_if, w_iinc, lgB, Nat.reduceSub, w_goto, w_ireturn, a167_0, a167_45, a167_51, a167_57, R32, List.getElem?_cons_zero, List.getElem?_cons_succ, List.set_cons_zero, List.set_cons_succ, List.cons_append, List.nil_append, List.replicate_succ, List.replicate_zero, List.take_succ_cons, List.take_zero, List.drop_succ_cons, List.drop_zero, List.reverse_cons, List.reverse_nil, List.length_cons, List.length_nil, Option.toList, true_and, and_true, eq_self, ↓reduceIte, not_true_eq_false, not_false_eq_true, true_or, or_true, hw, x_throw, hs_167] | ((with_reducible refine w_65 hw hR hA hV (p := i) (q := j) ⟨h0, h1⟩ ⟨by omega, by omega⟩ (fun v1 x1 => ?_)); have gy1 := yn_b x1) | (rw [s5]) | with_reducible refine And.intro ?_ ?_ | with_reducible intro _)
          all_goals (try (first | omega | contradiction | (rw [hb, alS_y (by omega) (by omega) (by rcases x1 with ⟨a, b⟩ | ⟨a, b⟩; exact b; exfalso; omega)]; omega) | (rw [hb, alS_n (by omega) (by omega) (by rcases x1 with ⟨a, b⟩ | ⟨a, b⟩; exfalso; omega; exact b)])))
        · intro j b hj hb
          rw [a167_19]
          repeat' (first | omega | (exact h9 _ _ (by rw [hb, alT_s h0, show j = r 4 by omega])) | simp only [w_iconst, w_istore, w_fall, Int.reduceToNat, w_iload, w_aload, x_g903_0, x_g804_w0, w_ifc, cI, w_iadd, w_call, w_if, w_iinc, lgB, Nat.reduceSub, w_goto, w_ireturn, a167_0, a167_45, a167_51, a167_57, R32, List.getElem?_cons_zero, List.getElem?_cons_succ, List.set_cons_zero, List.set_cons_succ, List.cons_append, List.nil_append, List.replicate_succ, List.replicate_zero, List.take_succ_cons, List.take_zero, List.drop_succ_cons, List.drop_zero, List.reverse_cons, List.reverse_nil, List.length_cons, List.length_nil, Option.toList, true_and, and_true, eq_self, ↓reduceIte, not_true_eq_false, not_false_eq_true, true_or, or_true, hw, x_throw, hs_167] | ((with_reducible refine w_65 hw hR hA hV (p := i) (q := j) ⟨h0, h1⟩ ⟨by omega, by omega⟩ (fun v1 x1 => ?_)); have gy1 := yn_b x1) | (rw [s5]) | with_reducible refine And.intro ?_ ?_ | with_reducible intro _)
          all_goals (try (first | omega | contradiction | skip))
      rw [a167_4]
      repeat' (first | omega | with_reducible refine h9 _ _ ?_ | (exact hL19 _ _ (by omega) (by rw [alS_0 (i + 1).toNat (by omega) |> (fun e => (show alS (pr r) i (i + 1) = 0 by rw [show (((i + 1).toNat : Nat) : Int) = i + 1 by omega] at e; exact e))]; omega)) | simp only [w_iconst, w_istore, w_fall, Int.reduceToNat, w_iload, w_aload, x_g903_0, x_g804_w0, w_ifc, cI, w_iadd, w_call, w_if, w_iinc, lgB, Nat.reduceSub, w_goto, w_ireturn, a167_0, a167_45, a167_51, a167_57, R32, List.getElem?_cons_zero, List.getElem?_cons_succ, List.set_cons_zero, List.set_cons_succ, List.cons_append, List.nil_append, List.replicate_succ, List.replicate_zero, List.take_succ_cons, List.take_zero, List.drop_succ_cons, List.drop_zero, List.reverse_cons, List.reverse_nil, List.length_cons, List.length_nil, Option.toList, true_and, and_true, eq_self, ↓reduceIte, not_true_eq_false, not_false_eq_true, true_or, or_true, hw, x_throw, hs_167] | (rw [s5]) | with_reducible refine And.intro ?_ ?_ | with_reducible intro _)
      all_goals (try (first | omega | contradiction | skip))
    · intro z3 a ha
      have s5 : S 2 4 = r 4 := hR.1.2.1
      rw [a167_4]
      repeat' (first | omega | (exact hK _ (by rw [ha, show r 4 = ((r 4).toNat : Int) by omega]; exact alT_tw hA hV (r 4).toNat (by omega))) | simp only [w_iconst, w_istore, w_fall, Int.reduceToNat, w_iload, w_aload, x_g903_0, x_g804_w0, w_ifc, cI, w_iadd, w_call, w_if, w_iinc, lgB, Nat.reduceSub, w_goto, w_ireturn, a167_0, a167_45, a167_51, a167_57, R32, List.getElem?_cons_zero, List.getElem?_cons_succ, List.set_cons_zero, List.set_cons_succ, List.cons_append, List.nil_append, List.replicate_succ, List.replicate_zero, List.take_succ_cons, List.take_zero, List.drop_succ_cons, List.drop_zero, List.reverse_cons, List.reverse_nil, List.length_cons, List.length_nil, Option.toList, true_and, and_true, eq_self, ↓reduceIte, not_true_eq_false, not_false_eq_true, true_or, or_true, hw, x_throw, hs_167] | (rw [s5]) | with_reducible refine And.intro ?_ ?_ | with_reducible intro _)
      all_goals (try (first | omega | contradiction | skip))
  refine Runs.of (al := [vr 0]) (n := 3) ⟨0, _, _, rfl, xo_0⟩ rfl rfl trivial ?_
  repeat' (first | omega | (exact hL4 _ _ rfl) | simp only [w_iconst, w_istore, w_fall, Int.reduceToNat, w_iload, w_aload, x_g903_0, x_g804_w0, w_ifc, cI, w_iadd, w_call, w_if, w_iinc, lgB, Nat.reduceSub, w_goto, w_ireturn, a167_0, a167_45, a167_51, a167_57, R32, List.getElem?_cons_zero, List.getElem?_cons_succ, List.set_cons_zero, List.set_cons_succ, List.cons_append, List.nil_append, List.replicate_succ, List.replicate_zero, List.take_succ_cons, List.take_zero, List.drop_succ_cons, List.drop_zero, List.reverse_cons, List.reverse_nil, List.length_cons, List.length_nil, Option.toList, true_and, and_true, eq_self, ↓reduceIte, not_true_eq_false, not_false_eq_true, true_or, or_true, hw, x_throw, hs_167] | with_reducible refine And.intro ?_ ?_ | with_reducible intro _)
  all_goals (try (first | omega | (exfalso; assumption) | skip))
theorem hs_168 {E : Nat} : pg.2.1 168 E = none := rfl
theorem k168_0 : pg.1 168 0 = [.iload 1, .ifCond .lt 10, .iload 1, .bipush 8, .if_icmp .lt 21, .jsr 10] := rfl
theorem a168_0 {tb : Tab} {d : Nat} {K : Out → AM → Prop} {ls st : List AV} {m : AM} : At tb d 168 K 0 ls st m = wpB tb (pg.2.1 168) (Runs tb pg d) K (At tb d 168 K) [.iload 1, .ifCond .lt 10, .iload 1, .bipush 8, .if_icmp .lt 21, .jsr 10] ls st m := At.eq k168_0
theorem k168_10 : pg.1 168 10 = [.invokedynamic 2] := rfl
theorem a168_10 {tb : Tab} {d : Nat} {K : Out → AM → Prop} {ls st : List AV} {m : AM} : At tb d 168 K 10 ls st m = wpB tb (pg.2.1 168) (Runs tb pg d) K (At tb d 168 K) [.invokedynamic 2] ls st m := At.eq k168_10
theorem k168_21 : pg.1 168 21 = [.bipush 0, .istore 2, .bipush 0, .istore 3, .jsr 25] := rfl
theorem a168_21 {tb : Tab} {d : Nat} {K : Out → AM → Prop} {ls st : List AV} {m : AM} : At tb d 168 K 21 ls st m = wpB tb (pg.2.1 168) (Runs tb pg d) K (At tb d 168 K) [.bipush 0, .istore 2, .bipush 0, .istore 3, .jsr 25] ls st m := At.eq k168_21
theorem k168_25 : pg.1 168 25 = [.iload 3, .aload 0, .getfield 903, .getfield 804, .if_icmp .ge 64, .aload 0, .getfield 903, .iload 3, .invokeinterface 116 2, .iload 1, .ishr, .bipush 1, .iand, .bipush 1, .if_icmp .ne 58, .iload 2, .bipush 1, .iload 3, .ishl, .ior, .istore 2, .jsr 58] := rfl
theorem a168_25 {tb : Tab} {d : Nat} {K : Out → AM → Prop} {ls st : List AV} {m : AM} : At tb d 168 K 25 ls st m = wpB tb (pg.2.1 168) (Runs tb pg d) K (At tb d 168 K) [.iload 3, .aload 0, .getfield 903, .getfield 804, .if_icmp .ge 64, .aload 0, .getfield 903, .iload 3, .invokeinterface 116 2, .iload 1, .ishr, .bipush 1, .iand, .bipush 1, .if_icmp .ne 58, .iload 2, .bipush 1, .iload 3, .ishl, .ior, .istore 2, .jsr 58] ls st m := At.eq k168_25
theorem k168_58 : pg.1 168 58 = [.iinc 3 1, .goto 25] := rfl
theorem a168_58 {tb : Tab} {d : Nat} {K : Out → AM → Prop} {ls st : List AV} {m : AM} : At tb d 168 K 58 ls st m = wpB tb (pg.2.1 168) (Runs tb pg d) K (At tb d 168 K) [.iinc 3 1, .goto 25] ls st m := At.eq k168_58
theorem k168_64 : pg.1 168 64 = [.iload 2, .ireturn] := rfl
theorem a168_64 {tb : Tab} {d : Nat} {K : Out → AM → Prop} {ls st : List AV} {m : AM} : At tb d 168 K 64 ls st m = wpB tb (pg.2.1 168) (Runs tb pg d) K (At tb d 168 K) [.iload 2, .ireturn] ls st m := At.eq k168_64
theorem w_168 {k : Int} (hR : RW S 2 r) (hA : AB r) (hk : R32 k) (hX : ¬ (0 ≤ k ∧ k ≤ 7) → K (.inr 2) (X S (mthrow m))) (hK : ∀ v, (0 ≤ k ∧ k ≤ 7) → v = setZ (r 4) (fun p => bitB (kindsM (pr r) p (pr r p 0)) k) → K (.inl (some (vi v))) (X S m)) : Runs tb pg (d + 2) 168 [vr 0, vi k] (X S m) K := by
  have hw := isW_2
  have b3 := hA.2.1.1
  have b4 := hA.2.1.2.1
  have b5 := hA.2.1.2.2.1
  have uhk := hk
  unfold R32 at uhk
  have hL25 : (fun i : Int => ∀ (a : Int), a = setZ i (fun p => bitB (kindsM (pr r) p (pr r p 0)) k) → (0 ≤ k ∧ k ≤ 7) → At tb (d + 1) 168 K 25 [vr 0, vi k, vi a, vi i] [] (X S m)) 0 := by
    refine loopZ (fun i : Int => ∀ (a : Int), a = setZ i (fun p => bitB (kindsM (pr r) p (pr r p 0)) k) → (0 ≤ k ∧ k ≤ 7) → At tb (d + 1) 168 K 25 [vr 0, vi k, vi a, vi i] [] (X S m)) (r 4) (by omega) ?_ ?_
    · intro i h0 h1 h9 a ha hk8
      have s5 : S 2 4 = r 4 := hR.1.2.1
      rw [a168_25]
      repeat' (first | omega | with_reducible refine h9 _ ?_ ?_ | simp only [w_iload, w_if, cI, Int.reduceToNat, w_iconst, w_ifc, w_fall, w_throw, w_istore, w_aload, x_g903_0, x_g804_w0, w_call, w_ishr, w_iand, w_ishl, w_ior, w_iinc, lgB, Nat.reduceSub, w_goto, w_ireturn, a168_0, a168_10, a168_21, a168_58, a168_64, R32, List.getElem?_cons_zero, List.getElem?_cons_succ, List.set_cons_zero, List.set_cons_succ, List.cons_append, List.nil_append, List.replicate_succ, List.replicate_zero, List.take_succ_cons, List.take_zero, List.drop_succ_cons, List.drop_zero, List.reverse_cons, List.reverse_nil, List.length_cons, List.length_nil, Option.toList, true_and, and_true, eq_self, ↓reduceIte, not_true_eq_false, not_false_eq_true, true_or, or_true, hw, x_throw, hs_168] | ((with_reducible refine w_116 hw hR hA ⟨h0, h1⟩ (fun v1 x1 => ?_)); have q1 := andI_1 (shrI v1 k)) | (rw [s5]) | with_reducible refine And.intro ?_ ?_ | with_reducible intro _)
      all_goals (try (first | omega | contradiction | (((with_reducible refine setZ_yes h0 ?_ ha ?_) <;> first | omega | grind); done) | (((with_reducible refine setZ_no0 h0 ?_ ha ?_) <;> first | omega | grind); done) | (((with_reducible refine setZ_no h0 ha ?_) <;> first | omega | grind); done) | grind))
    · intro a ha hk8
      have s5 : S 2 4 = r 4 := hR.1.2.1
      rw [a168_25]
      repeat' (first | omega | (exact hK _ hk8 ha) | simp only [w_iload, w_if, cI, Int.reduceToNat, w_iconst, w_ifc, w_fall, w_throw, w_istore, w_aload, x_g903_0, x_g804_w0, w_call, w_ishr, w_iand, w_ishl, w_ior, w_iinc, lgB, Nat.reduceSub, w_goto, w_ireturn, a168_0, a168_10, a168_21, a168_58, a168_64, R32, List.getElem?_cons_zero, List.getElem?_cons_succ, List.set_cons_zero, List.set_cons_succ, List.cons_append, List.nil_append, List.replicate_succ, List.replicate_zero, List.take_succ_cons, List.take_zero, List.drop_succ_cons, List.drop_zero, List.reverse_cons, List.reverse_nil, List.length_cons, List.length_nil, Option.toList, true_and, and_true, eq_self, ↓reduceIte, not_true_eq_false, not_false_eq_true, true_or, or_true, hw, x_throw, hs_168] | ((with_reducible refine w_116 hw hR hA ⟨h0, h1⟩ (fun v1 x1 => ?_)); have q1 := andI_1 (shrI v1 k)) | (rw [s5]) | with_reducible refine And.intro ?_ ?_ | with_reducible intro _)
      all_goals (try (first | omega | contradiction | skip))
  refine Runs.of (al := [vr 0, vi k]) (n := 2) ⟨0, _, _, rfl, xo_0⟩ rfl rfl trivial ?_
  repeat' (first | omega | (exact hL25 _ rfl (by omega)) | (exact hX (by omega)) | simp only [w_iload, w_if, cI, Int.reduceToNat, w_iconst, w_ifc, w_fall, w_throw, w_istore, w_aload, x_g903_0, x_g804_w0, w_call, w_ishr, w_iand, w_ishl, w_ior, w_iinc, lgB, Nat.reduceSub, w_goto, w_ireturn, a168_0, a168_10, a168_21, a168_58, a168_64, R32, List.getElem?_cons_zero, List.getElem?_cons_succ, List.set_cons_zero, List.set_cons_succ, List.cons_append, List.nil_append, List.replicate_succ, List.replicate_zero, List.take_succ_cons, List.take_zero, List.drop_succ_cons, List.drop_zero, List.reverse_cons, List.reverse_nil, List.length_cons, List.length_nil, Option.toList, true_and, and_true, eq_self, ↓reduceIte, not_true_eq_false, not_false_eq_true, true_or, or_true, hw, x_throw, hs_168] | with_reducible refine And.intro ?_ ?_ | with_reducible intro _)
  all_goals (try (first | omega | (exfalso; assumption) | skip))
theorem hs_169 {E : Nat} : pg.2.1 169 E = none := rfl
theorem k169_0 : pg.1 169 0 = [.aload 0, .getfield 903, .getfield 810, .aload 0, .getfield 903, .getfield 804, .aload 0, .getfield 914, .invokeinterface 20 3, .ireturn] := rfl
theorem a169_0 {tb : Tab} {d : Nat} {K : Out → AM → Prop} {ls st : List AV} {m : AM} : At tb d 169 K 0 ls st m = wpB tb (pg.2.1 169) (Runs tb pg d) K (At tb d 169 K) [.aload 0, .getfield 903, .getfield 810, .aload 0, .getfield 903, .getfield 804, .aload 0, .getfield 914, .invokeinterface 20 3, .ireturn] ls st m := At.eq k169_0
theorem w_169 (hR : RW S 2 r) (hA : AB r)  (hK : ∀ T v, isSt (fun s => balM (dr r) (r 5) 6 s = 0) (r 4) (T 93) (pw (r 4)) → v = r 4 - T 93 (pw (r 4) - 1) → FxE 93 S T → K (.inl (some (vi v))) (X T m)) : Runs tb pg (d + 4) 169 [vr 0] (X S m) K := by
  have hw := isW_2
  have b3 := hA.2.1.1
  have b4 := hA.2.1.2.1
  have b5 := hA.2.1.2.2.1
  have s5 : S 2 4 = r 4 := hR.1.2.1
  refine Runs.of (al := [vr 0]) (n := 0) ⟨0, _, _, rfl, xo_0⟩ rfl rfl trivial ?_
  repeat' (first | omega | (exact hK _ _ x1 y1 f1) | simp only [w_aload, x_g903_0, x_g810_w0, x_g804_w0, x_g914_0, w_call, w_ireturn, a169_0, R32, List.getElem?_cons_zero, List.getElem?_cons_succ, List.set_cons_zero, List.set_cons_succ, List.cons_append, List.nil_append, List.replicate_succ, List.replicate_zero, List.take_succ_cons, List.take_zero, List.drop_succ_cons, List.drop_zero, List.reverse_cons, List.reverse_nil, List.length_cons, List.length_nil, Option.toList, true_and, and_true, eq_self, ↓reduceIte, not_true_eq_false, not_false_eq_true, true_or, or_true, hw, x_throw, hs_169] | (rw [s5]) | (with_reducible refine w_20 hw hR hA (fun T1 v1 x1 y1 f1 => ?_)) | with_reducible refine And.intro ?_ ?_ | with_reducible intro _)
  all_goals (try (first | omega | (exfalso; assumption) | skip))
theorem hs_170 {E : Nat} : pg.2.1 170 E = none := rfl
theorem k170_0 : pg.1 170 0 = [.aload 0, .getfield 903, .getfield 810, .aload 0, .getfield 903, .getfield 804, .invokeinterface 21 2, .ireturn] := rfl
theorem a170_0 {tb : Tab} {d : Nat} {K : Out → AM → Prop} {ls st : List AV} {m : AM} : At tb d 170 K 0 ls st m = wpB tb (pg.2.1 170) (Runs tb pg d) K (At tb d 170 K) [.aload 0, .getfield 903, .getfield 810, .aload 0, .getfield 903, .getfield 804, .invokeinterface 21 2, .ireturn] ls st m := At.eq k170_0
theorem w_170 (hR : RW S 2 r) (hA : AB r)  (hK : ∀ v, rgM (wayM (dr r) (r 5)) (r 4) (r 4) 1 v → K (.inl (some (vi v))) (X S m)) : Runs tb pg (d + 3) 170 [vr 0] (X S m) K := by
  have hw := isW_2
  have b3 := hA.2.1.1
  have b4 := hA.2.1.2.1
  have b5 := hA.2.1.2.2.1
  have s5 : S 2 4 = r 4 := hR.1.2.1
  refine Runs.of (al := [vr 0]) (n := 0) ⟨0, _, _, rfl, xo_0⟩ rfl rfl trivial ?_
  repeat' (first | omega | (exact hK _ x1) | simp only [w_aload, x_g903_0, x_g810_w0, x_g804_w0, w_call, w_ireturn, a170_0, R32, List.getElem?_cons_zero, List.getElem?_cons_succ, List.set_cons_zero, List.set_cons_succ, List.cons_append, List.nil_append, List.replicate_succ, List.replicate_zero, List.take_succ_cons, List.take_zero, List.drop_succ_cons, List.drop_zero, List.reverse_cons, List.reverse_nil, List.length_cons, List.length_nil, Option.toList, true_and, and_true, eq_self, ↓reduceIte, not_true_eq_false, not_false_eq_true, true_or, or_true, hw, x_throw, hs_170] | (rw [s5]) | (with_reducible refine w_21 hw hR hA (fun v1 x1 => ?_)) | with_reducible refine And.intro ?_ ?_ | with_reducible intro _)
  all_goals (try (first | omega | (exfalso; assumption) | skip))
theorem hs_171 {E : Nat} : pg.2.1 171 E = none := rfl
theorem k171_0 : pg.1 171 0 = [.bipush (-1), .istore 1, .bipush 0, .istore 2, .jsr 4] := rfl
theorem a171_0 {tb : Tab} {d : Nat} {K : Out → AM → Prop} {ls st : List AV} {m : AM} : At tb d 171 K 0 ls st m = wpB tb (pg.2.1 171) (Runs tb pg d) K (At tb d 171 K) [.bipush (-1), .istore 1, .bipush 0, .istore 2, .jsr 4] ls st m := At.eq k171_0
theorem k171_4 : pg.1 171 4 = [.iload 2, .aload 0, .getfield 903, .getfield 804, .if_icmp .ge 53, .iload 1, .bipush (-1), .if_icmp .eq 45, .aload 0, .getfield 903, .getfield 810, .iload 2, .invokeinterface 18 2, .aload 0, .getfield 903, .getfield 810, .iload 1, .invokeinterface 18 2, .if_icmp .le 47, .jsr 45] := rfl
theorem a171_4 {tb : Tab} {d : Nat} {K : Out → AM → Prop} {ls st : List AV} {m : AM} : At tb d 171 K 4 ls st m = wpB tb (pg.2.1 171) (Runs tb pg d) K (At tb d 171 K) [.iload 2, .aload 0, .getfield 903, .getfield 804, .if_icmp .ge 53, .iload 1, .bipush (-1), .if_icmp .eq 45, .aload 0, .getfield 903, .getfield 810, .iload 2, .invokeinterface 18 2, .aload 0, .getfield 903, .getfield 810, .iload 1, .invokeinterface 18 2, .if_icmp .le 47, .jsr 45] ls st m := At.eq k171_4
theorem k171_45 : pg.1 171 45 = [.iload 2, .istore 1, .jsr 47] := rfl
theorem a171_45 {tb : Tab} {d : Nat} {K : Out → AM → Prop} {ls st : List AV} {m : AM} : At tb d 171 K 45 ls st m = wpB tb (pg.2.1 171) (Runs tb pg d) K (At tb d 171 K) [.iload 2, .istore 1, .jsr 47] ls st m := At.eq k171_45
theorem k171_47 : pg.1 171 47 = [.iinc 2 1, .goto 4] := rfl
theorem a171_47 {tb : Tab} {d : Nat} {K : Out → AM → Prop} {ls st : List AV} {m : AM} : At tb d 171 K 47 ls st m = wpB tb (pg.2.1 171) (Runs tb pg d) K (At tb d 171 K) [.iinc 2 1, .goto 4] ls st m := At.eq k171_47
theorem k171_53 : pg.1 171 53 = [.iload 1, .ireturn] := rfl
theorem a171_53 {tb : Tab} {d : Nat} {K : Out → AM → Prop} {ls st : List AV} {m : AM} : At tb d 171 K 53 ls st m = wpB tb (pg.2.1 171) (Runs tb pg d) K (At tb d 171 K) [.iload 1, .ireturn] ls st m := At.eq k171_53
theorem w_171 (hR : RW S 2 r) (hA : AB r)  (hK : ∀ v, isMax (owesM (dr r) (r 5)) (r 4) v → K (.inl (some (vi v))) (X S m)) : Runs tb pg (d + 2) 171 [vr 0] (X S m) K := by
  have hw := isW_2
  have b3 := hA.2.1.1
  have b4 := hA.2.1.2.1
  have b5 := hA.2.1.2.2.1
  have hL4 : (fun i : Int => ∀ (a : Int), (isMax (owesM (dr r) (r 5)) i a) → At tb (d + 1) 171 K 4 [vr 0, vi a, vi i] [] (X S m)) 0 := by
    refine loopZ (fun i : Int => ∀ (a : Int), (isMax (owesM (dr r) (r 5)) i a) → At tb (d + 1) 171 K 4 [vr 0, vi a, vi i] [] (X S m)) (r 4) (by omega) ?_ ?_
    · intro i h0 h1 h9 a ha
      have s5 : S 2 4 = r 4 := hR.1.2.1
      have g1 := isMax_rg h0 ha
      have w1 := owes_rg hA (p := i)
      have w2 := owes_rg hA (p := a)
      rw [a171_4]
      repeat' (first | omega | with_reducible refine h9 _ ?_ | simp only [w_iconst, w_istore, w_fall, Int.reduceToNat, w_iload, w_aload, x_g903_0, x_g804_w0, w_ifc, cI, x_g810_w0, w_call, w_iinc, lgB, Nat.reduceSub, w_goto, w_ireturn, a171_0, a171_45, a171_47, a171_53, R32, List.getElem?_cons_zero, List.getElem?_cons_succ, List.set_cons_zero, List.set_cons_succ, List.cons_append, List.nil_append, List.replicate_succ, List.replicate_zero, List.take_succ_cons, List.take_zero, List.drop_succ_cons, List.drop_zero, List.reverse_cons, List.reverse_nil, List.length_cons, List.length_nil, Option.toList, true_and, and_true, eq_self, ↓reduceIte, not_true_eq_false, not_false_eq_true, true_or, or_true, hw, x_throw, hs_171] | (rw [s5]) | (with_reducible refine w_18 hw hR hA (by unfold R32; omega) (fun v1 x1 => ?_)) | with_reducible refine And.intro ?_ ?_ | with_reducible intro _)
      all_goals (try (first | omega | contradiction | (((with_reducible refine isMax_y h0 ha ?_) <;> first | omega | assumption | grind); done) | (((with_reducible refine isMax_n h0 ha ?_) <;> first | omega | assumption | grind); done) | grind))
    · intro a ha
      have s5 : S 2 4 = r 4 := hR.1.2.1
      rw [a171_4]
      repeat' (first | omega | (exact hK _ ha) | simp only [w_iconst, w_istore, w_fall, Int.reduceToNat, w_iload, w_aload, x_g903_0, x_g804_w0, w_ifc, cI, x_g810_w0, w_call, w_iinc, lgB, Nat.reduceSub, w_goto, w_ireturn, a171_0, a171_45, a171_47, a171_53, R32, List.getElem?_cons_zero, List.getElem?_cons_succ, List.set_cons_zero, List.set_cons_succ, List.cons_append, List.nil_append, List.replicate_succ, List.replicate_zero, List.take_succ_cons, List.take_zero, List.drop_succ_cons, List.drop_zero, List.reverse_cons, List.reverse_nil, List.length_cons, List.length_nil, Option.toList, true_and, and_true, eq_self, ↓reduceIte, not_true_eq_false, not_false_eq_true, true_or, or_true, hw, x_throw, hs_171] | (rw [s5]) | (with_reducible refine w_18 hw hR hA (by unfold R32; omega) (fun v1 x1 => ?_)) | with_reducible refine And.intro ?_ ?_ | with_reducible intro _)
      all_goals (try (first | omega | contradiction | skip))
  refine Runs.of (al := [vr 0]) (n := 2) ⟨0, _, _, rfl, xo_0⟩ rfl rfl trivial ?_
  repeat' (first | omega | (exact hL4 _ isMax_0) | simp only [w_iconst, w_istore, w_fall, Int.reduceToNat, w_iload, w_aload, x_g903_0, x_g804_w0, w_ifc, cI, x_g810_w0, w_call, w_iinc, lgB, Nat.reduceSub, w_goto, w_ireturn, a171_0, a171_45, a171_47, a171_53, R32, List.getElem?_cons_zero, List.getElem?_cons_succ, List.set_cons_zero, List.set_cons_succ, List.cons_append, List.nil_append, List.replicate_succ, List.replicate_zero, List.take_succ_cons, List.take_zero, List.drop_succ_cons, List.drop_zero, List.reverse_cons, List.reverse_nil, List.length_cons, List.length_nil, Option.toList, true_and, and_true, eq_self, ↓reduceIte, not_true_eq_false, not_false_eq_true, true_or, or_true, hw, x_throw, hs_171] | with_reducible refine And.intro ?_ ?_ | with_reducible intro _)
  all_goals (try (first | omega | (exfalso; assumption) | skip))
theorem hs_172 {E : Nat} : pg.2.1 172 E = none := rfl
theorem k172_0 : pg.1 172 0 = [.bipush 1, .aload 0, .getfield 903, .getfield 804, .ishl, .bipush 1, .isub, .istore 1, .bipush 0, .istore 2, .jsr 14] := rfl
theorem a172_0 {tb : Tab} {d : Nat} {K : Out → AM → Prop} {ls st : List AV} {m : AM} : At tb d 172 K 0 ls st m = wpB tb (pg.2.1 172) (Runs tb pg d) K (At tb d 172 K) [.bipush 1, .aload 0, .getfield 903, .getfield 804, .ishl, .bipush 1, .isub, .istore 1, .bipush 0, .istore 2, .jsr 14] ls st m := At.eq k172_0
theorem k172_14 : pg.1 172 14 = [.iload 2, .aload 0, .getfield 903, .getfield 810, .getfield 0, .if_icmp .ge 68, .iload 1, .bipush 1, .aload 0, .getfield 903, .getfield 810, .getfield 1, .iload 2, .iaload, .ishl, .bipush 1, .aload 0, .getfield 903, .getfield 810, .getfield 2, .iload 2, .iaload, .ishl, .ior, .bipush (-1), .ixor, .iand, .istore 1, .iinc 2 1, .goto 14] := rfl
theorem a172_14 {tb : Tab} {d : Nat} {K : Out → AM → Prop} {ls st : List AV} {m : AM} : At tb d 172 K 14 ls st m = wpB tb (pg.2.1 172) (Runs tb pg d) K (At tb d 172 K) [.iload 2, .aload 0, .getfield 903, .getfield 810, .getfield 0, .if_icmp .ge 68, .iload 1, .bipush 1, .aload 0, .getfield 903, .getfield 810, .getfield 1, .iload 2, .iaload, .ishl, .bipush 1, .aload 0, .getfield 903, .getfield 810, .getfield 2, .iload 2, .iaload, .ishl, .ior, .bipush (-1), .ixor, .iand, .istore 1, .iinc 2 1, .goto 14] ls st m := At.eq k172_14
theorem k172_68 : pg.1 172 68 = [.iload 1, .ireturn] := rfl
theorem a172_68 {tb : Tab} {d : Nat} {K : Out → AM → Prop} {ls st : List AV} {m : AM} : At tb d 172 K 68 ls st m = wpB tb (pg.2.1 172) (Runs tb pg d) K (At tb d 172 K) [.iload 1, .ireturn] ls st m := At.eq k172_68
theorem w_172 (hR : RW S 2 r) (hA : AB r)  (hK : ∀ v, v = clrM (dr r) (shlI 1 (r 4) - 1) (r 5).toNat → K (.inl (some (vi v))) (X S m)) : Runs tb pg (d + 1) 172 [vr 0] (X S m) K := by
  have hw := isW_2
  have b3 := hA.2.1.1
  have b4 := hA.2.1.2.1
  have b5 := hA.2.1.2.2.1
  have s5 : S 2 4 = r 4 := hR.1.2.1
  have hL14 : (fun i : Int => ∀ (a : Int), a = clrM (dr r) (shlI 1 (r 4) - 1) i.toNat → At tb d 172 K 14 [vr 0, vi a, vi i] [] (X S m)) 0 := by
    refine loopZ (fun i : Int => ∀ (a : Int), a = clrM (dr r) (shlI 1 (r 4) - 1) i.toNat → At tb d 172 K 14 [vr 0, vi a, vi i] [] (X S m)) (r 5) (by omega) ?_ ?_
    · intro i h0 h1 h9 a ha
      have s6 : S (2 + 9) 0 = r 5 := hR.2.2.2.1.1
      have s7 := hR.2.2.2.1.2 i h0 h1
      have s71 := s7.1
      have s72 := s7.2.1
      have dd := AB_dd hA h0 h1
      rw [a172_14]
      repeat' (first | omega | with_reducible refine h9 _ ?_ | simp only [w_iconst, w_aload, x_g903_0, x_g804_w0, w_ishl, w_isub, w_istore, w_fall, Int.reduceToNat, w_iload, x_g810_w0, x_g0_w9, w_ifc, cI, x_g1_w9, x_iald, w_ialoads, w_ialoadw, x_g2_w9, w_ior, w_ixor, w_iand, w_iinc, lgB, Nat.reduceSub, w_goto, w_ireturn, isA_w1, isA_w2, isA_w3, isA_w4, isA_w5, isA_w6, isA_w7, isA_w8, isA_w10, isA_w11, isA_w12, isA_w14, isA_w15, isA_w16, len_w1, len_w2, len_w3, len_w4, len_w5, len_w6, len_w7, len_w8, len_w10, len_w11, len_w12, len_w14, len_w15, len_w16, Int.cast_ofNat_Int, a172_0, a172_68, R32, List.getElem?_cons_zero, List.getElem?_cons_succ, List.set_cons_zero, List.set_cons_succ, List.cons_append, List.nil_append, List.replicate_succ, List.replicate_zero, List.take_succ_cons, List.take_zero, List.drop_succ_cons, List.drop_zero, List.reverse_cons, List.reverse_nil, List.length_cons, List.length_nil, Option.toList, true_and, and_true, eq_self, ↓reduceIte, not_true_eq_false, not_false_eq_true, true_or, or_true, hw, x_throw, hs_172] | (rw [s6]) | with_reducible refine And.intro ?_ ?_ | with_reducible intro _)
      all_goals (try (first | omega | contradiction | (rw [clrM_s h0, s71, s72, ha])))
    · intro a ha
      have s6 : S (2 + 9) 0 = r 5 := hR.2.2.2.1.1
      rw [a172_14]
      repeat' (first | omega | (exact hK _ ha) | simp only [w_iconst, w_aload, x_g903_0, x_g804_w0, w_ishl, w_isub, w_istore, w_fall, Int.reduceToNat, w_iload, x_g810_w0, x_g0_w9, w_ifc, cI, x_g1_w9, x_iald, w_ialoads, w_ialoadw, x_g2_w9, w_ior, w_ixor, w_iand, w_iinc, lgB, Nat.reduceSub, w_goto, w_ireturn, isA_w1, isA_w2, isA_w3, isA_w4, isA_w5, isA_w6, isA_w7, isA_w8, isA_w10, isA_w11, isA_w12, isA_w14, isA_w15, isA_w16, len_w1, len_w2, len_w3, len_w4, len_w5, len_w6, len_w7, len_w8, len_w10, len_w11, len_w12, len_w14, len_w15, len_w16, Int.cast_ofNat_Int, a172_0, a172_68, R32, List.getElem?_cons_zero, List.getElem?_cons_succ, List.set_cons_zero, List.set_cons_succ, List.cons_append, List.nil_append, List.replicate_succ, List.replicate_zero, List.take_succ_cons, List.take_zero, List.drop_succ_cons, List.drop_zero, List.reverse_cons, List.reverse_nil, List.length_cons, List.length_nil, Option.toList, true_and, and_true, eq_self, ↓reduceIte, not_true_eq_false, not_false_eq_true, true_or, or_true, hw, x_throw, hs_172] | (rw [s6]) | with_reducible refine And.intro ?_ ?_ | with_reducible intro _)
      all_goals (try (first | omega | contradiction | skip))
  refine Runs.of (al := [vr 0]) (n := 2) ⟨0, _, _, rfl, xo_0⟩ rfl rfl trivial ?_
  repeat' (first | omega | (exact hL14 _ rfl) | simp only [w_iconst, w_aload, x_g903_0, x_g804_w0, w_ishl, w_isub, w_istore, w_fall, Int.reduceToNat, w_iload, x_g810_w0, x_g0_w9, w_ifc, cI, x_g1_w9, x_iald, w_ialoads, w_ialoadw, x_g2_w9, w_ior, w_ixor, w_iand, w_iinc, lgB, Nat.reduceSub, w_goto, w_ireturn, isA_w1, isA_w2, isA_w3, isA_w4, isA_w5, isA_w6, isA_w7, isA_w8, isA_w10, isA_w11, isA_w12, isA_w14, isA_w15, isA_w16, len_w1, len_w2, len_w3, len_w4, len_w5, len_w6, len_w7, len_w8, len_w10, len_w11, len_w12, len_w14, len_w15, len_w16, Int.cast_ofNat_Int, a172_0, a172_68, R32, List.getElem?_cons_zero, List.getElem?_cons_succ, List.set_cons_zero, List.set_cons_succ, List.cons_append, List.nil_append, List.replicate_succ, List.replicate_zero, List.take_succ_cons, List.take_zero, List.drop_succ_cons, List.drop_zero, List.reverse_cons, List.reverse_nil, List.length_cons, List.length_nil, Option.toList, true_and, and_true, eq_self, ↓reduceIte, not_true_eq_false, not_false_eq_true, true_or, or_true, hw, x_throw, hs_172] | (rw [s5]) | with_reducible refine And.intro ?_ ?_ | with_reducible intro _)
  all_goals (try (first | omega | (exfalso; assumption) | skip))
theorem hs_173 {E : Nat} : pg.2.1 173 E = none := rfl
theorem k173_0 : pg.1 173 0 = [.aload 0, .getfield 903, .invokeinterface 91 1, .ifCond .eq 14, .bipush 1, .goto 15] := rfl
theorem a173_0 {tb : Tab} {d : Nat} {K : Out → AM → Prop} {ls st : List AV} {m : AM} : At tb d 173 K 0 ls st m = wpB tb (pg.2.1 173) (Runs tb pg d) K (At tb d 173 K) [.aload 0, .getfield 903, .invokeinterface 91 1, .ifCond .eq 14, .bipush 1, .goto 15] ls st m := At.eq k173_0
theorem k173_14 : pg.1 173 14 = [.bipush 0, .jsr 15] := rfl
theorem a173_14 {tb : Tab} {d : Nat} {K : Out → AM → Prop} {ls st : List AV} {m : AM} : At tb d 173 K 14 ls st m = wpB tb (pg.2.1 173) (Runs tb pg d) K (At tb d 173 K) [.bipush 0, .jsr 15] ls st m := At.eq k173_14
theorem k173_15 : pg.1 173 15 = [.freturn] := rfl
theorem a173_15 {tb : Tab} {d : Nat} {K : Out → AM → Prop} {ls st : List AV} {m : AM} : At tb d 173 K 15 ls st m = wpB tb (pg.2.1 173) (Runs tb pg d) K (At tb d 173 K) [.freturn] ls st m := At.eq k173_15
theorem w_173 (hR : RW S 2 r) (hA : AB r)  (hK : ∀ v, yn v (nimM (pr r) (r 4) ≠ 0) → K (.inl (some (vi v))) (X S m)) : Runs tb pg (d + 3) 173 [vr 0] (X S m) K := by
  have hw := isW_2
  have b3 := hA.2.1.1
  have b4 := hA.2.1.2.1
  have b5 := hA.2.1.2.2.1
  refine Runs.of (al := [vr 0]) (n := 0) ⟨0, _, _, rfl, xo_0⟩ rfl rfl trivial ?_
  repeat' (first | omega | (exact hK _ (Or.inl ⟨rfl, by omega⟩)) | (exact hK _ (Or.inr ⟨rfl, fun y => y (by omega)⟩)) | simp only [w_aload, x_g903_0, w_call, w_if, cI, Int.reduceToNat, w_iconst, w_goto, w_fall, w_zreturn, a173_0, a173_14, a173_15, R32, List.getElem?_cons_zero, List.getElem?_cons_succ, List.set_cons_zero, List.set_cons_succ, List.cons_append, List.nil_append, List.replicate_succ, List.replicate_zero, List.take_succ_cons, List.take_zero, List.drop_succ_cons, List.drop_zero, List.reverse_cons, List.reverse_nil, List.length_cons, List.length_nil, Option.toList, true_and, and_true, eq_self, ↓reduceIte, not_true_eq_false, not_false_eq_true, true_or, or_true, hw, x_throw, hs_173] | ((with_reducible refine w_91 hw hR hA (fun v1 x1 => ?_)); have nb := nimM_R (pr r) (r 4)) | with_reducible refine And.intro ?_ ?_ | with_reducible intro _)
  all_goals (try (first | omega | (exfalso; assumption) | skip))
theorem hs_174 {E : Nat} : pg.2.1 174 E = none := rfl
theorem k174_0 : pg.1 174 0 = [.aload 0, .getfield 903, .invokeinterface 92 1, .ireturn] := rfl
theorem a174_0 {tb : Tab} {d : Nat} {K : Out → AM → Prop} {ls st : List AV} {m : AM} : At tb d 174 K 0 ls st m = wpB tb (pg.2.1 174) (Runs tb pg d) K (At tb d 174 K) [.aload 0, .getfield 903, .invokeinterface 92 1, .ireturn] ls st m := At.eq k174_0
theorem w_174 (hR : RW S 2 r) (hA : AB r)  (hK : ∀ v, isFst (frM (pr r) (nimM (pr r) (r 4))) (100 * r 4) v → K (.inl (some (vi v))) (X S m)) : Runs tb pg (d + 4) 174 [vr 0] (X S m) K := by
  have hw := isW_2
  have b3 := hA.2.1.1
  have b4 := hA.2.1.2.1
  have b5 := hA.2.1.2.2.1
  refine Runs.of (al := [vr 0]) (n := 0) ⟨0, _, _, rfl, xo_0⟩ rfl rfl trivial ?_
  repeat' (first | omega | (exact hK _ x1) | simp only [w_aload, x_g903_0, w_call, w_ireturn, a174_0, R32, List.getElem?_cons_zero, List.getElem?_cons_succ, List.set_cons_zero, List.set_cons_succ, List.cons_append, List.nil_append, List.replicate_succ, List.replicate_zero, List.take_succ_cons, List.take_zero, List.drop_succ_cons, List.drop_zero, List.reverse_cons, List.reverse_nil, List.length_cons, List.length_nil, Option.toList, true_and, and_true, eq_self, ↓reduceIte, not_true_eq_false, not_false_eq_true, true_or, or_true, hw, x_throw, hs_174] | (with_reducible refine w_92 hw hR hA (fun v1 x1 => ?_)) | with_reducible refine And.intro ?_ ?_ | with_reducible intro _)
  all_goals (try (first | omega | (exfalso; assumption) | skip))
end Snow2
