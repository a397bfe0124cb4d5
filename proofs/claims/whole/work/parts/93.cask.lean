/-! ===== THE CLASS: a law asked ===== -/
/-- the lines of a law, as its arrays hold them -/
def LWr (q : List LL) (k u b c : Nat → Int) (nc : Nat) : Prop := ∀ (i : Nat) (l : LL), q[i]? = some l → (k i = l.1 ∧ 0 ≤ l.1 ∧ l.1 ≤ 2) ∧ u i = l.2.1 ∧ (0 ≤ b i ∧ b (i + 1) = b i + l.2.2.length ∧ b (i + 1) ≤ nc) ∧ ∀ (j : Nat) (x : Int), l.2.2[j]? = some x → c (b i + j).toNat = x
/-- a law lies at a cell -/
def LWm (m : AM) (a : Nat) (D : LawD) : Prop := a + 5 < m.2.1 ∧ ∃ (n nc : Nat) (k u b c s : Nat → Int), LWc m a n nc k u b c ∧ m.1 (a + 5) = ca 0 32 s ∧ (n : Int) = D.1 ∧ (lawL D).length = n ∧ LWr (lawL D) k u b c nc ∧ nc ≤ 400
/-- the law of a World, or none -/
def LWo (m : AM) (x : Int) (D : LawD) : Prop := (x = -1 ∧ D.1 = -1) ∨ (317 ≤ x ∧ LWm m x.toNat D)
/-- the same laws lie there still -/
def MS (m m2 : AM) : Prop := m2.2 = m.2 ∧ ∀ a D, LWm m a D → LWm m2 a D
theorem MS_r {m : AM} : MS m m := ⟨rfl, fun _ _ h => h⟩
theorem MS_l {m m2 : AM} {a : Nat} {D : LawD} (h : MS m m2) (g : LWm m a D) : LWm m2 a D := h.2 a D g
theorem MS_t {m m2 m3 : AM} (h : MS m m2) (g : MS m2 m3) : MS m m3 := ⟨g.1.trans h.1, fun a D x => g.2 a D (h.2 a D x)⟩
theorem LWo_s {m m2 : AM} {x : Int} {D : LawD} (h : MS m m2) (g : LWo m x D) : LWo m2 x D := by
  rcases g with g | g
  · exact Or.inl g
  · exact Or.inr ⟨g.1, h.2 _ _ g.2⟩
theorem LWm_st {m : AM} {a a2 n nc : Nat} {k u b c s0 s : Nat → Int} {D : LawD} (hc : LWc m a n nc k u b c) (hs : m.1 (a + 5) = ca 0 32 s0) (h : LWm m a2 D) : LWm (mset m (a + 5) (ca 0 32 s)) a2 D := by
  obtain ⟨h0, n2, nc2, k2, u2, b2, c2, s2, ⟨d0, d1, d2, d3, d4, d5⟩, d6, d7⟩ := h
  obtain ⟨e0, e1, e2, e3, e4, e5⟩ := hc
  have ne : ∀ (e : Nat), e < 5 → a2 + e ≠ a + 5 := fun e he z => by
    have w : a2 = a + 5 ∨ a2 = a + 4 ∨ a2 = a + 3 ∨ a2 = a + 2 ∨ a2 = a + 1 := by omega
    rcases w with w | w | w | w | w
    · rw [w, hs] at d1; cases d1
    · rw [w, e5] at d1; cases d1
    · rw [w, e4] at d1; cases d1
    · rw [w, e3] at d1; cases d1
    · rw [w, e2] at d1; cases d1
  have o : ∀ (e : Nat), e < 5 → (mset m (a + 5) (ca 0 32 s)).1 (a2 + e) = m.1 (a2 + e) := fun e he => if_neg (ne e he)
  have o5 : ∃ s9, (mset m (a + 5) (ca 0 32 s)).1 (a2 + 5) = ca 0 32 s9 := by
    by_cases z : a2 + 5 = a + 5
    · exact ⟨s, if_pos z⟩
    · exact ⟨s2, (if_neg z).trans d6⟩
  obtain ⟨s9, o5⟩ := o5
  exact ⟨h0, n2, nc2, k2, u2, b2, c2, s9, ⟨d0, (o 0 (by decide)).trans d1, (o 1 (by decide)).trans d2, (o 2 (by decide)).trans d3, (o 3 (by decide)).trans d4, (o 4 (by decide)).trans d5⟩, o5, d7⟩
theorem MS_st {m : AM} {a n nc : Nat} {k u b c s0 s : Nat → Int} (hc : LWc m a n nc k u b c) (hs : m.1 (a + 5) = ca 0 32 s0) : MS m (mset m (a + 5) (ca 0 32 s)) := ⟨rfl, fun _ _ h => LWm_st hc hs h⟩
theorem totL_t {kd i : Int} {fc : Int → Int} {q : List LL} {l : LL} (h0 : 0 ≤ i) (h : q[i.toNat]? = some l) : totL kd fc (q.take (i + 1).toNat) = totL kd fc (q.take i.toNat) + (if l.1 = kd ∧ valL fc l.2.2 ≠ 0 then l.2.1 else 0) := by
  rw [show (i + 1).toNat = i.toNat + 1 by omega, List.take_add_one, h, totL_app]
  exact congrArg _ totL_1
/-- the facts gathered -/
noncomputable def fcW (S : Nat → Int → Int) (w : Nat) (r : Int → Int) (p f : Int) : Nat → Int → Int := fun b => if b = w + 16 then (fun j => if 0 ≤ j ∧ j < 10 then fcR r p f j else S b j) else S b
theorem fcW_o {S : Nat → Int → Int} {w b : Nat} {r : Int → Int} {p f : Int} (h : b ≠ w + 16) : fcW S w r p f b = S b := if_neg h
theorem fcW_w {S : Nat → Int → Int} {w : Nat} {r : Int → Int} {p f : Int} : fcW S w r p f w = S w := if_neg (by omega)
theorem fcW_f {S : Nat → Int → Int} {w : Nat} {r : Int → Int} {p f : Int} : ∀ j, 0 ≤ j → j < 10 → fcW S w r p f (w + 16) j = fcR r p f j := fun j j0 j1 => by
  unfold fcW
  rw [if_pos rfl]
  exact if_pos ⟨j0, j1⟩
def FT (S T : Nat → Int → Int) (w : Nat) : Prop := ∀ b, b ≠ w + 16 → T b = S b
theorem FT_r {S : Nat → Int → Int} {w : Nat} : FT S S w := fun _ _ => rfl
theorem FT_fc {S : Nat → Int → Int} {w : Nat} {r : Int → Int} {p f : Int} : FT S (fcW S w r p f) w := fun _ h => fcW_o h
theorem FT_t {S T U : Nat → Int → Int} {w : Nat} (h : FT S T w) (g : FT T U w) : FT S U w := fun b hb => (g b hb).trans (h b hb)
theorem FT_EW {S T : Nat → Int → Int} {w : Nat} (h : FT S T w) : EW S T w := fun a ha => h a (by omega)
theorem RW_F {S T : Nat → Int → Int} {w : Nat} {r : Int → Int} (hR : RW S w r) (h : FT S T w) : RW T w r := by
  obtain ⟨c0, cf, cp, cd, cl, cs⟩ := hR
  have o : ∀ k : Nat, k ≠ 16 → T (w + k) = S (w + k) := fun k hk => h _ (by omega)
  have o0 : T w = S w := h _ (by omega)
  refine ⟨by rw [o0]; exact c0, fun f f0 f1 => ?_, fun p p0 p1 => ?_, ?_, ?_, fun j j0 j1 => ?_⟩
  · rw [o 1 (by decide), o 2 (by decide), o 3 (by decide)]; exact cf f f0 f1
  · rw [o 4 (by decide), o 5 (by decide), o 6 (by decide), o 7 (by decide), o 8 (by decide)]; exact cp p p0 p1
  · unfold RWd; rw [o 9 (by decide), o 10 (by decide), o 11 (by decide), o 12 (by decide)]; exact cd
  · unfold RWl; rw [o 13 (by decide), o 14 (by decide)]; exact cl
  · rw [o 15 (by decide)]; exact cs j j0 j1
theorem FT_u {S T : Nat → Int → Int} {w : Nat} {i x : Int} (h : FT S T w) : FT S (upS T (w + 16) i x) w := fun b hb => (if_neg hb).trans (h b hb)
theorem fcW_of {S T : Nat → Int → Int} {w : Nat} {r : Int → Int} {p f : Int} (hF : FT S T w) (ho : ∀ j, ¬ (0 ≤ j ∧ j < 10) → T (w + 16) j = S (w + 16) j) (h0 : T (w + 16) 0 = p) (h1 : T (w + 16) 1 = f) (h2 : T (w + 16) 2 = fr r f 0) (h3 : T (w + 16) 3 = fr r f 1) (h4 : T (w + 16) 4 = pr r p 0) (h5 : T (w + 16) 5 = owedByM (dr r) (r 5) p) (h6 : T (w + 16) 6 = r 10 % 100) (h7 : T (w + 16) 7 = if pr r p 1 = -1 then 0 else 1) (h8 : yn (T (w + 16) 8) (wholeM (pr r) p (pr r p 0))) (h9 : T (w + 16) 9 = if 0 < owedByM (dr r) (r 5) p then 1 else 0) : T = fcW S w r p f := by
  funext b
  by_cases z : b = w + 16
  · subst z
    funext j
    by_cases y : 0 ≤ j ∧ j < 10
    · rw [fcW_f j y.1 y.2]
      rcases (show j = 0 ∨ j = 1 ∨ j = 2 ∨ j = 3 ∨ j = 4 ∨ j = 5 ∨ j = 6 ∨ j = 7 ∨ j = 8 ∨ j = 9 by omega) with q | q | q | q | q | q | q | q | q | q <;> subst q
      · exact h0
      · exact h1
      · exact h2
      · exact h3
      · exact h4
      · exact h5
      · exact h6
      · exact h7
      · show _ = @ite _ (wholeM (pr r) p (pr r p 0)) (Classical.propDecidable _) 1 0
        rcases h8 with ⟨g1, g2⟩ | ⟨g1, g2⟩
        · rw [if_pos g2]; exact g1
        · rw [if_neg g2]; exact g1
      · exact h9
    · rw [ho j y]
      unfold fcW
      rw [if_pos rfl]
      exact (if_neg y).symm
  · rw [hF b z, fcW_o z]
theorem owed_rg {r : Int → Int} (hA : AB r) {p : Int} : -8 ≤ owedByM (dr r) (r 5) p ∧ owedByM (dr r) (r 5) p ≤ 80000 := by
  have b5 := hA.2.1.2.2.1
  have := sumZ_le (n := r 5) (a := -1) (b := 10000) (f := fun k => if dr r k 0 = p then dr r k 2 else 0) b5.1 (fun k k0 k1 => by have := AB_dd hA k0 k1; split <;> omega)
  unfold owedByM
  omega
theorem fcR_ok {r : Int → Int} (hA : AB r) {p f : Int} (hp : 0 ≤ p ∧ p < r 4) (hf : 0 ≤ f ∧ f < r 3) : okFc (fcR r p f) := by
  have z := AB_pp hA hp.1 hp.2
  have y := AB_ff hA hf.1 hf.2
  have o := owed_rg hA (p := p)
  have b10 := hA.2.1.2.2.2.2.2.2.2.2
  constructor
  · intro j
    unfold fcR
    repeat' split
    all_goals omega
  · intro j j0
    unfold fcR
    rw [if_neg (by omega), if_neg (by omega), if_neg (by omega), if_neg (by omega), if_neg (by omega), if_neg (by omega), if_neg (by omega)]
    repeat' split
    all_goals omega
theorem lv_n {x : Int} (h : x < 0) : lv x = vn := if_pos h
theorem lv_r {x : Int} (h : 317 ≤ x) : lv x = vr x.toNat := if_neg (by omega)
theorem lawL_0 {D : LawD} (h : D.1 = -1) : lawL D = [] := if_pos (by omega)
theorem mlt_n {r : Int → Int} {p f : Int} (h : (lawD r).1 = -1) : mltR evL r p f = if fr r f 0 / 2 < 0 then 0 else fr r f 0 / 2 := by
  unfold mltR evL totM
  rw [lawL_0 h]
  simp only [if_true, totL, Int.sub_self, Int.add_zero]
theorem mlt_v {r : Int → Int} {p f : Int} : mltR evL r p f = if fr r f 0 / 2 + (totL 0 (fcR r p f) (lawL (lawD r)) - totL 1 (fcR r p f) (lawL (lawD r))) < 0 then 0 else fr r f 0 / 2 + (totL 0 (fcR r p f) (lawL (lawD r)) - totL 1 (fcR r p f) (lawL (lawD r))) := rfl
theorem dpt_n {r : Int → Int} {p f : Int} (h : (lawD r).1 = -1) : dptR evL r p f = 4 := by
  unfold dptR evL totD
  rw [lawL_0 h]
  rfl
theorem dpt_v {r : Int → Int} {p f : Int} : dptR evL r p f = if 9 < 4 + totL 2 (fcR r p f) (lawL (lawD r)) then 9 else 4 + totL 2 (fcR r p f) (lawL (lawD r)) := rfl
theorem tot_rg {k : Int} {fc : Int → Int} {D : LawD} : 0 ≤ totL k fc (lawL D) ∧ totL k fc (lawL D) ≤ 480 := by
  have o := lawL_ok (L := D)
  have a := totL_rg (k := k) (fc := fc) _ o.1
  omega
theorem yn_b {x : Int} {c : Prop} (h : yn x c) : 0 ≤ x ∧ x ≤ 1 := by
  rcases h with ⟨y, _⟩ | ⟨y, _⟩ <;> omega
section Law35
variable {tb : Tab} {d : Nat} {m : AM} {K : Out → AM → Prop} {S : Nat → Int → Int} {w a n nc : Nat} {k u b c : Nat → Int} {fc : Int → Int}
theorem k35_0 : pg.1 35 0 = [.bipush 0, .istore 3, .bipush 0, .istore 4, .jsr 5] := rfl
theorem a35_0 {tb : Tab} {d : Nat} {K : Out → AM → Prop} {ls st : List AV} {m : AM} : At tb d 35 K 0 ls st m = wpB tb (pg.2.1 35) (Runs tb pg d) K (At tb d 35 K) [.bipush 0, .istore 3, .bipush 0, .istore 4, .jsr 5] ls st m := At.eq k35_0
theorem k35_5 : pg.1 35 5 = [.iload 4, .aload 0, .getfield 200, .if_icmp .ge 51, .aload 0, .getfield 201, .iload 4, .iaload, .iload 1, .if_icmp .ne 45, .aload 0, .iload 4, .aload 2, .invokeinterface 36 3, .ifCond .eq 45, .iload 3, .aload 0, .getfield 202, .iload 4, .iaload, .iadd, .istore 3, .jsr 45] := rfl
theorem a35_5 {tb : Tab} {d : Nat} {K : Out → AM → Prop} {ls st : List AV} {m : AM} : At tb d 35 K 5 ls st m = wpB tb (pg.2.1 35) (Runs tb pg d) K (At tb d 35 K) [.iload 4, .aload 0, .getfield 200, .if_icmp .ge 51, .aload 0, .getfield 201, .iload 4, .iaload, .iload 1, .if_icmp .ne 45, .aload 0, .iload 4, .aload 2, .invokeinterface 36 3, .ifCond .eq 45, .iload 3, .aload 0, .getfield 202, .iload 4, .iaload, .iadd, .istore 3, .jsr 45] ls st m := At.eq k35_5
theorem k35_45 : pg.1 35 45 = [.iinc 4 1, .goto 5] := rfl
theorem a35_45 {tb : Tab} {d : Nat} {K : Out → AM → Prop} {ls st : List AV} {m : AM} : At tb d 35 K 45 ls st m = wpB tb (pg.2.1 35) (Runs tb pg d) K (At tb d 35 K) [.iinc 4 1, .goto 5] ls st m := At.eq k35_45
theorem k35_51 : pg.1 35 51 = [.iload 3, .ireturn] := rfl
theorem a35_51 {tb : Tab} {d : Nat} {K : Out → AM → Prop} {ls st : List AV} {m : AM} : At tb d 35 K 51 ls st m = wpB tb (pg.2.1 35) (Runs tb pg d) K (At tb d 35 K) [.iload 3, .ireturn] ls st m := At.eq k35_51
theorem w_35a {kind : Int} (hw : isW w) (hc : LWc m a n nc k u b c) {s0 : Nat → Int} {q : List LL} (hq : q.length = n) (hr : LWr q k u b c nc) (hn : nc ≤ 400 ∧ n ≤ 12) (ho : okLc fc q) (hF : ∀ j, 0 ≤ j → j < 10 → S (w + 16) j = fc j) (hk : 0 ≤ kind ∧ kind ≤ 2) (hK : ∀ s v, v = totL kind fc q → K (.inl (some (vi v))) (X S (mset m (a + 5) (ca 0 32 s)))) : Runs tb pg (d + 2) 35 [vr a, vi kind, vr (w + 16)] (X S (mset m (a + 5) (ca 0 32 s0))) K := by
  have hL5 : (fun i : Int => ∀ (s : Nat → Int) (t : Int), t = totL kind fc (q.take i.toNat) → At tb (d + 1) 35 K 5 [vr a, vi kind, vr (w + 16), vi t, vi i] [] (X S (mset m (a + 5) (ca 0 32 s)))) 0 := by
    refine loopZ (fun i : Int => ∀ (s : Nat → Int) (t : Int), t = totL kind fc (q.take i.toNat) → At tb (d + 1) 35 K 5 [vr a, vi kind, vr (w + 16), vi t, vi i] [] (X S (mset m (a + 5) (ca 0 32 s)))) ((n : Int)) (by omega) ?_ ?_
    · intro i h0 h1 h9 s t ht
      obtain ⟨l, hl⟩ : ∃ l, q[i.toNat]? = some l := ⟨_, List.getElem?_eq_getElem (by omega)⟩
      obtain ⟨⟨k1, k2, k3⟩, k4, ⟨k5, k6, k7⟩, k8⟩ := hr _ l hl
      have e1 : (i + 1).toNat = i.toNat + 1 := by omega
      have ts := totL_t (kd := kind) (fc := fc) h0 hl
      have ol := ho l (List.mem_of_getElem? hl)
      have hb : 0 ≤ b i.toNat ∧ b (i + 1).toNat = b i.toNat + l.2.2.length ∧ b (i + 1).toNat ≤ nc ∧ nc ≤ 400 := by rw [e1]; exact ⟨k5, k6, k7, hn.1⟩
      rw [a35_5]
      repeat' (first | omega | with_reducible refine h9 _ _ ?_ | simp only [w_iconst, w_istore, w_fall, Int.reduceToNat, w_iload, w_aload, w_ifc, cI, x_iald, w_ialoads, w_ialoadw, w_call, w_if, w_iadd, w_iinc, lgB, Nat.reduceSub, w_goto, w_ireturn, isA_w1, isA_w2, isA_w3, isA_w4, isA_w5, isA_w6, isA_w7, isA_w8, isA_w10, isA_w11, isA_w12, isA_w14, isA_w15, isA_w16, len_w1, len_w2, len_w3, len_w4, len_w5, len_w6, len_w7, len_w8, len_w10, len_w11, len_w12, len_w14, len_w15, len_w16, Int.cast_ofNat_Int, a35_0, a35_45, a35_51, R32, List.getElem?_cons_zero, List.getElem?_cons_succ, List.set_cons_zero, List.set_cons_succ, List.cons_append, List.nil_append, List.replicate_succ, List.replicate_zero, List.take_succ_cons, List.take_zero, List.drop_succ_cons, List.drop_zero, List.reverse_cons, List.reverse_nil, List.length_cons, List.length_nil, Option.toList, true_and, and_true, eq_self, ↓reduceIte, not_true_eq_false, not_false_eq_true, true_or, or_true, lg_200 hc, lg_201 hc, lg_202 hc, lg_203 hc, lg_204 hc, lg_205 hc, lg_a1 hc, lg_a2 hc, lg_a3 hc, lg_a4 hc, lg_a5 hc.1, lg_s5 hc.1, hw] | with_reducible refine w_36 hw hc (cs := l.2.2) ⟨h0, h1⟩ hb k8 ol hF (fun s1 v1 x1 => ?_) | with_reducible refine And.intro ?_ ?_ | with_reducible intro _)
      all_goals (try (first | omega | contradiction | (rw [ts, if_neg (fun y => by have := y.1; omega)]; omega) | (rw [ts]; by_cases y : valL fc l.2.2 ≠ 0; (rw [if_pos y] at x1; rw [if_pos ⟨by omega, y⟩]; omega); (rw [if_neg y] at x1; rw [if_neg (fun z => y z.2)]; omega))))
    · intro s t ht
      rw [Int.toNat_natCast, ← hq, List.take_length] at ht
      rw [a35_5]
      repeat' (first | omega | (exact hK _ _ ht) | simp only [w_iconst, w_istore, w_fall, Int.reduceToNat, w_iload, w_aload, w_ifc, cI, x_iald, w_ialoads, w_ialoadw, w_call, w_if, w_iadd, w_iinc, lgB, Nat.reduceSub, w_goto, w_ireturn, isA_w1, isA_w2, isA_w3, isA_w4, isA_w5, isA_w6, isA_w7, isA_w8, isA_w10, isA_w11, isA_w12, isA_w14, isA_w15, isA_w16, len_w1, len_w2, len_w3, len_w4, len_w5, len_w6, len_w7, len_w8, len_w10, len_w11, len_w12, len_w14, len_w15, len_w16, Int.cast_ofNat_Int, a35_0, a35_45, a35_51, R32, List.getElem?_cons_zero, List.getElem?_cons_succ, List.set_cons_zero, List.set_cons_succ, List.cons_append, List.nil_append, List.replicate_succ, List.replicate_zero, List.take_succ_cons, List.take_zero, List.drop_succ_cons, List.drop_zero, List.reverse_cons, List.reverse_nil, List.length_cons, List.length_nil, Option.toList, true_and, and_true, eq_self, ↓reduceIte, not_true_eq_false, not_false_eq_true, true_or, or_true, lg_200 hc, lg_201 hc, lg_202 hc, lg_203 hc, lg_204 hc, lg_205 hc, lg_a1 hc, lg_a2 hc, lg_a3 hc, lg_a4 hc, lg_a5 hc.1, lg_s5 hc.1, hw] | with_reducible refine w_36 hw hc (cs := l.2.2) ⟨h0, h1⟩ hb k8 ol hF (fun s1 v1 x1 => ?_) | with_reducible refine And.intro ?_ ?_ | with_reducible intro _)
      all_goals (try (first | omega | contradiction | omega))
  refine Runs.of (al := [vr a, vi kind, vr (w + 16)]) (n := 2) ⟨a, _, _, rfl, lg_0 hc⟩ rfl rfl trivial ?_
  repeat' (first | omega | with_reducible refine hL5 _ _ ?_ | simp only [w_iconst, w_istore, w_fall, Int.reduceToNat, w_iload, w_aload, w_ifc, cI, x_iald, w_ialoads, w_ialoadw, w_call, w_if, w_iadd, w_iinc, lgB, Nat.reduceSub, w_goto, w_ireturn, isA_w1, isA_w2, isA_w3, isA_w4, isA_w5, isA_w6, isA_w7, isA_w8, isA_w10, isA_w11, isA_w12, isA_w14, isA_w15, isA_w16, len_w1, len_w2, len_w3, len_w4, len_w5, len_w6, len_w7, len_w8, len_w10, len_w11, len_w12, len_w14, len_w15, len_w16, Int.cast_ofNat_Int, a35_0, a35_45, a35_51, R32, List.getElem?_cons_zero, List.getElem?_cons_succ, List.set_cons_zero, List.set_cons_succ, List.cons_append, List.nil_append, List.replicate_succ, List.replicate_zero, List.take_succ_cons, List.take_zero, List.drop_succ_cons, List.drop_zero, List.reverse_cons, List.reverse_nil, List.length_cons, List.length_nil, Option.toList, true_and, and_true, eq_self, ↓reduceIte, not_true_eq_false, not_false_eq_true, true_or, or_true, lg_200 hc, lg_201 hc, lg_202 hc, lg_203 hc, lg_204 hc, lg_205 hc, lg_a1 hc, lg_a2 hc, lg_a3 hc, lg_a4 hc, lg_a5 hc.1, lg_s5 hc.1, hw] | with_reducible refine And.intro ?_ ?_ | with_reducible intro _)
  all_goals (try (first | omega | (exfalso; assumption) | rfl))
theorem w_35 {kind : Int} {D : LawD} (hw : isW w) (hL : LWm m a D) (hf : okFc fc) (hF : ∀ j, 0 ≤ j → j < 10 → S (w + 16) j = fc j) (hk : 0 ≤ kind ∧ kind ≤ 2) (hK : ∀ m1 v, v = totL kind fc (lawL D) → MS m m1 → K (.inl (some (vi v))) (X S m1)) : Runs tb pg (d + 2) 35 [vr a, vi kind, vr (w + 16)] (X S m) K := by
  obtain ⟨h0, n, nc, k, u, b, c, s, hc, hs, hn, hl, hr, hn2⟩ := hL
  have ll := (lawL_ok (L := D)).2
  have e : mset m (a + 5) (ca 0 32 s) = m := mset_id hs
  rw [← e]
  exact w_35a hw hc hl hr ⟨hn2, by omega⟩ (lawL_E hf) hF hk (fun s1 v x => hK _ v x (MS_st hc hs))
end Law35
section World7
variable {tb : Tab} {d : Nat} {m : AM} {K : Out → AM → Prop} {S : Nat → Int → Int} {w : Nat} {r : Int → Int}
theorem k126_0 : pg.1 126 0 = [.aload 0, .getfield 810, .iload 1, .invokeinterface 17 2, .istore 3, .aload 0, .getfield 816, .bipush 0, .iload 1, .iastore, .aload 0, .getfield 816, .bipush 1, .iload 2, .iastore, .aload 0, .getfield 816, .bipush 2, .aload 0, .getfield 801, .iload 2, .iaload, .iastore, .aload 0, .getfield 816, .bipush 3, .aload 0, .getfield 802, .iload 2, .iaload, .iastore, .aload 0, .getfield 816, .bipush 4, .aload 0, .getfield 805, .iload 1, .iaload, .iastore, .aload 0, .getfield 816, .bipush 5, .iload 3, .iastore, .aload 0, .getfield 816, .bipush 6, .aload 0, .getfield 812, .bipush 4, .iaload, .bipush 100, .irem, .iastore, .aload 0, .getfield 816, .bipush 7, .aload 0, .getfield 807, .iload 1, .iaload, .bipush (-1), .if_icmp .eq 102, .bipush 1, .goto 103] := rfl
theorem a126_0 {tb : Tab} {d : Nat} {K : Out → AM → Prop} {ls st : List AV} {m : AM} : At tb d 126 K 0 ls st m = wpB tb (pg.2.1 126) (Runs tb pg d) K (At tb d 126 K) [.aload 0, .getfield 810, .iload 1, .invokeinterface 17 2, .istore 3, .aload 0, .getfield 816, .bipush 0, .iload 1, .iastore, .aload 0, .getfield 816, .bipush 1, .iload 2, .iastore, .aload 0, .getfield 816, .bipush 2, .aload 0, .getfield 801, .iload 2, .iaload, .iastore, .aload 0, .getfield 816, .bipush 3, .aload 0, .getfield 802, .iload 2, .iaload, .iastore, .aload 0, .getfield 816, .bipush 4, .aload 0, .getfield 805, .iload 1, .iaload, .iastore, .aload 0, .getfield 816, .bipush 5, .iload 3, .iastore, .aload 0, .getfield 816, .bipush 6, .aload 0, .getfield 812, .bipush 4, .iaload, .bipush 100, .irem, .iastore, .aload 0, .getfield 816, .bipush 7, .aload 0, .getfield 807, .iload 1, .iaload, .bipush (-1), .if_icmp .eq 102, .bipush 1, .goto 103] ls st m := At.eq k126_0
theorem k126_102 : pg.1 126 102 = [.bipush 0, .jsr 103] := rfl
theorem a126_102 {tb : Tab} {d : Nat} {K : Out → AM → Prop} {ls st : List AV} {m : AM} : At tb d 126 K 102 ls st m = wpB tb (pg.2.1 126) (Runs tb pg d) K (At tb d 126 K) [.bipush 0, .jsr 103] ls st m := At.eq k126_102
theorem k126_103 : pg.1 126 103 = [.iastore, .aload 0, .getfield 816, .bipush 8, .aload 0, .iload 1, .invokeinterface 118 2, .ifCond .eq 122, .bipush 1, .goto 123] := rfl
theorem a126_103 {tb : Tab} {d : Nat} {K : Out → AM → Prop} {ls st : List AV} {m : AM} : At tb d 126 K 103 ls st m = wpB tb (pg.2.1 126) (Runs tb pg d) K (At tb d 126 K) [.iastore, .aload 0, .getfield 816, .bipush 8, .aload 0, .iload 1, .invokeinterface 118 2, .ifCond .eq 122, .bipush 1, .goto 123] ls st m := At.eq k126_103
theorem k126_122 : pg.1 126 122 = [.bipush 0, .jsr 123] := rfl
theorem a126_122 {tb : Tab} {d : Nat} {K : Out → AM → Prop} {ls st : List AV} {m : AM} : At tb d 126 K 122 ls st m = wpB tb (pg.2.1 126) (Runs tb pg d) K (At tb d 126 K) [.bipush 0, .jsr 123] ls st m := At.eq k126_122
theorem k126_123 : pg.1 126 123 = [.iastore, .aload 0, .getfield 816, .bipush 9, .iload 3, .ifCond .le 138, .bipush 1, .goto 139] := rfl
theorem a126_123 {tb : Tab} {d : Nat} {K : Out → AM → Prop} {ls st : List AV} {m : AM} : At tb d 126 K 123 ls st m = wpB tb (pg.2.1 126) (Runs tb pg d) K (At tb d 126 K) [.iastore, .aload 0, .getfield 816, .bipush 9, .iload 3, .ifCond .le 138, .bipush 1, .goto 139] ls st m := At.eq k126_123
theorem k126_138 : pg.1 126 138 = [.bipush 0, .jsr 139] := rfl
theorem a126_138 {tb : Tab} {d : Nat} {K : Out → AM → Prop} {ls st : List AV} {m : AM} : At tb d 126 K 138 ls st m = wpB tb (pg.2.1 126) (Runs tb pg d) K (At tb d 126 K) [.bipush 0, .jsr 139] ls st m := At.eq k126_138
theorem k126_139 : pg.1 126 139 = [.iastore, .return_] := rfl
theorem a126_139 {tb : Tab} {d : Nat} {K : Out → AM → Prop} {ls st : List AV} {m : AM} : At tb d 126 K 139 ls st m = wpB tb (pg.2.1 126) (Runs tb pg d) K (At tb d 126 K) [.iastore, .return_] ls st m := At.eq k126_139
theorem w_126 {p f : Int} (hw : isW w) (hR : RW S w r) (hA : AB r) (hp : 0 ≤ p ∧ p < r 4) (hf : 0 ≤ f ∧ f < r 3) (hK : ∀ T, T = fcW S w r p f → K (.inl none) (X T m)) : Runs tb pg (d + 2) 126 [vr w, vi p, vi f] (X S m) K := by
  have b3 := hA.2.1.1
  have b4 := hA.2.1.2.1
  have b5 := hA.2.1.2.2.1
  have e0 := hR.1.1
  have e4 := hR.1.2.1
  obtain ⟨q1, q2, q3, q4⟩ := hR.2.2.1 p hp.1 hp.2
  have z := AB_pp hA hp.1 hp.2
  have y := AB_ff hA hf.1 hf.2
  obtain ⟨f1, f2, f3⟩ := hR.2.1 f hf.1 hf.2
  have s10 := hR.2.2.2.2.2 4 (by omega) (by omega)
  have s10b : S (w + 15) 4 = r 10 := s10
  have b10 := hA.2.1.2.2.2.2.2.2.2.2
  have ow := owed_rg hA (p := p)
  refine Runs.of (al := [vr w, vi p, vi f]) (n := 1) ⟨w, _, _, rfl, xo_w0 hw⟩ rfl rfl trivial ?_
  repeat' (first | omega | with_reducible refine hK _ (fcW_of ?_ ?_ ?_ ?_ ?_ ?_ ?_ ?_ ?_ ?_ ?_ ?_) | simp only [w_aload, x_g810_w0, w_iload, w_call, w_istore, x_g816_w0, w_iconst, x_iast, x_g801_w0, x_iald, w_ialoads, w_ialoadw, x_g802_w0, x_g805_w0, x_g812_w0, w_irem, x_g807_w0, w_ifc, cI, Int.reduceToNat, w_goto, w_fall, w_if, w_return, isA_w1, isA_w2, isA_w3, isA_w4, isA_w5, isA_w6, isA_w7, isA_w8, isA_w10, isA_w11, isA_w12, isA_w14, isA_w15, isA_w16, len_w1, len_w2, len_w3, len_w4, len_w5, len_w6, len_w7, len_w8, len_w10, len_w11, len_w12, len_w14, len_w15, len_w16, Int.cast_ofNat_Int, a126_0, a126_102, a126_103, a126_122, a126_123, a126_138, a126_139, R32, List.getElem?_cons_zero, List.getElem?_cons_succ, List.set_cons_zero, List.set_cons_succ, List.cons_append, List.nil_append, List.replicate_succ, List.replicate_zero, List.take_succ_cons, List.take_zero, List.drop_succ_cons, List.drop_zero, List.reverse_cons, List.reverse_nil, List.length_cons, List.length_nil, Option.toList, true_and, and_true, eq_self, ↓reduceIte, not_true_eq_false, not_false_eq_true, true_or, or_true, hw, up_ne, ne_eq, Nat.reduceEqDiff, not_false_eq_true] | with_reducible refine w_17 hw hR hA ?_ (fun v1 x1 => ?_) | ((with_reducible refine w_118 hw (RW_F hR ?_) hA hp (fun v2 x2 => ?_)); rotate_left; have gy := yn_b x2) | with_reducible refine And.intro ?_ ?_ | with_reducible intro _)
  all_goals (try (first | omega | (exfalso; assumption) | exact FT_r | exact FT_u (FT_u (FT_u (FT_u (FT_u (FT_u (FT_u (FT_u (FT_u (FT_u FT_r))))))))) | exact FT_u (FT_u (FT_u (FT_u (FT_u (FT_u (FT_u (FT_u FT_r))))))) | (unfold R32; omega) | (intro j hj; simp only [upS_at, Int.reduceEq, Nat.reduceEqDiff, true_and, and_true, and_self, if_true, if_false, and_false, reduceIte, Nat.add_left_cancel_iff, Nat.left_eq_add, Nat.add_eq_left]; repeat rw [if_neg (by omega)]) | (simp only [upS_at, Int.reduceEq, Nat.reduceEqDiff, true_and, and_true, and_self, if_true, if_false, and_false, reduceIte, Nat.add_left_cancel_iff, Nat.left_eq_add, Nat.add_eq_left]; done) | (simp only [upS_at, Int.reduceEq, Nat.reduceEqDiff, true_and, and_true, and_self, if_true, if_false, and_false, reduceIte, Nat.add_left_cancel_iff, Nat.left_eq_add, Nat.add_eq_left]; first | rfl | omega | (split <;> omega) | (unfold yn at x2; rcases x2 with ⟨xa, xb⟩ | ⟨xa, xb⟩; all_goals first | (exact Or.inl ⟨rfl, xb⟩) | (exact Or.inr ⟨rfl, xb⟩) | omega))))
theorem w_126s {p f : Int} (hw : isW w) (hR : RW S w r) (hA : AB r) (hp : 0 ≤ p ∧ p < r 4) (hf : 0 ≤ f ∧ f < r 3) (hK : K (.inl none) (X (fcW S w r p f) m)) : Runs tb pg (d + 2) 126 [vr w, vi p, vi f] (X S m) K := w_126 hw hR hA hp hf (fun T e => by rw [e]; exact hK)
theorem k124_0 : pg.1 124 0 = [.aload 0, .getfield 801, .iload 2, .iaload, .bipush 2, .idiv, .istore 3, .aload 0, .getfield 815, .ifnull 50, .aload 0, .iload 1, .iload 2, .invokeinterface 126 3, .iload 3, .aload 0, .getfield 815, .bipush 0, .aload 0, .getfield 816, .invokeinterface 35 3, .aload 0, .getfield 815, .bipush 1, .aload 0, .getfield 816, .invokeinterface 35 3, .isub, .iadd, .istore 3, .jsr 50] := rfl
theorem a124_0 {tb : Tab} {d : Nat} {K : Out → AM → Prop} {ls st : List AV} {m : AM} : At tb d 124 K 0 ls st m = wpB tb (pg.2.1 124) (Runs tb pg d) K (At tb d 124 K) [.aload 0, .getfield 801, .iload 2, .iaload, .bipush 2, .idiv, .istore 3, .aload 0, .getfield 815, .ifnull 50, .aload 0, .iload 1, .iload 2, .invokeinterface 126 3, .iload 3, .aload 0, .getfield 815, .bipush 0, .aload 0, .getfield 816, .invokeinterface 35 3, .aload 0, .getfield 815, .bipush 1, .aload 0, .getfield 816, .invokeinterface 35 3, .isub, .iadd, .istore 3, .jsr 50] ls st m := At.eq k124_0
theorem k124_50 : pg.1 124 50 = [.bipush 0, .iload 3, .invokestatic 1, .ireturn] := rfl
theorem a124_50 {tb : Tab} {d : Nat} {K : Out → AM → Prop} {ls st : List AV} {m : AM} : At tb d 124 K 50 ls st m = wpB tb (pg.2.1 124) (Runs tb pg d) K (At tb d 124 K) [.bipush 0, .iload 3, .invokestatic 1, .ireturn] ls st m := At.eq k124_50
theorem w_124 {p f : Int} (hw : isW w) (hR : RW S w r) (hA : AB r) (hp : 0 ≤ p ∧ p < r 4) (hf : 0 ≤ f ∧ f < r 3) (hl : LWo m (S w 15) (lawD r)) (hK : ∀ T m1 v, v = mltR evL r p f → FT S T w → MS m m1 → K (.inl (some (vi v))) (X T m1)) : Runs tb pg (d + 3) 124 [vr w, vi p, vi f] (X S m) K := by
  have b3 := hA.2.1.1
  have b4 := hA.2.1.2.1
  have b5 := hA.2.1.2.2.1
  have e0 := hR.1.1
  have e4 := hR.1.2.1
  obtain ⟨q1, q2, q3, q4⟩ := hR.2.2.1 p hp.1 hp.2
  have z := AB_pp hA hp.1 hp.2
  have y := AB_ff hA hf.1 hf.2
  obtain ⟨f1, f2, f3⟩ := hR.2.1 f hf.1 hf.2
  have s10 := hR.2.2.2.2.2 4 (by omega) (by omega)
  have s10b : S (w + 15) 4 = r 10 := s10
  have b10 := hA.2.1.2.2.2.2.2.2.2.2
  have hfc := fcR_ok hA hp hf
  rcases hl with ⟨l1, l2⟩ | ⟨l1, l2⟩
  · have hv := lv_n (x := S w 15) (by omega)
    refine Runs.of (al := [vr w, vi p, vi f]) (n := 1) ⟨w, _, _, rfl, xo_w0 hw⟩ rfl rfl trivial ?_
    repeat' (first | omega | with_reducible refine hK _ _ _ ?_ ?_ ?_ | simp only [w_aload, x_g801_w0, w_iload, x_iald, w_ialoads, w_ialoadw, w_iconst, w_idiv, w_istore, x_g815_w0, w_ifnull, w_ifnulln, Int.reduceToNat, w_call, x_g816_w0, w_isub, w_iadd, w_fall, w_max, w_ireturn, isA_w1, isA_w2, isA_w3, isA_w4, isA_w5, isA_w6, isA_w7, isA_w8, isA_w10, isA_w11, isA_w12, isA_w14, isA_w15, isA_w16, len_w1, len_w2, len_w3, len_w4, len_w5, len_w6, len_w7, len_w8, len_w10, len_w11, len_w12, len_w14, len_w15, len_w16, Int.cast_ofNat_Int, a124_0, a124_50, R32, List.getElem?_cons_zero, List.getElem?_cons_succ, List.set_cons_zero, List.set_cons_succ, List.cons_append, List.nil_append, List.replicate_succ, List.replicate_zero, List.take_succ_cons, List.take_zero, List.drop_succ_cons, List.drop_zero, List.reverse_cons, List.reverse_nil, List.length_cons, List.length_nil, Option.toList, true_and, and_true, eq_self, ↓reduceIte, not_true_eq_false, not_false_eq_true, true_or, or_true, hw, hv] | with_reducible refine And.intro ?_ ?_ | with_reducible intro _)
    all_goals (try (first | omega | (exfalso; assumption) | (rw [mlt_n l2]; try (split <;> omega)) | exact FT_r | exact MS_r))
  have hv := lv_r l1
  have t0 := tot_rg (k := 0) (fc := fcR r p f) (D := lawD r)
  have t1 := tot_rg (k := 1) (fc := fcR r p f) (D := lawD r)
  have t2 := tot_rg (k := 2) (fc := fcR r p f) (D := lawD r)
  refine Runs.of (al := [vr w, vi p, vi f]) (n := 1) ⟨w, _, _, rfl, xo_w0 hw⟩ rfl rfl trivial ?_
  repeat' (first | omega | with_reducible refine hK _ _ _ ?_ ?_ ?_ | simp only [w_aload, x_g801_w0, w_iload, x_iald, w_ialoads, w_ialoadw, w_iconst, w_idiv, w_istore, x_g815_w0, w_ifnull, w_ifnulln, Int.reduceToNat, w_call, x_g816_w0, w_isub, w_iadd, w_fall, w_max, w_ireturn, isA_w1, isA_w2, isA_w3, isA_w4, isA_w5, isA_w6, isA_w7, isA_w8, isA_w10, isA_w11, isA_w12, isA_w14, isA_w15, isA_w16, len_w1, len_w2, len_w3, len_w4, len_w5, len_w6, len_w7, len_w8, len_w10, len_w11, len_w12, len_w14, len_w15, len_w16, Int.cast_ofNat_Int, a124_0, a124_50, R32, List.getElem?_cons_zero, List.getElem?_cons_succ, List.set_cons_zero, List.set_cons_succ, List.cons_append, List.nil_append, List.replicate_succ, List.replicate_zero, List.take_succ_cons, List.take_zero, List.drop_succ_cons, List.drop_zero, List.reverse_cons, List.reverse_nil, List.length_cons, List.length_nil, Option.toList, true_and, and_true, eq_self, ↓reduceIte, not_true_eq_false, not_false_eq_true, true_or, or_true, hw, hv, fcW_w] | with_reducible refine w_126s hw hR hA hp hf ?_ | with_reducible refine w_35 hw l2 hfc fcW_f (by decide) (fun m1 v1 x1 M1 => ?_) | with_reducible refine w_35 hw (MS_l M1 l2) hfc fcW_f (by decide) (fun m2 v2 x2 M2 => ?_) | with_reducible refine And.intro ?_ ?_ | with_reducible intro _)
  all_goals (try (first | omega | (exfalso; assumption) | (rw [mlt_v]; split <;> omega) | exact FT_fc | exact M1 | exact MS_t M1 M2))
theorem k125_0 : pg.1 125 0 = [.bipush 4, .istore 3, .aload 0, .getfield 815, .ifnull 30, .aload 0, .iload 1, .iload 2, .invokeinterface 126 3, .iload 3, .aload 0, .getfield 815, .bipush 2, .aload 0, .getfield 816, .invokeinterface 35 3, .iadd, .istore 3, .jsr 30] := rfl
theorem a125_0 {tb : Tab} {d : Nat} {K : Out → AM → Prop} {ls st : List AV} {m : AM} : At tb d 125 K 0 ls st m = wpB tb (pg.2.1 125) (Runs tb pg d) K (At tb d 125 K) [.bipush 4, .istore 3, .aload 0, .getfield 815, .ifnull 30, .aload 0, .iload 1, .iload 2, .invokeinterface 126 3, .iload 3, .aload 0, .getfield 815, .bipush 2, .aload 0, .getfield 816, .invokeinterface 35 3, .iadd, .istore 3, .jsr 30] ls st m := At.eq k125_0
theorem k125_30 : pg.1 125 30 = [.bipush 9, .iload 3, .invokestatic 0, .ireturn] := rfl
theorem a125_30 {tb : Tab} {d : Nat} {K : Out → AM → Prop} {ls st : List AV} {m : AM} : At tb d 125 K 30 ls st m = wpB tb (pg.2.1 125) (Runs tb pg d) K (At tb d 125 K) [.bipush 9, .iload 3, .invokestatic 0, .ireturn] ls st m := At.eq k125_30
theorem w_125 {p f : Int} (hw : isW w) (hR : RW S w r) (hA : AB r) (hp : 0 ≤ p ∧ p < r 4) (hf : 0 ≤ f ∧ f < r 3) (hl : LWo m (S w 15) (lawD r)) (hK : ∀ T m1 v, v = dptR evL r p f → FT S T w → MS m m1 → K (.inl (some (vi v))) (X T m1)) : Runs tb pg (d + 3) 125 [vr w, vi p, vi f] (X S m) K := by
  have b3 := hA.2.1.1
  have b4 := hA.2.1.2.1
  have b5 := hA.2.1.2.2.1
  have e0 := hR.1.1
  have e4 := hR.1.2.1
  obtain ⟨q1, q2, q3, q4⟩ := hR.2.2.1 p hp.1 hp.2
  have z := AB_pp hA hp.1 hp.2
  have y := AB_ff hA hf.1 hf.2
  obtain ⟨f1, f2, f3⟩ := hR.2.1 f hf.1 hf.2
  have s10 := hR.2.2.2.2.2 4 (by omega) (by omega)
  have s10b : S (w + 15) 4 = r 10 := s10
  have b10 := hA.2.1.2.2.2.2.2.2.2.2
  have hfc := fcR_ok hA hp hf
  rcases hl with ⟨l1, l2⟩ | ⟨l1, l2⟩
  · have hv := lv_n (x := S w 15) (by omega)
    refine Runs.of (al := [vr w, vi p, vi f]) (n := 1) ⟨w, _, _, rfl, xo_w0 hw⟩ rfl rfl trivial ?_
    repeat' (first | omega | with_reducible refine hK _ _ _ ?_ ?_ ?_ | simp only [w_iconst, w_istore, w_aload, x_g815_w0, w_ifnull, w_ifnulln, Int.reduceToNat, w_iload, w_call, x_g816_w0, w_iadd, w_fall, w_min, w_ireturn, a125_0, a125_30, R32, List.getElem?_cons_zero, List.getElem?_cons_succ, List.set_cons_zero, List.set_cons_succ, List.cons_append, List.nil_append, List.replicate_succ, List.replicate_zero, List.take_succ_cons, List.take_zero, List.drop_succ_cons, List.drop_zero, List.reverse_cons, List.reverse_nil, List.length_cons, List.length_nil, Option.toList, true_and, and_true, eq_self, ↓reduceIte, not_true_eq_false, not_false_eq_true, true_or, or_true, hw, hv] | with_reducible refine And.intro ?_ ?_ | with_reducible intro _)
    all_goals (try (first | omega | (exfalso; assumption) | (rw [dpt_n l2]; try (split <;> omega)) | exact FT_r | exact MS_r))
  have hv := lv_r l1
  have t0 := tot_rg (k := 0) (fc := fcR r p f) (D := lawD r)
  have t1 := tot_rg (k := 1) (fc := fcR r p f) (D := lawD r)
  have t2 := tot_rg (k := 2) (fc := fcR r p f) (D := lawD r)
  refine Runs.of (al := [vr w, vi p, vi f]) (n := 1) ⟨w, _, _, rfl, xo_w0 hw⟩ rfl rfl trivial ?_
  repeat' (first | omega | with_reducible refine hK _ _ _ ?_ ?_ ?_ | simp only [w_iconst, w_istore, w_aload, x_g815_w0, w_ifnull, w_ifnulln, Int.reduceToNat, w_iload, w_call, x_g816_w0, w_iadd, w_fall, w_min, w_ireturn, a125_0, a125_30, R32, List.getElem?_cons_zero, List.getElem?_cons_succ, List.set_cons_zero, List.set_cons_succ, List.cons_append, List.nil_append, List.replicate_succ, List.replicate_zero, List.take_succ_cons, List.take_zero, List.drop_succ_cons, List.drop_zero, List.reverse_cons, List.reverse_nil, List.length_cons, List.length_nil, Option.toList, true_and, and_true, eq_self, ↓reduceIte, not_true_eq_false, not_false_eq_true, true_or, or_true, hw, hv, fcW_w] | with_reducible refine w_126s hw hR hA hp hf ?_ | with_reducible refine w_35 hw l2 hfc fcW_f (by decide) (fun m1 v1 x1 M1 => ?_) | with_reducible refine w_35 hw (MS_l M1 l2) hfc fcW_f (by decide) (fun m2 v2 x2 M2 => ?_) | with_reducible refine And.intro ?_ ?_ | with_reducible intro _)
  all_goals (try (first | omega | (exfalso; assumption) | (rw [dpt_v]; split <;> omega) | exact FT_fc | exact M1 | exact MS_t M1 M2))
theorem w_106 {v : Nat} {D : LawD} (hw : isW w) (hv : isW v) (hd : disW w v) (hl : LWo m (S v 15) D) (hK : ∀ T, CPw S T w v → K (.inl none) (X T m)) : Runs tb pg (d + 2) 106 [vr w, vr v] (X S m) K := by
  rcases hl with ⟨l1, _⟩ | ⟨l1, _⟩
  · exact w_106n hw hv hd l1 hK
  · exact w_106r hw hv hd (n := (S v 15).toNat) (by omega) hK
end World7
