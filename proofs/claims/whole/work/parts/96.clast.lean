/-! ===== THE CLASS: one alone lasts as long as among others ===== -/
theorem RW_off {S : Nat → Int → Int} {w : Nat} {r : Int → Int} {p : Int} (hA : AB r) (hR : RW S w r) (h0 : 0 ≤ p) (h1 : p < r 4) : RW (upS S (w + 6) p (-1)) w (putR r (31 + 20 * p + 1) (-1)) := by
  by_cases y : pr r p 1 = -1
  · have e1 : putR r (31 + 20 * p + 1) (-1) = r := by
      funext j
      unfold putR
      by_cases z : j = 31 + 20 * p + 1
      · rw [if_pos z, z]; exact y.symm
      · rw [if_neg z]
    have t := (hR.2.2.1 p h0 h1).2.1
    have e2 : upS S (w + 6) p (-1) = S := by
      funext b j
      rw [upS_at]
      by_cases z : b = w + 6 ∧ j = p
      · rw [if_pos z, z.1, z.2, t]; exact y.symm
      · rw [if_neg z]
    rw [e1, e2]; exact hR
  · exact RW_on hA hR h0 h1 y
/-- the first i people but p are away -/
def alP (r : Int → Int) (p i : Int) : Int → Int := fun j => if (32 ≤ j ∧ j < 32 + 20 * i) ∧ (j - 32) % 20 = 0 ∧ j ≠ 32 + 20 * p then -1 else r j
theorem alP_0 {r : Int → Int} {p : Int} : alP r p 0 = r := by
  funext j
  exact if_neg (by omega)
theorem alP_s {r : Int → Int} {p i : Int} (h0 : 0 ≤ i) (h : i ≠ p) : putR (alP r p i) (31 + 20 * i + 1) (-1) = alP r p (i + 1) := by
  funext j
  unfold putR alP
  by_cases z : j = 31 + 20 * i + 1
  · rw [if_pos z, if_pos (by omega)]
  · rw [if_neg z]
    by_cases y : (32 ≤ j ∧ j < 32 + 20 * i) ∧ (j - 32) % 20 = 0 ∧ j ≠ 32 + 20 * p
    · rw [if_pos y, if_pos (by omega)]
    · rw [if_neg y, if_neg (by omega)]
theorem alP_n {r : Int → Int} {p i : Int} (h : i = p) : alP r p i = alP r p (i + 1) := by
  funext j
  unfold alP
  by_cases y : (32 ≤ j ∧ j < 32 + 20 * i) ∧ (j - 32) % 20 = 0 ∧ j ≠ 32 + 20 * p
  · rw [if_pos y, if_pos (by omega)]
  · rw [if_neg y, if_neg (by omega)]
theorem alP_o {r : Int → Int} {p i j : Int} (hi : i ≤ 6) (h : j < 31 ∨ 151 ≤ j) : alP r p i j = r j := if_neg (by omega)
theorem alP_AB {r : Int → Int} {p : Int} (hA : AB r) : ∀ i : Nat, i ≤ 6 → AB (alP r p i)
  | 0, _ => by rw [show ((0 : Nat) : Int) = 0 from rfl, alP_0]; exact hA
  | i + 1, h => by
    have ih := alP_AB (p := p) hA i (by omega)
    rw [show ((i + 1 : Nat) : Int) = (i : Int) + 1 by omega]
    have e3 : alP r p i 3 = r 3 := alP_o (by omega) (by omega)
    have b3 := hA.2.1.1
    by_cases z : (i : Int) = p
    · rw [← alP_n z]; exact ih
    · rw [← alP_s (by omega) z]
      exact on_AB (by omega) (by omega) (by omega) (by omega) ih
/-- the same for one: but for the other people, the log and the draws -/
def SP (p : Int) (q r : Int → Int) : Prop := (∀ j, j < 11 ∨ (13 ≤ j ∧ j < 31) ∨ (151 ≤ j ∧ j < 175) ∨ 415 ≤ j → q j = r j) ∧ ∀ w, 0 ≤ w → w < 20 → pr q p w = pr r p w
theorem SP_r {p : Int} {r : Int → Int} : SP p r r := ⟨fun _ _ => rfl, fun _ _ _ => rfl⟩
theorem SP_t {p : Int} {q r s : Int → Int} (h : SP p q r) (g : SP p r s) : SP p q s := ⟨fun j hj => (h.1 j hj).trans (g.1 j hj), fun w w0 w1 => (h.2 w w0 w1).trans (g.2 w w0 w1)⟩
theorem SP_y {p : Int} {q r : Int → Int} (h : SP p q r) : SP p r q := ⟨fun j hj => (h.1 j hj).symm, fun w w0 w1 => (h.2 w w0 w1).symm⟩
theorem SP_al {p i : Int} {r : Int → Int} (hi : i ≤ 6) : SP p (alP r p i) r := ⟨fun j hj => alP_o hi (by omega), fun w w0 w1 => if_neg (by omega)⟩
theorem SP_wh {p : Int} {q r : Int → Int} (h : SP p q r) (hs : pr r p 0 ≤ 6) : wholeM (pr q) p (pr q p 0) ↔ wholeM (pr r) p (pr r p 0) := by
  unfold wholeM
  rw [h.2 0 (by omega) (by omega), h.2 1 (by omega) (by omega)]
  constructor
  · intro g
    refine ⟨g.1, fun k k0 k1 => ?_⟩
    have := g.2 k k0 k1
    rw [h.2 (14 + k) (by omega) (by omega), h.2 (8 + k) (by omega) (by omega), h.2 (2 + k) (by omega) (by omega)] at this
    exact this
  · intro g
    refine ⟨g.1, fun k k0 k1 => ?_⟩
    rw [h.2 (14 + k) (by omega) (by omega), h.2 (8 + k) (by omega) (by omega), h.2 (2 + k) (by omega) (by omega)]
    exact g.2 k k0 k1
theorem SP_k {p k n b : Int} {q : Int → Int} (p0 : 0 ≤ p) (p1 : p < 6) (k0 : 0 ≤ k) (k1 : k < 6) (hk : k ≠ p) (hc : pr q k 0 ≤ 6) : SP p (sinkR q k n b) q := by
  unfold sinkR
  split
  · exact ⟨fun j hj => sinkP_o k0 k1 hc (by omega), fun w w0 w1 => by rw [sinkP_p hc w0 w1, if_neg (by omega)]⟩
  · refine ⟨fun j hj => ?_, fun w w0 w1 => ?_⟩
    · rw [leavesR_o k0 k1 (by omega), logsR_o (by omega) (by omega), sinkP_o k0 k1 hc (by omega)]
    · rw [leavesR_p w0 w1, if_neg (by omega), if_neg (by omega), logsR_p p0 p1 w0 w1, sinkP_p hc w0 w1, if_neg (by omega)]
theorem SP_p {p n b : Int} {q r : Int → Int} (p0 : 0 ≤ p) (p1 : p < 6) (h : SP p q r) (hc : pr r p 0 ≤ 6) : SP p (sinkR q p n b) (sinkR r p n b) := by
  have hc2 : pr q p 0 ≤ 6 := by rw [h.2 0 (by omega) (by omega)]; exact hc
  have hs : SP p (sinkP q p n b (pr q p 0)) (sinkP r p n b (pr r p 0)) := by
    refine ⟨fun j hj => ?_, fun w w0 w1 => ?_⟩
    · rw [sinkP_o p0 p1 hc2 (by omega), sinkP_o p0 p1 hc (by omega)]; exact h.1 j hj
    · rw [sinkP_p hc2 w0 w1, sinkP_p hc w0 w1, h.2 0 (by omega) (by omega), h.2 w w0 w1]
  have hl : leftM (pr (sinkP q p n b (pr q p 0))) p (pr q p 0) = leftM (pr (sinkP r p n b (pr r p 0))) p (pr r p 0) := by
    rw [h.2 0 (by omega) (by omega)]
    have := leftM_c (k := p) (n := pr r p 0) hs.2 hc
    rw [h.2 0 (by omega) (by omega)] at this
    exact this
  unfold sinkR
  rw [hl]
  split
  · exact hs
  · refine ⟨fun j hj => ?_, fun w w0 w1 => ?_⟩
    · rw [leavesR_o p0 p1 (by omega), logsR_o (by omega) (by omega), leavesR_o p0 p1 (by omega), logsR_o (by omega) (by omega)]
      exact hs.1 j hj
    · rw [leavesR_p w0 w1, leavesR_p w0 w1, logsR_p p0 p1 w0 w1, logsR_p p0 p1 w0 w1, hs.2 w w0 w1]
theorem SP_snk {p : Int} {n n2 b b2 : (Int → Int) → Int → Int} {q r : Int → Int} (p0 : 0 ≤ p) (p1 : p < 6) (hq : AB q) (hr : AB r) (hn : ∀ q k, 0 ≤ n q k) (hn2 : ∀ q k, 0 ≤ n2 q k) (h : SP p q r) (he : ∀ x y, SP p x y → AB y → pr y p 1 ≠ -1 → n x p = n2 y p ∧ b x p = b2 y p) : ∀ k : Nat, k ≤ 6 → SP p (snkN n b q k) (snkN n2 b2 r k)
  | 0, _ => h
  | k + 1, hk => by
    have ih := SP_snk (b := b) (b2 := b2) p0 p1 hq hr hn hn2 h he k (by omega)
    have xq := snkN_P6 (b := b) hq hn (k := k) (by omega) k (by omega) (by omega)
    have xr := snkN_P6 (b := b2) hr hn2 (k := k) (by omega) k (by omega) (by omega)
    have g := he _ _ ih (snkN_AB (b := b2) hr hn2 k (by omega))
    show SP p (if pr (snkN n b q k) k 1 = -1 then snkN n b q k else sinkR (snkN n b q k) k (n (snkN n b q k) k) (b (snkN n b q k) k)) (if pr (snkN n2 b2 r k) k 1 = -1 then snkN n2 b2 r k else sinkR (snkN n2 b2 r k) k (n2 (snkN n2 b2 r k) k) (b2 (snkN n2 b2 r k) k))
    by_cases z : (k : Int) = p
    · rw [z, ih.2 1 (by omega) (by omega)]
      by_cases z2 : pr (snkN n2 b2 r k) p 1 = -1
      · rw [if_pos z2, if_pos z2]; exact ih
      · rw [if_neg z2, if_neg z2, (g z2).1, (g z2).2]
        exact SP_p p0 p1 ih (by rw [← z]; exact xr.2)
    · have s1 : SP p (if pr (snkN n b q k) k 1 = -1 then snkN n b q k else sinkR (snkN n b q k) k (n (snkN n b q k) k) (b (snkN n b q k) k)) (snkN n b q k) := by
        split
        · exact SP_r
        · exact SP_k p0 p1 (by omega) (by omega) z xq.2
      have s2 : SP p (if pr (snkN n2 b2 r k) k 1 = -1 then snkN n2 b2 r k else sinkR (snkN n2 b2 r k) k (n2 (snkN n2 b2 r k) k) (b2 (snkN n2 b2 r k) k)) (snkN n2 b2 r k) := by
        split
        · exact SP_r
        · exact SP_k p0 p1 (by omega) (by omega) z xr.2
      exact SP_t s1 (SP_t ih (SP_y s2))
theorem SP_sn {p : Int} {q r : Int → Int} (h : SP p q r) (p0 : 0 ≤ p) {i : Int} (hi : i ≤ 6) : SP p (snwP thV q i) (snwP thV r i) := by
  refine ⟨fun j hj => ?_, fun w w0 w1 => ?_⟩
  · unfold snwP
    by_cases c : 14 ≤ j ∧ j < 13 + 3 * i ∧ (j - 14) % 3 = 0
    · rw [if_pos c, if_pos c]
      unfold thV
      rw [h.1 j hj, h.1 (j - 1) (by omega)]
    · rw [if_neg c, if_neg c]; exact h.1 j hj
  · have e1 : pr (snwP thV q i) p w = pr q p w := snwP_o (j := 31 + 20 * p + w) hi (by omega)
    have e2 : pr (snwP thV r i) p w = pr r p w := snwP_o (j := 31 + 20 * p + w) hi (by omega)
    rw [e1, e2]; exact h.2 w w0 w1
theorem SP_mlt {p f : Int} {q r : Int → Int} (h : SP p q r) (hf : 0 ≤ f ∧ f < 6) (hA : AB r) (p0 : 0 ≤ p) (p1 : p < 6) : mltR evL q p f = mltR evL r p f := mltR_c h.1 h.2 hf ((hA.2.2.1 p p0 p1).1.2) hA.2.1.2.2.1.2
theorem SP_dpt {p f : Int} {q r : Int → Int} (h : SP p q r) (hf : 0 ≤ f ∧ f < 6) (hA : AB r) (p0 : 0 ≤ p) (p1 : p < 6) : dptR evL q p f = dptR evL r p f := by
  unfold dptR
  rw [fcR_c h.1 h.2 hf ((hA.2.2.1 p p0 p1).1.2) hA.2.1.2.2.1.2, lawD_eq (r := r) (q := q) (fun j hj => h.1 j (by omega))]
theorem SP_pass {p : Int} {q r : Int → Int} (p0 : 0 ≤ p) (p1 : p < 6) (hq : AB q) (hr : AB r) (h : SP p q r) : SP p (passR evL 0 q) (passR evL 0 r) := by
  have e3 := h.1 3 (by omega)
  have e4 := h.1 4 (by omega)
  have b3 := hr.2.1.1
  have b4 := hr.2.1.2.1
  rw [pass0, pass0]
  have s1 := SP_sn h p0 (i := r 3) b3.2
  have t : SP p (thawsR evL q) (thawsR evL r) := by
    unfold thawsR
    rw [e3, e4]
    have aq : AB (snwP thV q (r 3)) := by rw [← e3]; exact thV_AB hq
    refine SP_snk p0 p1 aq (thV_AB hr) (fun _ _ => mlF_0) (fun _ _ => mlF_0) s1 (fun x y hx hy hon => ⟨?_, ?_⟩) _ (by omega)
    · show mlF evL q p = mlF evL r p
      unfold mlF
      rw [h.2 1 (by omega) (by omega)]
      by_cases z : pr r p 1 = -1
      · rw [if_pos z, if_pos z]
      · rw [if_neg z, if_neg z]
        have b := (hr.2.2.1 p p0 p1).2.1
        exact SP_mlt h (by omega) hr p0 p1
    · show bareF x p = bareF y p
      unfold bareF
      have z := hy.2.2.1 p p0 p1
      rw [hx.2 1 (by omega) (by omega), show fr x (pr y p 1) 1 = fr y (pr y p 1) 1 from hx.1 _ (by omega)]
  refine ⟨fun j hj => ?_, fun w w0 w1 => ?_⟩
  · show (if j = 10 then (if 9999 < thawsR evL q 10 + 1 then 9999 else thawsR evL q 10 + 1) else thawsR evL q j) = if j = 10 then (if 9999 < thawsR evL r 10 + 1 then 9999 else thawsR evL r 10 + 1) else thawsR evL r j
    rw [t.1 10 (by omega), t.1 j hj]
  · have e1 : pr (st4 (thawsR evL q)) p w = pr (thawsR evL q) p w := if_neg (by omega)
    have e2 : pr (st4 (thawsR evL r)) p w = pr (thawsR evL r) p w := if_neg (by omega)
    rw [e1, e2]; exact t.2 w w0 w1
theorem SP_go {p : Int} {q r : Int → Int} (p0 : 0 ≤ p) (p1 : p < 6) (hq : AB q) (hr : AB r) (h : SP p q r) : ∀ k : Nat, SP p (goN evL 0 q k) (goN evL 0 r k)
  | 0 => h
  | k + 1 => SP_pass p0 p1 (goN_AB hq k).1 (goN_AB hr k).1 (SP_go p0 p1 hq hr h k)
theorem go_wh {p : Int} {q r : Int → Int} (p0 : 0 ≤ p) (p1 : p < 6) (hq : AB q) (hr : AB r) (h : SP p q r) (k : Nat) : wholeM (pr (goN evL 0 q k)) p (pr (goN evL 0 q k) p 0) ↔ wholeM (pr (goN evL 0 r k)) p (pr (goN evL 0 r k) p 0) := SP_wh (SP_go p0 p1 hq hr h k) ((goN_AB hr k).1.2.2.1 p p0 p1).1.2
theorem isLst_SP {p n : Int} {q r : Int → Int} (p0 : 0 ≤ p) (p1 : p < 6) (hq : AB q) (hr : AB r) (h : SP p q r) (g : isLst evL q p n) : isLst evL r p n :=
  ⟨g.1, fun k k0 k1 => (go_wh p0 p1 hq hr h _).mp (g.2.1 k k0 k1), g.2.2.elim Or.inl (fun z => Or.inr (fun y => z ((go_wh p0 p1 hq hr h _).mpr y)))⟩
section Last1
variable {tb : Tab} {d : Nat} {m : AM} {K : Out → AM → Prop} {S : Nat → Int → Int} {w : Nat} {r : Int → Int}
theorem isW_71 : isW 71 := by unfold isW; omega
theorem k1_0 : pg.1 1 0 = [.aload 0, .invokeinterface 5 1, .aload 0, .invokeinterface 8 1, .aload 0, .invokeinterface 3 1, .return_] := rfl
theorem a1_0 {tb : Tab} {d : Nat} {K : Out → AM → Prop} {ls st : List AV} {m : AM} : At tb d 1 K 0 ls st m = wpB tb (pg.2.1 1) (Runs tb pg d) K (At tb d 1 K) [.aload 0, .invokeinterface 5 1, .aload 0, .invokeinterface 8 1, .aload 0, .invokeinterface 3 1, .return_] ls st m := At.eq k1_0
theorem w_1 (hw : isW w) (hR : RW S w r) (hA : AB r) (hlo : LWo m (S w 15) (lawD r)) (hK : ∀ T m1, RW T w (passR evL 0 r) → EW S T w → T w 15 = S w 15 → MS m m1 → K (.inl none) (X T m1)) : Runs tb pg (d + 5) 1 [vr w] (X S m) K := by
  refine Runs.of (al := [vr w]) (n := 0) trivial rfl rfl trivial ?_
  have b3 := hA.2.1.1
  have b4 := hA.2.1.2.1
  have b5 := hA.2.1.2.2.1
  have e0 := hR.1.1
  have e4 := hR.1.2.1
  have eA := sn_lg hA
  have aA := th_row hA
  have eL := thaws_lg hA
  repeat' (first | omega | (exact hK _ _ (by rw [pass0]; exact x3) (EW_t E1 (EW_t E2 E3)) (l3.trans (l2.trans l1)) M1) | simp only [w_aload, w_call, w_return, a1_0, R32, List.getElem?_cons_zero, List.getElem?_cons_succ, List.set_cons_zero, List.set_cons_succ, List.cons_append, List.nil_append, List.replicate_succ, List.replicate_zero, List.take_succ_cons, List.take_zero, List.drop_succ_cons, List.drop_zero, List.reverse_cons, List.reverse_nil, List.length_cons, List.length_nil, Option.toList, true_and, and_true, eq_self, ↓reduceIte, not_true_eq_false, not_false_eq_true, true_or, or_true, hw] | with_reducible refine w_5 hw hR hA hlo (fun T1 m1 x1 E1 l1 M1 => ?_) | (rw [eA] at x1; (with_reducible refine w_8 hw x1 aA.1 (fun T2 x2 E2 l2 => ?_)); rw [aA.2, eL] at x2) | with_reducible refine w_3 hw x2 (thawsR_AB hA) (fun T3 x3 E3 l3 => ?_) | with_reducible refine And.intro ?_ ?_ | with_reducible intro _)
  all_goals (try (first | omega | (exfalso; assumption) | skip))
theorem k27_0 : pg.1 27 0 = [.bipush 0, .istore 2, .jsr 2] := rfl
theorem a27_0 {tb : Tab} {d : Nat} {K : Out → AM → Prop} {ls st : List AV} {m : AM} : At tb d 27 K 0 ls st m = wpB tb (pg.2.1 27) (Runs tb pg d) K (At tb d 27 K) [.bipush 0, .istore 2, .jsr 2] ls st m := At.eq k27_0
theorem k27_2 : pg.1 27 2 = [.iload 2, .bipush 60, .if_icmp .gt 34, .aload 0, .getfield 100, .iload 1, .invokeinterface 118 2, .ifCond .ne 21, .iload 2, .ireturn] := rfl
theorem a27_2 {tb : Tab} {d : Nat} {K : Out → AM → Prop} {ls st : List AV} {m : AM} : At tb d 27 K 2 ls st m = wpB tb (pg.2.1 27) (Runs tb pg d) K (At tb d 27 K) [.iload 2, .bipush 60, .if_icmp .gt 34, .aload 0, .getfield 100, .iload 1, .invokeinterface 118 2, .ifCond .ne 21, .iload 2, .ireturn] ls st m := At.eq k27_2
theorem k27_21 : pg.1 27 21 = [.aload 0, .getfield 100, .invokeinterface 1 1, .iinc 2 1, .goto 2] := rfl
theorem a27_21 {tb : Tab} {d : Nat} {K : Out → AM → Prop} {ls st : List AV} {m : AM} : At tb d 27 K 21 ls st m = wpB tb (pg.2.1 27) (Runs tb pg d) K (At tb d 27 K) [.aload 0, .getfield 100, .invokeinterface 1 1, .iinc 2 1, .goto 2] ls st m := At.eq k27_21
theorem k27_34 : pg.1 27 34 = [.bipush (-1), .ireturn] := rfl
theorem a27_34 {tb : Tab} {d : Nat} {K : Out → AM → Prop} {ls st : List AV} {m : AM} : At tb d 27 K 34 ls st m = wpB tb (pg.2.1 27) (Runs tb pg d) K (At tb d 27 K) [.bipush (-1), .ireturn] ls st m := At.eq k27_34
theorem w_27 {p : Int} (hR : RW S 71 r) (hA : AB r) (hlo : LWo m (S 71 15) (lawD r)) (hp : 0 ≤ p ∧ p < r 4) (hK : ∀ T m1 v n, isLst evL r p n → v = (if 60 < n then -1 else n) → EW S T 71 → T 71 15 = S 71 15 → MS m m1 → K (.inl (some (vi v))) (X T m1)) : Runs tb pg (d + 6) 27 [vr 70, vi p] (X S m) K := by
  have hw := isW_71
  have hgo : ∀ k : Nat, AB (goN evL 0 r k) ∧ LQ r (goN evL 0 r k) := goN_AB hA
  have hL2 : (fun i : Int => ∀ (m1 : AM) (T : Nat → Int → Int), (allW evL r p i) → (RW T 71 (goN evL 0 r i.toNat)) → (EW S T 71) → (T 71 15 = S 71 15) → (MS m m1) → At tb (d + 5) 27 K 2 [vr 70, vi p, vi i] [] (X T m1)) 0 := by
    refine loopZ (fun i : Int => ∀ (m1 : AM) (T : Nat → Int → Int), (allW evL r p i) → (RW T 71 (goN evL 0 r i.toNat)) → (EW S T 71) → (T 71 15 = S 71 15) → (MS m m1) → At tb (d + 5) 27 K 2 [vr 70, vi p, vi i] [] (X T m1)) (61) (by omega) ?_ ?_
    · intro i h0 h1 h9 m1 T hW hT hE hl hM
      obtain ⟨g1, g2⟩ := hgo i.toNat
      have g4 : goN evL 0 r i.toNat 4 = r 4 := goN_4 hA i.toNat
      have hpi : 0 ≤ p ∧ p < goN evL 0 r i.toNat 4 := by omega
      have hlw : LWo m1 (T 71 15) (lawD (goN evL 0 r i.toNat)) := by rw [hl, lawD_LQ g2]; exact LWo_s hM hlo
      have gs := goN_s (ev := evL) (w := 0) (r := r) h0
      rw [a27_2]
      repeat' (first | omega | with_reducible refine h9 _ _ ?_ ?_ ?_ ?_ ?_ | (refine hK _ _ _ i ?_ ?_ hE hl hM) | simp only [w_iconst, w_istore, w_fall, Int.reduceToNat, w_iload, w_ifc, cI, w_aload, x_g100_70, w_call, w_if, w_ireturn, w_iinc, lgB, Nat.reduceSub, w_goto, a27_0, a27_21, a27_34, R32, List.getElem?_cons_zero, List.getElem?_cons_succ, List.set_cons_zero, List.set_cons_succ, List.cons_append, List.nil_append, List.replicate_succ, List.replicate_zero, List.take_succ_cons, List.take_zero, List.drop_succ_cons, List.drop_zero, List.reverse_cons, List.reverse_nil, List.length_cons, List.length_nil, Option.toList, true_and, and_true, eq_self, ↓reduceIte, not_true_eq_false, not_false_eq_true, true_or, or_true, hw] | with_reducible refine w_118 hw hT g1 hpi (fun v1 x1 => ?_) | with_reducible refine w_1 hw hT g1 hlw (fun T2 m2 x2 E2 l2 M2 => ?_) | with_reducible refine And.intro ?_ ?_ | with_reducible intro _)
      all_goals (try (first | omega | contradiction | (exact ⟨by omega, hW, Or.inr (fun y => by rcases x1 with ⟨xa, xb⟩ | ⟨xa, xb⟩; omega; exact xb y)⟩) | (rw [if_neg (by omega)]) | (rw [gs]; exact x2) | exact EW_t hE E2 | exact l2.trans hl | exact MS_t hM M2 | (intro k k0 k1; by_cases y : k = i; (subst y; rcases x1 with ⟨xa, xb⟩ | ⟨xa, xb⟩; exact xb; omega); exact hW k k0 (by omega))))
    · intro m1 T hW hT hE hl hM
      rw [a27_2]
      repeat' (first | omega | (refine hK _ _ _ 61 ⟨by omega, hW, Or.inl rfl⟩ ?_ hE hl hM) | simp only [w_iconst, w_istore, w_fall, Int.reduceToNat, w_iload, w_ifc, cI, w_aload, x_g100_70, w_call, w_if, w_ireturn, w_iinc, lgB, Nat.reduceSub, w_goto, a27_0, a27_21, a27_34, R32, List.getElem?_cons_zero, List.getElem?_cons_succ, List.set_cons_zero, List.set_cons_succ, List.cons_append, List.nil_append, List.replicate_succ, List.replicate_zero, List.take_succ_cons, List.take_zero, List.drop_succ_cons, List.drop_zero, List.reverse_cons, List.reverse_nil, List.length_cons, List.length_nil, Option.toList, true_and, and_true, eq_self, ↓reduceIte, not_true_eq_false, not_false_eq_true, true_or, or_true, hw] | with_reducible refine w_118 hw hT g1 hpi (fun v1 x1 => ?_) | with_reducible refine w_1 hw hT g1 hlw (fun T2 m2 x2 E2 l2 M2 => ?_) | with_reducible refine And.intro ?_ ?_ | with_reducible intro _)
      all_goals (try (first | omega | contradiction | omega))
  refine Runs.of (al := [vr 70, vi p]) (n := 1) ⟨70, _, _, rfl, xo_70⟩ rfl rfl trivial ?_
  repeat' (first | omega | with_reducible refine hL2 _ _ ?_ ?_ ?_ ?_ ?_ | simp only [w_iconst, w_istore, w_fall, Int.reduceToNat, w_iload, w_ifc, cI, w_aload, x_g100_70, w_call, w_if, w_ireturn, w_iinc, lgB, Nat.reduceSub, w_goto, a27_0, a27_21, a27_34, R32, List.getElem?_cons_zero, List.getElem?_cons_succ, List.set_cons_zero, List.set_cons_succ, List.cons_append, List.nil_append, List.replicate_succ, List.replicate_zero, List.take_succ_cons, List.take_zero, List.drop_succ_cons, List.drop_zero, List.reverse_cons, List.reverse_nil, List.length_cons, List.length_nil, Option.toList, true_and, and_true, eq_self, ↓reduceIte, not_true_eq_false, not_false_eq_true, true_or, or_true, hw] | with_reducible refine And.intro ?_ ?_ | with_reducible intro _)
  all_goals (try (first | omega | (exfalso; assumption) | exact hR | exact EW_r | rfl | exact MS_r | (intro k k0 k1; omega)))
end Last1
